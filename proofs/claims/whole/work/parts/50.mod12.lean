theorem mxI_0 (f : Int → Int) (h : Int64) : mxI f 0 h = h := rfl
theorem mxGI_0 (F : Int → Int → Int) (n : Int) (h : Int64) : mxGI F n 0 h = h := rfl
abbrev rmX9_digest : Room := { frames := 6, cells := 0, slots := 0, locals := 139 }
set_option maxHeartbeats 4000000 in
set_option maxRecDepth 100000 in
theorem mX9_digest (l : Launch) (G : GG) (x : Nat) (xs : Nat) (xb : Nat) (xm : Nat) (xf : Nat) (xu : Nat) (xg : Nat) (xw : Nat) (kn : Int) (bl : Int) (ft : Int) (vh : Int) (vm : Int) (vs : Int) (ln : Int) (th : Int) (sp : Int) (pl : Int) (wr : Int) (br : Int) (aS : Int → Int) (aB : Int → Int) (aM : Int → Int) (aO : Int → Int) (aU : Int → Int) (aG : Int → Int) (aW : Int → Int) (M : Int → Bool) (hs0 : 0 ≤ aS 0 ∧ aS 0 ≤ 20) (hs1 : 0 ≤ aS 1 ∧ aS 1 ≤ 20) (hg0 : ∀ j : Int, 0 ≤ j → j < aS 0 → 0 ≤ T9 aS 0 j ∧ T9 aS 0 j < 4) (hg1 : ∀ j : Int, 0 ≤ j → j < aS 1 → 0 ≤ T9 aS 1 j ∧ T9 aS 1 j < 4) (hs2 : 2 ≤ aS 2 ∧ aS 2 ≤ 4) (hbl : bl = 1 ∨ bl = 2) (hft : 0 ≤ ft ∧ ft ≤ 100000) (hJ : rJ bl aM M) (hO : ∀ k : Int, 0 ≤ k → k < 20736 → 0 ≤ aO k ∧ aO k ≤ ft) : Ct l yX9_digest cX9_digest 5 (some .long) rmX9_digest G [.ref x] [bMod G x xs xb xm xf xu xg xw kn bl ft vh vm vs ln th sp pl wr br aS aB aM aO aU aG aW] (fun uo : (Int → Int) × (Int → Int) × (Int → Int) => some (.long (digF (aS 2) (aS 0) (aS 1) (T9 aS 0) (T9 aS 1) vh vm vs ((tGo bl (T9 aS 0) (T9 aS 1) (aS 0) (aS 1) (M, vh, vm, vs)).2.2.1 - vm)))) (fun uo => (∀ k : Int, 0 ≤ k → k < 20736 → 0 ≤ uo.1 k ∧ uo.1 k ≤ ft + 1)) (fun uo => [bMod G x xs xb xm xf xu xg xw kn bl ((ft + 1)) vh vm vs ln 0 ((wL (T9 aS 0) (T9 aS 1) (aS 0) (aS 1))) pl wr br aS aB aM uo.1 aU uo.2.1 uo.2.2]) := by
  refine cof (by decide) (Nat.le_of_ble_eq_true rfl) ?_
  intro p e s m args below meth c A ls hx hb hr hml hown hts hlocks hin hA hK hP hD hS hl Q hQ
  have hown : s.vm.findClass RX9 = some m.cls := hown
  have hl : lv_has ls 5 [(0, .ref x)] := hl
  have KH : ∀ (H : Heap) (locs : List Loc), wP G [bMod G x xs xb xm xf xu xg xw kn bl ft vh vm vs ln th sp pl wr br aS aB aM aO aU aG aW] H → wD A [bMod G x xs xb xm xf xu xg xw kn bl ft vh vm vs ln th sp pl wr br aS aB aM aO aU aG aW] → va_S A s.heap H locs → W p l e rmX9_digest s m args below meth c H locs 0 0 Q (F0 m 0 ls []) := by
    intro H locs hP hD hS
    have hwl := wL_bd (T9 aS 0) (T9 aS 1) hs0 hs1
    refine lv_aload_n hx hb dX9_digest_0 rfl (lv_at hl 0 rfl) ?_
    refine jv_iconst hx hb dX9_digest_1 ?_
    refine va_put (ci := 9) (v := .int (jz 0)) (ty := .int) (C := RX9) (T := TX9) (N := 19) hx hb hts wfX9 tyX9 tyX9_ok nmX9 hown hK.1 hP hD hS 0 rfl rfl 12 (by decide) (hts _ wm822) (fun _ h9 => h9) rfl (by decide +kernel) rfl rfl (Nat.le_of_ble_eq_true rfl) dX9_digest_2 (fun H locs hP hD hS => ?_)
    have hP : wP G [bMod G x xs xb xm xf xu xg xw kn bl ft vh vm vs ln 0 sp pl wr br aS aB aM aO aU aG aW] H := hP
    have hD : wD A [bMod G x xs xb xm xf xu xg xw kn bl ft vh vm vs ln 0 sp pl wr br aS aB aM aO aU aG aW] := hD
    refine lv_ldc2 hx hb hown (hts _ wm1078) dX9_digest_5 ?_
    refine lv_lstore_n (lv' := [(1, .long 4194), (0, .ref x)]) hx hb dX9_digest_8 rfl hl (by decide) rfl (fun ls hl => ?_)
    refine lv_ldc2 hx hb hown (hts _ wm1079) dX9_digest_9 ?_
    refine lv_lload_n hx hb dX9_digest_12 rfl (lv_at hl 0 rfl) ?_
    refine lv_lmul hx hb dX9_digest_13 ?_
    refine lv_aload_n hx hb dX9_digest_14 rfl (lv_at hl 1 rfl) ?_
    refine va_get (ci := 9) (v := .ref xs) (C := RX9) (T := TX9) (N := 19) hx hb hts wfX9 hown hK.1 hP 0 rfl rfl 0 (by decide) (hts _ wm810) (fun _ h9 => h9) rfl dX9_digest_15 ?_
    refine jv_iconst hx hb dX9_digest_18 ?_
    refine jv_iald hx hb hK.1 hP 1 (g := aS) rfl (by omega) (by omega) (by decide) dX9_digest_19 ?_
    refine lv_i2l (v := (jz (aS 2)).toInt64) hx hb dX9_digest_20 rfl ?_
    refine lv_ladd hx hb dX9_digest_21 ?_
    refine jv_topl (fun w_1 ew_1 => ?_)
    have f21 : w_1 = mx _ _ := ew_1
    refine lv_lstore_n (lv' := [(1, .long w_1), (0, .ref x)]) hx hb dX9_digest_22 rfl hl (by decide) rfl (fun ls hl => ?_)
    refine jv_iconst hx hb dX9_digest_23 ?_
    refine lv_istore_n (lv' := [(3, .int (jz 0)), (1, .long w_1), (0, .ref x)]) hx hb dX9_digest_24 rfl hl (by decide) rfl (fun ls hl => ?_)
    have K25 : ∀ (n9 : Nat) (y : Int64) (t : Int) , (((2 : Int) - t).toNat) < n9 → (0 ≤ t ∧ t ≤ 2) → (t = 0 → y = (mx 4194 (aS 2))) → (t = 1 → y = (mxI (T9 aS 0) (aS 0) (mx (mx 4194 (aS 2)) (aS 0)))) → (t = 2 → y = (mxI (T9 aS 1) (aS 1) (mx (mxI (T9 aS 0) (aS 0) (mx (mx 4194 (aS 2)) (aS 0))) (aS 1)))) → ∀ (H : Heap) (locs : List Loc) (ls : Array Slot), wP G [bMod G x xs xb xm xf xu xg xw kn bl ft vh vm vs ln 0 sp pl wr br aS aB aM aO aU aG aW] H → wD A [bMod G x xs xb xm xf xu xg xw kn bl ft vh vm vs ln 0 sp pl wr br aS aB aM aO aU aG aW] → va_S A s.heap H locs → lv_has ls 5 [(0, .ref x), (1, .long y), (3, .int (jz t))] → W p l e rmX9_digest s m args below meth c H locs 0 0 Q (F0 m 25 ls []) := by
      intro n9
      induction n9 with
      | zero => intro y t hm9; exact absurd hm9 (Nat.not_lt_zero _)
      | succ n9 ih25 =>
        intro y t hm9 ht hy0 hy1 hy9 H locs ls hP hD hS hl
        have hts9 : t ≤ 1 → 0 ≤ aS t ∧ aS t ≤ 20 := by intro q; rcases (show t = 0 ∨ t = 1 by omega) with e9 | e9 <;> rw [e9] <;> assumption
        refine lv_iload_n hx hb dX9_digest_25 rfl (lv_at hl 2 rfl) ?_
        refine jv_iconst hx hb dX9_digest_26 ?_
        refine jv_icmp_ge (tgt := 85) hx hb dX9_digest_27 (by decide) (by omega) (by omega) (fun c_2 => ?_) (fun c_2 => ?_)
        · have hA2 := hy9 (by omega)
          refine lv_ldc2 hx hb hown (hts _ wm1079) dX9_digest_85 ?_
          refine lv_lload_n hx hb dX9_digest_88 rfl (lv_at hl 1 rfl) ?_
          refine lv_lmul hx hb dX9_digest_89 ?_
          refine lv_aload_n hx hb dX9_digest_90 rfl (lv_at hl 0 rfl) ?_
          refine kV ⟨hx, hb, hml, hown, hts⟩ hK hA hS hP hD [] [.long (31 * y)] (mX9_whole l G x xs xb xm xf xu xg xw kn bl ft vh vm vs ln 0 sp pl wr br aS aB aM aO aU aG aW (by omega) (by omega) (by exact hg0) (by exact hg1)) lkX9_112 [0] [] (br := []) rfl rfl (by decide) 0 9 rfl rfl rfl rfl (Nat.le_of_ble_eq_true rfl) hl.1 dX9_digest_91 ⟨Nat.le_of_ble_eq_true rfl, Nat.le_of_ble_eq_true rfl⟩ ⟨Nat.le_of_ble_eq_true rfl, Nat.le_of_ble_eq_true rfl⟩ (fun u9 H locs hp9 hP hD hS => ?_)
          obtain ⟨u_3, rfl⟩ : ∃ z, z = u9 := ⟨_, rfl⟩
          have hP : wP G [bMod G x xs xb xm xf xu xg xw kn bl ft vh vm vs ln 0 sp pl wr br aS aB aM aO aU u_3 aW] H := hP
          have hD : wD A [bMod G x xs xb xm xf xu xg xw kn bl ft vh vm vs ln 0 sp pl wr br aS aB aM aO aU u_3 aW] := hD
          show W p l e rmX9_digest s m args below meth c H locs 0 0 Q (F0 m 94 ls [.int (jz (D 1 (T9 aS 0) (T9 aS 1) (aS 0) (aS 1))), .long (31 * y)])
          refine lv_i2l (v := (jz (D 1 (T9 aS 0) (T9 aS 1) (aS 0) (aS 1))).toInt64) hx hb dX9_digest_94 rfl ?_
          refine lv_ladd hx hb dX9_digest_95 ?_
          refine jv_topl (fun w_4 ew_4 => ?_)
          have f95 : w_4 = mx _ _ := ew_4
          refine lv_lstore_n (lv' := [(1, .long w_4), (0, .ref x), (3, .int (jz t))]) hx hb dX9_digest_96 rfl hl (by decide) rfl (fun ls hl => ?_)
          refine lv_aload_n hx hb dX9_digest_97 rfl (lv_at hl 1 rfl) ?_
          refine kV ⟨hx, hb, hml, hown, hts⟩ hK hA hS hP hD [] [] (mX9_layWay l G x xs xb xm xf xu xg xw kn bl ft vh vm vs ln 0 sp pl wr br aS aB aM aO aU u_3 aW (by omega) (by omega) (by exact hg0) (by exact hg1)) lkX9_116 [0] [] (br := []) rfl rfl (by decide) 0 9 rfl rfl rfl rfl (Nat.le_of_ble_eq_true rfl) hl.1 dX9_digest_98 ⟨Nat.le_of_ble_eq_true rfl, Nat.le_of_ble_eq_true rfl⟩ ⟨Nat.le_of_ble_eq_true rfl, Nat.le_of_ble_eq_true rfl⟩ (fun u9 H locs hp9 hP hD hS => ?_)
          obtain ⟨u_5, u_6⟩ := u9
          have hc_7 : ∀ x : Int, 0 ≤ x → x < wL (T9 aS 0) (T9 aS 1) (aS 0) (aS 1) → u_6 x = wA (T9 aS 0) (T9 aS 1) (aS 0) (aS 1) x := hp9
          have hP : wP G [bMod G x xs xb xm xf xu xg xw kn bl ft vh vm vs ln 0 ((wL (T9 aS 0) (T9 aS 1) (aS 0) (aS 1))) pl wr br aS aB aM aO aU u_5 u_6] H := hP
          have hD : wD A [bMod G x xs xb xm xf xu xg xw kn bl ft vh vm vs ln 0 ((wL (T9 aS 0) (T9 aS 1) (aS 0) (aS 1))) pl wr br aS aB aM aO aU u_5 u_6] := hD
          show W p l e rmX9_digest s m args below meth c H locs 0 0 Q (F0 m 101 ls [])
          have hcw := hc_7
          refine lv_ldc2 hx hb hown (hts _ wm1079) dX9_digest_101 ?_
          refine lv_lload_n hx hb dX9_digest_104 rfl (lv_at hl 0 rfl) ?_
          refine lv_lmul hx hb dX9_digest_105 ?_
          refine lv_aload_n hx hb dX9_digest_106 rfl (lv_at hl 1 rfl) ?_
          refine va_get (ci := 9) (v := .int (jz ((wL (T9 aS 0) (T9 aS 1) (aS 0) (aS 1))))) (C := RX9) (T := TX9) (N := 19) hx hb hts wfX9 hown hK.1 hP 0 rfl rfl 15 (by decide) (hts _ wm825) (fun _ h9 => h9) rfl dX9_digest_107 ?_
          refine lv_i2l (v := (jz ((wL (T9 aS 0) (T9 aS 1) (aS 0) (aS 1)))).toInt64) hx hb dX9_digest_110 rfl ?_
          refine lv_ladd hx hb dX9_digest_111 ?_
          refine jv_topl (fun w_8 ew_8 => ?_)
          have f111 : w_8 = mx _ _ := ew_8
          refine lv_lstore_n (lv' := [(1, .long w_8), (0, .ref x), (3, .int (jz t))]) hx hb dX9_digest_112 rfl hl (by decide) rfl (fun ls hl => ?_)
          refine lv_ldc2 hx hb hown (hts _ wm1079) dX9_digest_113 ?_
          refine lv_lload_n hx hb dX9_digest_116 rfl (lv_at hl 0 rfl) ?_
          refine lv_lmul hx hb dX9_digest_117 ?_
          refine lv_aload_n hx hb dX9_digest_118 rfl (lv_at hl 1 rfl) ?_
          refine kV ⟨hx, hb, hml, hown, hts⟩ hK hA hS hP hD [] [.long (31 * w_8)] (mX9_found l G x xs xb xm xf xu xg xw kn bl ft vh vm vs ln 0 ((wL (T9 aS 0) (T9 aS 1) (aS 0) (aS 1))) pl wr br aS aB aM aO aU u_5 u_6 (by omega) (by omega) (by exact hg0) (by exact hg1)) lkX9_123 [0] [] (br := []) rfl rfl (by decide) 0 9 rfl rfl rfl rfl (Nat.le_of_ble_eq_true rfl) hl.1 dX9_digest_119 ⟨Nat.le_of_ble_eq_true rfl, Nat.le_of_ble_eq_true rfl⟩ ⟨Nat.le_of_ble_eq_true rfl, Nat.le_of_ble_eq_true rfl⟩ (fun u9 H locs hp9 hP hD hS => ?_)
          obtain ⟨u_9, rfl⟩ : ∃ z, z = u9 := ⟨_, rfl⟩
          have hg_10 : ∀ x y : Int, 0 ≤ x → x ≤ aS 0 → 0 ≤ y → y ≤ aS 1 → u_9 (21 * x + y) = D 0 (T9 aS 0) (T9 aS 1) x y := hp9
          have hP : wP G [bMod G x xs xb xm xf xu xg xw kn bl ft vh vm vs ln 0 ((wL (T9 aS 0) (T9 aS 1) (aS 0) (aS 1))) pl wr br aS aB aM aO aU u_9 u_6] H := hP
          have hD : wD A [bMod G x xs xb xm xf xu xg xw kn bl ft vh vm vs ln 0 ((wL (T9 aS 0) (T9 aS 1) (aS 0) (aS 1))) pl wr br aS aB aM aO aU u_9 u_6] := hD
          show W p l e rmX9_digest s m args below meth c H locs 0 0 Q (F0 m 122 ls [.int (jz (D 0 (T9 aS 0) (T9 aS 1) (fdE (T9 aS 0) (T9 aS 1) (aS 0) (aS 1)) (aS 1))), .long (31 * w_8)])
          refine lv_i2l (v := (jz (D 0 (T9 aS 0) (T9 aS 1) (fdE (T9 aS 0) (T9 aS 1) (aS 0) (aS 1)) (aS 1))).toInt64) hx hb dX9_digest_122 rfl ?_
          refine lv_ladd hx hb dX9_digest_123 ?_
          refine jv_topl (fun w_11 ew_11 => ?_)
          have f123 : w_11 = mx _ _ := ew_11
          refine lv_lstore_n (lv' := [(1, .long w_11), (0, .ref x), (3, .int (jz t))]) hx hb dX9_digest_124 rfl hl (by decide) rfl (fun ls hl => ?_)
          refine lv_ldc2 hx hb hown (hts _ wm1079) dX9_digest_125 ?_
          refine lv_lload_n hx hb dX9_digest_128 rfl (lv_at hl 0 rfl) ?_
          refine lv_lmul hx hb dX9_digest_129 ?_
          refine lv_aload_n hx hb dX9_digest_130 rfl (lv_at hl 1 rfl) ?_
          refine kV ⟨hx, hb, hml, hown, hts⟩ hK hA hS hP hD [] [.long (31 * w_11)] (mX9_end l G x xs xb xm xf xu xg xw kn bl ft vh vm vs ln 0 ((wL (T9 aS 0) (T9 aS 1) (aS 0) (aS 1))) pl wr br aS aB aM aO aU u_9 u_6 (by omega) (by omega) (by exact hg0) (by exact hg1)) lkX9_126 [0] [] (br := []) rfl rfl (by decide) 0 9 rfl rfl rfl rfl (Nat.le_of_ble_eq_true rfl) hl.1 dX9_digest_131 ⟨Nat.le_of_ble_eq_true rfl, Nat.le_of_ble_eq_true rfl⟩ ⟨Nat.le_of_ble_eq_true rfl, Nat.le_of_ble_eq_true rfl⟩ (fun u9 H locs hp9 hP hD hS => ?_)
          obtain ⟨u_12, rfl⟩ : ∃ z, z = u9 := ⟨_, rfl⟩
          have hP : wP G [bMod G x xs xb xm xf xu xg xw kn bl ft vh vm vs ln 0 ((wL (T9 aS 0) (T9 aS 1) (aS 0) (aS 1))) pl wr br aS aB aM aO aU u_12 u_6] H := hP
          have hD : wD A [bMod G x xs xb xm xf xu xg xw kn bl ft vh vm vs ln 0 ((wL (T9 aS 0) (T9 aS 1) (aS 0) (aS 1))) pl wr br aS aB aM aO aU u_12 u_6] := hD
          show W p l e rmX9_digest s m args below meth c H locs 0 0 Q (F0 m 134 ls [.int (jz (fdE (T9 aS 0) (T9 aS 1) (aS 0) (aS 1))), .long (31 * w_11)])
          refine lv_i2l (v := (jz (fdE (T9 aS 0) (T9 aS 1) (aS 0) (aS 1))).toInt64) hx hb dX9_digest_134 rfl ?_
          refine lv_ladd hx hb dX9_digest_135 ?_
          refine jv_topl (fun w_13 ew_13 => ?_)
          have f135 : w_13 = mx _ _ := ew_13
          refine lv_lstore_n (lv' := [(1, .long w_13), (0, .ref x), (3, .int (jz t))]) hx hb dX9_digest_136 rfl hl (by decide) rfl (fun ls hl => ?_)
          refine lv_ldc2 hx hb hown (hts _ wm1079) dX9_digest_137 ?_
          refine lv_lload_n hx hb dX9_digest_140 rfl (lv_at hl 0 rfl) ?_
          refine lv_lmul hx hb dX9_digest_141 ?_
          refine lv_aload_n hx hb dX9_digest_142 rfl (lv_at hl 1 rfl) ?_
          refine va_get (ci := 9) (v := .int (jz vh)) (C := RX9) (T := TX9) (N := 19) hx hb hts wfX9 hown hK.1 hP 0 rfl rfl 7 (by decide) (hts _ wm817) (fun _ h9 => h9) rfl dX9_digest_143 ?_
          refine lv_i2l (v := (jz vh).toInt64) hx hb dX9_digest_146 rfl ?_
          refine lv_ladd hx hb dX9_digest_147 ?_
          refine jv_topl (fun w_14 ew_14 => ?_)
          have f147 : w_14 = mx _ _ := ew_14
          refine lv_lstore_n (lv' := [(1, .long w_14), (0, .ref x), (3, .int (jz t))]) hx hb dX9_digest_148 rfl hl (by decide) rfl (fun ls hl => ?_)
          refine lv_ldc2 hx hb hown (hts _ wm1079) dX9_digest_149 ?_
          refine lv_lload_n hx hb dX9_digest_152 rfl (lv_at hl 0 rfl) ?_
          refine lv_lmul hx hb dX9_digest_153 ?_
          refine lv_aload_n hx hb dX9_digest_154 rfl (lv_at hl 1 rfl) ?_
          refine va_get (ci := 9) (v := .int (jz vm)) (C := RX9) (T := TX9) (N := 19) hx hb hts wfX9 hown hK.1 hP 0 rfl rfl 8 (by decide) (hts _ wm818) (fun _ h9 => h9) rfl dX9_digest_155 ?_
          refine lv_i2l (v := (jz vm).toInt64) hx hb dX9_digest_158 rfl ?_
          refine lv_ladd hx hb dX9_digest_159 ?_
          refine jv_topl (fun w_15 ew_15 => ?_)
          have f159 : w_15 = mx _ _ := ew_15
          refine lv_lstore_n (lv' := [(1, .long w_15), (0, .ref x), (3, .int (jz t))]) hx hb dX9_digest_160 rfl hl (by decide) rfl (fun ls hl => ?_)
          refine lv_ldc2 hx hb hown (hts _ wm1079) dX9_digest_161 ?_
          refine lv_lload_n hx hb dX9_digest_164 rfl (lv_at hl 0 rfl) ?_
          refine lv_lmul hx hb dX9_digest_165 ?_
          refine lv_aload_n hx hb dX9_digest_166 rfl (lv_at hl 1 rfl) ?_
          refine va_get (ci := 9) (v := .int (jz vs)) (C := RX9) (T := TX9) (N := 19) hx hb hts wfX9 hown hK.1 hP 0 rfl rfl 9 (by decide) (hts _ wm819) (fun _ h9 => h9) rfl dX9_digest_167 ?_
          refine lv_i2l (v := (jz vs).toInt64) hx hb dX9_digest_170 rfl ?_
          refine lv_ladd hx hb dX9_digest_171 ?_
          refine jv_topl (fun w_16 ew_16 => ?_)
          have f171 : w_16 = mx _ _ := ew_16
          refine lv_lstore_n (lv' := [(1, .long w_16), (0, .ref x), (3, .int (jz t))]) hx hb dX9_digest_172 rfl hl (by decide) rfl (fun ls hl => ?_)
          refine lv_ldc2 hx hb hown (hts _ wm1079) dX9_digest_173 ?_
          refine lv_lload_n hx hb dX9_digest_176 rfl (lv_at hl 0 rfl) ?_
          refine lv_lmul hx hb dX9_digest_177 ?_
          refine lv_aload_n hx hb dX9_digest_178 rfl (lv_at hl 1 rfl) ?_
          refine jv_iconst hx hb dX9_digest_179 ?_
          refine kV ⟨hx, hb, hml, hown, hts⟩ hK hA hS hP hD [.int (jz 0)] [.long (31 * w_16)] (mX9_goBlocks_0 l G x xs xb xm xf xu xg xw kn bl ft vh vm vs ln 0 ((wL (T9 aS 0) (T9 aS 1) (aS 0) (aS 1))) pl wr br aS aB aM aO aU u_12 u_6 M 0 (by omega) (by omega) (by exact hg0) (by exact hg1) (by exact hbl) (by omega) (by exact hJ) (by exact hO) (by omega)) lkX9_119 [0] [] (br := []) rfl rfl (by decide) 0 9 rfl rfl rfl rfl (Nat.le_of_ble_eq_true rfl) hl.1 dX9_digest_180 ⟨Nat.le_of_ble_eq_true rfl, Nat.le_of_ble_eq_true rfl⟩ ⟨Nat.le_of_ble_eq_true rfl, Nat.le_of_ble_eq_true rfl⟩ (fun u9 H locs hp9 hP hD hS => ?_)
          obtain ⟨u_17, u_18⟩ := u9
          have hf_19 : ∀ k : Int, 0 ≤ k → k < 20736 → 0 ≤ u_17 k ∧ u_17 k ≤ ft + 1 := hp9.1
          have hg_20 : ∀ x y : Int, 0 ≤ x → x ≤ aS 0 → 0 ≤ y → y ≤ aS 1 → u_18 (21 * x + y) = D 1 (T9 aS 0) (T9 aS 1) x y := hp9.2
          have hP : wP G [bMod G x xs xb xm xf xu xg xw kn bl ((ft + 1)) vh vm vs ln 0 ((wL (T9 aS 0) (T9 aS 1) (aS 0) (aS 1))) pl wr br aS aB aM u_17 aU u_18 u_6] H := hP
          have hD : wD A [bMod G x xs xb xm xf xu xg xw kn bl ((ft + 1)) vh vm vs ln 0 ((wL (T9 aS 0) (T9 aS 1) (aS 0) (aS 1))) pl wr br aS aB aM u_17 aU u_18 u_6] := hD
          show W p l e rmX9_digest s m args below meth c H locs 0 0 Q (F0 m 183 ls [.int (jz ((tGo bl (T9 aS 0) (T9 aS 1) (aS 0) (aS 1) (M, vh, vm, vs)).2.2.1 - vm)), .long (31 * w_16)])
          have ho8 := hf_19
          refine lv_i2l (v := (jz ((tGo bl (T9 aS 0) (T9 aS 1) (aS 0) (aS 1) (M, vh, vm, vs)).2.2.1 - vm)).toInt64) hx hb dX9_digest_183 rfl ?_
          refine lv_ladd hx hb dX9_digest_184 ?_
          refine jv_topl (fun w_21 ew_21 => ?_)
          have f184 : w_21 = mx _ _ := ew_21
          refine lv_lstore_n (lv' := [(1, .long w_21), (0, .ref x), (3, .int (jz t))]) hx hb dX9_digest_185 rfl hl (by decide) rfl (fun ls hl => ?_)
          refine lv_aload_n hx hb dX9_digest_186 rfl (lv_at hl 1 rfl) ?_
          refine va_get (ci := 9) (v := .int (jz ((wL (T9 aS 0) (T9 aS 1) (aS 0) (aS 1))))) (C := RX9) (T := TX9) (N := 19) hx hb hts wfX9 hown hK.1 hP 0 rfl rfl 15 (by decide) (hts _ wm825) (fun _ h9 => h9) rfl dX9_digest_187 ?_
          refine jv_iconst hx hb dX9_digest_190 ?_
          refine jv_isub hx hb dX9_digest_191 ?_
          refine lv_istore_n (lv' := [(3, .int (jz (((wL (T9 aS 0) (T9 aS 1) (aS 0) (aS 1))) - 1))), (1, .long w_21), (0, .ref x)]) hx hb dX9_digest_192 rfl hl (by decide) rfl (fun ls hl => ?_)
          have K193 : ∀ (n9 : Nat) (y3 : Int64) (k : Int) (ww : Int → Int) (oo : Int → Int) (gq : Int → Int) , ((k + 1).toNat) < n9 → (-1 ≤ k ∧ k ≤ (wL (T9 aS 0) (T9 aS 1) (aS 0) (aS 1)) - 1) → (∀ x : Int, 0 ≤ x → x < wL (T9 aS 0) (T9 aS 1) (aS 0) (aS 1) → ww x = wA (T9 aS 0) (T9 aS 1) (aS 0) (aS 1) x) → (∀ q : Int, 0 ≤ q → q < 20736 → 0 ≤ oo q ∧ oo q ≤ ft + 1) → (y3 = mxI (fun q => wA (T9 aS 0) (T9 aS 1) (aS 0) (aS 1) ((wL (T9 aS 0) (T9 aS 1) (aS 0) (aS 1)) - 1 - q)) ((wL (T9 aS 0) (T9 aS 1) (aS 0) (aS 1)) - 1 - k) (mx (mx (mx (mx (mx (mx (mx (mx (mxI (T9 aS 1) (aS 1) (mx (mxI (T9 aS 0) (aS 0) (mx (mx 4194 (aS 2)) (aS 0))) (aS 1))) (D 1 (T9 aS 0) (T9 aS 1) (aS 0) (aS 1))) (wL (T9 aS 0) (T9 aS 1) (aS 0) (aS 1))) (D 0 (T9 aS 0) (T9 aS 1) (fdE (T9 aS 0) (T9 aS 1) (aS 0) (aS 1)) (aS 1))) (fdE (T9 aS 0) (T9 aS 1) (aS 0) (aS 1))) vh) vm) vs) ((tGo bl (T9 aS 0) (T9 aS 1) (aS 0) (aS 1) (M, vh, vm, vs)).2.2.1 - vm))) → ∀ (H : Heap) (locs : List Loc) (ls : Array Slot), wP G [bMod G x xs xb xm xf xu xg xw kn bl ((ft + 1)) vh vm vs ln 0 ((wL (T9 aS 0) (T9 aS 1) (aS 0) (aS 1))) pl wr br aS aB aM oo aU gq ww] H → wD A [bMod G x xs xb xm xf xu xg xw kn bl ((ft + 1)) vh vm vs ln 0 ((wL (T9 aS 0) (T9 aS 1) (aS 0) (aS 1))) pl wr br aS aB aM oo aU gq ww] → va_S A s.heap H locs → lv_has ls 5 [(0, .ref x), (1, .long y3), (3, .int (jz k))] → W p l e rmX9_digest s m args below meth c H locs 0 0 Q (F0 m 193 ls []) := by
            intro n9
            induction n9 with
            | zero => intro y3 k ww oo gq hm9; exact absurd hm9 (Nat.not_lt_zero _)
            | succ n9 ih193 =>
              intro y3 k ww oo gq hm9 hk hw9 ho9 hy3 H locs ls hP hD hS hl
              refine lv_iload_n hx hb dX9_digest_193 rfl (lv_at hl 2 rfl) ?_
              refine jv_if_lt (tgt := 217) hx hb dX9_digest_194 (by decide) (by omega) (fun c_22 => ?_) (fun c_22 => ?_)
              · have hy6 := hy3
                rw [show (wL (T9 aS 0) (T9 aS 1) (aS 0) (aS 1)) - 1 - k = (wL (T9 aS 0) (T9 aS 1) (aS 0) (aS 1)) by omega] at hy6
                refine lv_ldc2 hx hb hown (hts _ wm1079) dX9_digest_217 ?_
                refine lv_lload_n hx hb dX9_digest_220 rfl (lv_at hl 1 rfl) ?_
                refine lv_lmul hx hb dX9_digest_221 ?_
                refine lv_aload_n hx hb dX9_digest_222 rfl (lv_at hl 0 rfl) ?_
                refine jv_iconst hx hb dX9_digest_223 ?_
                refine kV ⟨hx, hb, hml, hown, hts⟩ hK hA hS hP hD [.int (jz 0)] [.long (31 * y3)] (mX9_best_0 l G x xs xb xm xf xu xg xw kn bl ((ft + 1)) vh vm vs ln 0 ((wL (T9 aS 0) (T9 aS 1) (aS 0) (aS 1))) pl wr br aS aB aM oo aU gq ww 0 (by omega) (by omega) (by exact hg0) (by exact hg1) (by omega) (by omega)) lkX9_132 [0] [] (br := []) rfl rfl (by decide) 0 9 rfl rfl rfl rfl (Nat.le_of_ble_eq_true rfl) hl.1 dX9_digest_224 ⟨Nat.le_of_ble_eq_true rfl, Nat.le_of_ble_eq_true rfl⟩ ⟨Nat.le_of_ble_eq_true rfl, Nat.le_of_ble_eq_true rfl⟩ (fun u9 H locs hp9 hP hD hS => ?_)
                obtain ⟨u_23, rfl⟩ : ∃ z, z = u9 := ⟨_, rfl⟩
                have hP : wP G [bMod G x xs xb xm xf xu xg xw kn bl ((ft + 1)) vh vm vs ln 0 ((wL (T9 aS 0) (T9 aS 1) (aS 0) (aS 1))) pl wr br aS aB aM oo aU u_23 ww] H := hP
                have hD : wD A [bMod G x xs xb xm xf xu xg xw kn bl ((ft + 1)) vh vm vs ln 0 ((wL (T9 aS 0) (T9 aS 1) (aS 0) (aS 1))) pl wr br aS aB aM oo aU u_23 ww] := hD
                show W p l e rmX9_digest s m args below meth c H locs 0 0 Q (F0 m 227 ls [.int (jz (bst0 (aS 2) (aS 0) (aS 1) (T9 aS 0) (T9 aS 1))), .long (31 * y3)])
                refine lv_i2l (v := (jz (bst0 (aS 2) (aS 0) (aS 1) (T9 aS 0) (T9 aS 1))).toInt64) hx hb dX9_digest_227 rfl ?_
                refine lv_ladd hx hb dX9_digest_228 ?_
                refine jv_topl (fun w_24 ew_24 => ?_)
                have f228 : w_24 = mx _ _ := ew_24
                refine lv_lstore_n (lv' := [(1, .long w_24), (0, .ref x), (3, .int (jz k))]) hx hb dX9_digest_229 rfl hl (by decide) rfl (fun ls hl => ?_)
                refine lv_ldc2 hx hb hown (hts _ wm1079) dX9_digest_230 ?_
                refine lv_lload_n hx hb dX9_digest_233 rfl (lv_at hl 0 rfl) ?_
                refine lv_lmul hx hb dX9_digest_234 ?_
                refine lv_aload_n hx hb dX9_digest_235 rfl (lv_at hl 1 rfl) ?_
                refine jv_iconst hx hb dX9_digest_236 ?_
                refine kV ⟨hx, hb, hml, hown, hts⟩ hK hA hS hP hD [.int (jz 1)] [.long (31 * w_24)] (mX9_best_1 l G x xs xb xm xf xu xg xw kn bl ((ft + 1)) vh vm vs ln 0 ((wL (T9 aS 0) (T9 aS 1) (aS 0) (aS 1))) pl wr br aS aB aM oo aU u_23 ww 1 (by omega) (by omega) (by exact hg0) (by exact hg1) (by omega) (by omega)) lkX9_132 [0] [] (br := []) rfl rfl (by decide) 0 9 rfl rfl rfl rfl (Nat.le_of_ble_eq_true rfl) hl.1 dX9_digest_237 ⟨Nat.le_of_ble_eq_true rfl, Nat.le_of_ble_eq_true rfl⟩ ⟨Nat.le_of_ble_eq_true rfl, Nat.le_of_ble_eq_true rfl⟩ (fun u9 H locs hp9 hP hD hS => ?_)
                obtain ⟨u_25, rfl⟩ : ∃ z, z = u9 := ⟨_, rfl⟩
                have hP : wP G [bMod G x xs xb xm xf xu xg xw kn bl ((ft + 1)) vh vm vs ln 0 ((wL (T9 aS 0) (T9 aS 1) (aS 0) (aS 1))) pl wr br aS aB aM oo aU u_25 ww] H := hP
                have hD : wD A [bMod G x xs xb xm xf xu xg xw kn bl ((ft + 1)) vh vm vs ln 0 ((wL (T9 aS 0) (T9 aS 1) (aS 0) (aS 1))) pl wr br aS aB aM oo aU u_25 ww] := hD
                show W p l e rmX9_digest s m args below meth c H locs 0 0 Q (F0 m 240 ls [.int (jz (bst0 (aS 2) (aS 1) (aS 0) (T9 aS 1) (T9 aS 0))), .long (31 * w_24)])
                refine lv_i2l (v := (jz (bst0 (aS 2) (aS 1) (aS 0) (T9 aS 1) (T9 aS 0))).toInt64) hx hb dX9_digest_240 rfl ?_
                refine lv_ladd hx hb dX9_digest_241 ?_
                refine jv_topl (fun w_26 ew_26 => ?_)
                have f241 : w_26 = mx _ _ := ew_26
                refine lv_lstore_n (lv' := [(1, .long w_26), (0, .ref x), (3, .int (jz k))]) hx hb dX9_digest_242 rfl hl (by decide) rfl (fun ls hl => ?_)
                refine lv_aload_n hx hb dX9_digest_243 rfl (lv_at hl 1 rfl) ?_
                refine jv_iconst hx hb dX9_digest_244 ?_
                refine kV ⟨hx, hb, hml, hown, hts⟩ hK hA hS hP hD [.int (jz 0)] [] (mX9_lay l G x xs xb xm xf xu xg xw kn bl ((ft + 1)) vh vm vs ln 0 ((wL (T9 aS 0) (T9 aS 1) (aS 0) (aS 1))) pl wr br aS aB aM oo aU u_25 ww 0 1 (by omega) (by omega) (by exact hg0) (by exact hg1) (by omega) (by omega)) lkX9_60 [0] [] (br := []) rfl rfl (by decide) 0 9 rfl rfl rfl rfl (Nat.le_of_ble_eq_true rfl) hl.1 dX9_digest_245 ⟨Nat.le_of_ble_eq_true rfl, Nat.le_of_ble_eq_true rfl⟩ ⟨Nat.le_of_ble_eq_true rfl, Nat.le_of_ble_eq_true rfl⟩ (fun u9 H locs hp9 hP hD hS => ?_)
                obtain ⟨u_27, rfl⟩ : ∃ z, z = u9 := ⟨_, rfl⟩
                have hc_28 : ∀ x y : Int, 0 ≤ x → x ≤ aS 0 → 0 ≤ y → y ≤ aS 1 → u_27 (21 * x + y) = D 1 (T9 aS 0) (T9 aS 1) x y := hp9
                have hP : wP G [bMod G x xs xb xm xf xu xg xw kn bl ((ft + 1)) vh vm vs ln 0 ((wL (T9 aS 0) (T9 aS 1) (aS 0) (aS 1))) pl wr br aS aB aM oo aU u_27 ww] H := hP
                have hD : wD A [bMod G x xs xb xm xf xu xg xw kn bl ((ft + 1)) vh vm vs ln 0 ((wL (T9 aS 0) (T9 aS 1) (aS 0) (aS 1))) pl wr br aS aB aM oo aU u_27 ww] := hD
                show W p l e rmX9_digest s m args below meth c H locs 0 0 Q (F0 m 248 ls [])
                have hgd := hc_28
                refine jv_iconst hx hb dX9_digest_248 ?_
                refine lv_istore_n (lv' := [(3, .int (jz 0)), (1, .long w_26), (0, .ref x)]) hx hb dX9_digest_249 rfl hl (by decide) rfl (fun ls hl => ?_)
                have K250 : ∀ (n9 : Nat) (y4 : Int64) (i : Int) , ((aS 0 + 1 - i).toNat) < n9 → (0 ≤ i ∧ i ≤ aS 0 + 1) → (y4 = mxGI (fun i j => D 1 (T9 aS 0) (T9 aS 1) i j) (aS 1) i (mx (mx (mxI (fun q => wA (T9 aS 0) (T9 aS 1) (aS 0) (aS 1) ((wL (T9 aS 0) (T9 aS 1) (aS 0) (aS 1)) - 1 - q)) (wL (T9 aS 0) (T9 aS 1) (aS 0) (aS 1)) (mx (mx (mx (mx (mx (mx (mx (mx (mxI (T9 aS 1) (aS 1) (mx (mxI (T9 aS 0) (aS 0) (mx (mx 4194 (aS 2)) (aS 0))) (aS 1))) (D 1 (T9 aS 0) (T9 aS 1) (aS 0) (aS 1))) (wL (T9 aS 0) (T9 aS 1) (aS 0) (aS 1))) (D 0 (T9 aS 0) (T9 aS 1) (fdE (T9 aS 0) (T9 aS 1) (aS 0) (aS 1)) (aS 1))) (fdE (T9 aS 0) (T9 aS 1) (aS 0) (aS 1))) vh) vm) vs) ((tGo bl (T9 aS 0) (T9 aS 1) (aS 0) (aS 1) (M, vh, vm, vs)).2.2.1 - vm))) (bst0 (aS 2) (aS 0) (aS 1) (T9 aS 0) (T9 aS 1))) (bst0 (aS 2) (aS 1) (aS 0) (T9 aS 1) (T9 aS 0)))) → ∀ (H : Heap) (locs : List Loc) (ls : Array Slot), wP G [bMod G x xs xb xm xf xu xg xw kn bl ((ft + 1)) vh vm vs ln 0 ((wL (T9 aS 0) (T9 aS 1) (aS 0) (aS 1))) pl wr br aS aB aM oo aU u_27 ww] H → wD A [bMod G x xs xb xm xf xu xg xw kn bl ((ft + 1)) vh vm vs ln 0 ((wL (T9 aS 0) (T9 aS 1) (aS 0) (aS 1))) pl wr br aS aB aM oo aU u_27 ww] → va_S A s.heap H locs → lv_has ls 5 [(0, .ref x), (1, .long y4), (3, .int (jz i))] → W p l e rmX9_digest s m args below meth c H locs 0 0 Q (F0 m 250 ls []) := by
                  intro n9
                  induction n9 with
                  | zero => intro y4 i hm9; exact absurd hm9 (Nat.not_lt_zero _)
                  | succ n9 ih250 =>
                    intro y4 i hm9 hi hy4 H locs ls hP hD hS hl
                    refine lv_iload_n hx hb dX9_digest_250 rfl (lv_at hl 2 rfl) ?_
                    refine lv_aload_n hx hb dX9_digest_251 rfl (lv_at hl 0 rfl) ?_
                    refine va_get (ci := 9) (v := .ref xs) (C := RX9) (T := TX9) (N := 19) hx hb hts wfX9 hown hK.1 hP 0 rfl rfl 0 (by decide) (hts _ wm810) (fun _ h9 => h9) rfl dX9_digest_252 ?_
                    refine jv_iconst hx hb dX9_digest_255 ?_
                    refine jv_iald hx hb hK.1 hP 1 (g := aS) rfl (by omega) (by omega) (by decide) dX9_digest_256 ?_
                    refine jv_icmp_gt (tgt := 301) hx hb dX9_digest_257 (by decide) (by omega) (by omega) (fun c_29 => ?_) (fun c_29 => ?_)
                    · refine lv_lload_n hx hb dX9_digest_301 rfl (lv_at hl 1 rfl) ?_
                      exact cret_l hx hb hr hlocks hS hP hD (Nat.le_of_ble_eq_true rfl) (Nat.le_of_ble_eq_true rfl) dX9_digest_302 [0] (by decide) ⟨oo, u_27, ww⟩ rfl (show ∀ k : Int, 0 ≤ k → k < 20736 → 0 ≤ oo k ∧ oo k ≤ ft + 1 from by exact ho9) (congrArg (fun z : Int64 => some (Value.long z)) (show y4 = digF (aS 2) (aS 0) (aS 1) (T9 aS 0) (T9 aS 1) vh vm vs ((tGo bl (T9 aS 0) (T9 aS 1) (aS 0) (aS 1) (M, vh, vm, vs)).2.2.1 - vm) from by rw [hy4, show i = aS 0 + 1 by omega]; unfold digF; with_reducible rfl)) hQ
                    · refine jv_iconst hx hb dX9_digest_260 ?_
                      refine lv_istore (lv' := [(4, .int (jz 0)), (0, .ref x), (1, .long y4), (3, .int (jz i))]) hx hb dX9_digest_261 hl (by decide) rfl (fun ls hl => ?_)
                      have K263 : ∀ (n9 : Nat) (y5 : Int64) (j : Int) , ((aS 1 + 1 - j).toNat) < n9 → (0 ≤ j ∧ j ≤ aS 1 + 1) → (y5 = mxI ((fun i j => D 1 (T9 aS 0) (T9 aS 1) i j) i) j y4) → ∀ (H : Heap) (locs : List Loc) (ls : Array Slot), wP G [bMod G x xs xb xm xf xu xg xw kn bl ((ft + 1)) vh vm vs ln 0 ((wL (T9 aS 0) (T9 aS 1) (aS 0) (aS 1))) pl wr br aS aB aM oo aU u_27 ww] H → wD A [bMod G x xs xb xm xf xu xg xw kn bl ((ft + 1)) vh vm vs ln 0 ((wL (T9 aS 0) (T9 aS 1) (aS 0) (aS 1))) pl wr br aS aB aM oo aU u_27 ww] → va_S A s.heap H locs → lv_has ls 5 [(0, .ref x), (1, .long y5), (3, .int (jz i)), (4, .int (jz j))] → W p l e rmX9_digest s m args below meth c H locs 0 0 Q (F0 m 263 ls []) := by
                        intro n9
                        induction n9 with
                        | zero => intro y5 j hm9; exact absurd hm9 (Nat.not_lt_zero _)
                        | succ n9 ih263 =>
                          intro y5 j hm9 hj hy5 H locs ls hP hD hS hl
                          refine lv_iload hx hb dX9_digest_263 (lv_at hl 3 rfl) ?_
                          refine lv_aload_n hx hb dX9_digest_265 rfl (lv_at hl 0 rfl) ?_
                          refine va_get (ci := 9) (v := .ref xs) (C := RX9) (T := TX9) (N := 19) hx hb hts wfX9 hown hK.1 hP 0 rfl rfl 0 (by decide) (hts _ wm810) (fun _ h9 => h9) rfl dX9_digest_266 ?_
                          refine jv_iconst hx hb dX9_digest_269 ?_
                          refine jv_iald hx hb hK.1 hP 1 (g := aS) rfl (by omega) (by omega) (by decide) dX9_digest_270 ?_
                          refine jv_icmp_gt (tgt := 295) hx hb dX9_digest_271 (by decide) (by omega) (by omega) (fun c_30 => ?_) (fun c_30 => ?_)
                          · refine jv_iinc (lv' := [(3, .int (jz (i + 1))), (0, .ref x), (1, .long y5), (4, .int (jz j))]) (k := 2) hx hb dX9_digest_295 hl rfl (by decide) rfl (fun ls hl => ?_)
                            refine lv_goto (tgt := 250) hx hb dX9_digest_298 (by decide) ?_
                            exact ih250 y5 (i + 1) (by omega) (by omega) (by rw [mxGI_s _ _ (by omega), ← hy4, hy5, show j = aS 1 + 1 by omega]) H _ _ hP hD hS (lv_sub hl [1, 2, 0] rfl)
                          · refine lv_ldc2 hx hb hown (hts _ wm1079) dX9_digest_274 ?_
                            refine lv_lload_n hx hb dX9_digest_277 rfl (lv_at hl 1 rfl) ?_
                            refine lv_lmul hx hb dX9_digest_278 ?_
                            refine lv_aload_n hx hb dX9_digest_279 rfl (lv_at hl 0 rfl) ?_
                            refine lv_iload_n hx hb dX9_digest_280 rfl (lv_at hl 2 rfl) ?_
                            refine lv_iload hx hb dX9_digest_281 (lv_at hl 3 rfl) ?_
                            refine kV ⟨hx, hb, hml, hown, hts⟩ hK hA hS hP hD [.int (jz i), .int (jz j)] [.long (31 * y5)] (mX9_d l G x xs xb xm xf xu xg xw kn bl ((ft + 1)) vh vm vs ln 0 ((wL (T9 aS 0) (T9 aS 1) (aS 0) (aS 1))) pl wr br aS aB aM oo aU u_27 ww i j (by omega) (by omega)) lkX9_50 [0] [] (br := []) rfl rfl (by decide) 0 9 rfl rfl rfl rfl (Nat.le_of_ble_eq_true rfl) hl.1 dX9_digest_283 ⟨Nat.le_of_ble_eq_true rfl, Nat.le_of_ble_eq_true rfl⟩ ⟨Nat.le_of_ble_eq_true rfl, Nat.le_of_ble_eq_true rfl⟩ (fun u9 H locs hp9 hP hD hS => ?_)
                            have hP : wP G [bMod G x xs xb xm xf xu xg xw kn bl ((ft + 1)) vh vm vs ln 0 ((wL (T9 aS 0) (T9 aS 1) (aS 0) (aS 1))) pl wr br aS aB aM oo aU u_27 ww] H := hP
                            have hD : wD A [bMod G x xs xb xm xf xu xg xw kn bl ((ft + 1)) vh vm vs ln 0 ((wL (T9 aS 0) (T9 aS 1) (aS 0) (aS 1))) pl wr br aS aB aM oo aU u_27 ww] := hD
                            show W p l e rmX9_digest s m args below meth c H locs 0 0 Q (F0 m 286 ls [.int (jz (u_27 (21 * i + j))), .long (31 * y5)])
                            refine jv_top (fun r_32 er_32 => ?_)
                            refine lv_i2l (v := (jz r_32).toInt64) hx hb dX9_digest_286 rfl ?_
                            refine lv_ladd hx hb dX9_digest_287 ?_
                            refine jv_topl (fun w_33 ew_33 => ?_)
                            have f287 : w_33 = mx _ _ := ew_33
                            refine lv_lstore_n (lv' := [(1, .long w_33), (0, .ref x), (3, .int (jz i)), (4, .int (jz j))]) hx hb dX9_digest_288 rfl hl (by decide) rfl (fun ls hl => ?_)
                            refine jv_iinc (lv' := [(4, .int (jz (j + 1))), (1, .long w_33), (0, .ref x), (3, .int (jz i))]) (k := 3) hx hb dX9_digest_289 hl rfl (by decide) rfl (fun ls hl => ?_)
                            refine lv_goto (tgt := 263) hx hb dX9_digest_292 (by decide) ?_
                            exact ih263 w_33 (j + 1) (by omega) (by omega) (by rw [mxI_s _ (by omega), ← hy5, f287, er_32, hgd i j (by omega) (by omega) (by omega) (by omega)]) H _ _ hP hD hS (lv_sub hl [2, 1, 3, 0] rfl)
                      exact K263 (((aS 1 + 1 - 0).toNat) + 1) y4 0 (Nat.lt_succ_self _) (by omega) (by exact (mxI_0 _ _).symm) H _ _ hP hD hS (lv_sub hl [1, 2, 3, 0] rfl)
                exact K250 (((aS 0 + 1 - 0).toNat) + 1) w_26 0 (Nat.lt_succ_self _) (by omega) (by rw [mxGI_0, f241, f228, hy6]) H _ _ hP hD hS (lv_sub hl [2, 1, 0] rfl)
              · refine lv_ldc2 hx hb hown (hts _ wm1079) dX9_digest_197 ?_
                refine lv_lload_n hx hb dX9_digest_200 rfl (lv_at hl 1 rfl) ?_
                refine lv_lmul hx hb dX9_digest_201 ?_
                refine lv_aload_n hx hb dX9_digest_202 rfl (lv_at hl 0 rfl) ?_
                refine va_get (ci := 9) (v := .ref xw) (C := RX9) (T := TX9) (N := 19) hx hb hts wfX9 hown hK.1 hP 0 rfl rfl 14 (by decide) (hts _ wm824) (fun _ h9 => h9) rfl dX9_digest_203 ?_
                refine lv_iload_n hx hb dX9_digest_206 rfl (lv_at hl 2 rfl) ?_
                refine jv_iald hx hb hK.1 hP 7 (g := ww) rfl (by omega) (by omega) (by decide) dX9_digest_207 ?_
                refine lv_i2l (v := (jz (ww k)).toInt64) hx hb dX9_digest_208 rfl ?_
                refine lv_ladd hx hb dX9_digest_209 ?_
                refine jv_topl (fun w_34 ew_34 => ?_)
                have f209 : w_34 = mx _ _ := ew_34
                refine lv_lstore_n (lv' := [(1, .long w_34), (0, .ref x), (3, .int (jz k))]) hx hb dX9_digest_210 rfl hl (by decide) rfl (fun ls hl => ?_)
                refine jv_iinc (lv' := [(3, .int (jz (k + (-1)))), (1, .long w_34), (0, .ref x)]) (k := 2) hx hb dX9_digest_211 hl rfl (by decide) rfl (fun ls hl => ?_)
                refine lv_goto (tgt := 193) hx hb dX9_digest_214 (by decide) ?_
                exact ih193 w_34 (k + (-1)) ww oo gq (by omega) (by omega) (by exact hw9) (by exact ho9) (by rw [show (wL (T9 aS 0) (T9 aS 1) (aS 0) (aS 1)) - 1 - (k + -1) = (wL (T9 aS 0) (T9 aS 1) (aS 0) (aS 1)) - 1 - k + 1 by omega, mxI_s _ (by omega), ← hy3, f209, hw9 k (by omega) (by omega), show (wL (T9 aS 0) (T9 aS 1) (aS 0) (aS 1)) - 1 - ((wL (T9 aS 0) (T9 aS 1) (aS 0) (aS 1)) - 1 - k) = k by omega]) H _ _ hP hD hS (lv_sub hl [2, 1, 0] rfl)
          exact K193 ((((((wL (T9 aS 0) (T9 aS 1) (aS 0) (aS 1))) - 1) + 1).toNat) + 1) w_21 (((wL (T9 aS 0) (T9 aS 1) (aS 0) (aS 1))) - 1) u_6 u_17 u_18 (Nat.lt_succ_self _) (by omega) (by exact hcw) (by exact ho8) (by rw [show (wL (T9 aS 0) (T9 aS 1) (aS 0) (aS 1)) - 1 - ((wL (T9 aS 0) (T9 aS 1) (aS 0) (aS 1)) - 1) = 0 by omega, mxI_0, f184, f171, f159, f147, f135, f123, f111, f95, hA2]) H _ _ hP hD hS (lv_sub hl [2, 1, 0] rfl)
        · refine lv_ldc2 hx hb hown (hts _ wm1079) dX9_digest_30 ?_
          refine lv_lload_n hx hb dX9_digest_33 rfl (lv_at hl 1 rfl) ?_
          refine lv_lmul hx hb dX9_digest_34 ?_
          refine lv_aload_n hx hb dX9_digest_35 rfl (lv_at hl 0 rfl) ?_
          refine va_get (ci := 9) (v := .ref xs) (C := RX9) (T := TX9) (N := 19) hx hb hts wfX9 hown hK.1 hP 0 rfl rfl 0 (by decide) (hts _ wm810) (fun _ h9 => h9) rfl dX9_digest_36 ?_
          refine lv_iload_n hx hb dX9_digest_39 rfl (lv_at hl 2 rfl) ?_
          refine jv_iald hx hb hK.1 hP 1 (g := aS) rfl (by omega) (by omega) (by decide) dX9_digest_40 ?_
          refine lv_i2l (v := (jz (aS t)).toInt64) hx hb dX9_digest_41 rfl ?_
          refine lv_ladd hx hb dX9_digest_42 ?_
          refine jv_topl (fun w_35 ew_35 => ?_)
          have f42 : w_35 = mx _ _ := ew_35
          refine lv_lstore_n (lv' := [(1, .long w_35), (0, .ref x), (3, .int (jz t))]) hx hb dX9_digest_43 rfl hl (by decide) rfl (fun ls hl => ?_)
          refine jv_iconst hx hb dX9_digest_44 ?_
          refine lv_istore (lv' := [(4, .int (jz 0)), (1, .long w_35), (0, .ref x), (3, .int (jz t))]) hx hb dX9_digest_45 hl (by decide) rfl (fun ls hl => ?_)
          have K47 : ∀ (n9 : Nat) (y2 : Int64) (j : Int) , ((aS t - j).toNat) < n9 → (0 ≤ j ∧ j ≤ aS t) → (y2 = mxI (T9 aS t) j (mx y (aS t))) → ∀ (H : Heap) (locs : List Loc) (ls : Array Slot), wP G [bMod G x xs xb xm xf xu xg xw kn bl ft vh vm vs ln 0 sp pl wr br aS aB aM aO aU aG aW] H → wD A [bMod G x xs xb xm xf xu xg xw kn bl ft vh vm vs ln 0 sp pl wr br aS aB aM aO aU aG aW] → va_S A s.heap H locs → lv_has ls 5 [(0, .ref x), (1, .long y2), (3, .int (jz t)), (4, .int (jz j))] → W p l e rmX9_digest s m args below meth c H locs 0 0 Q (F0 m 47 ls []) := by
            intro n9
            induction n9 with
            | zero => intro y2 j hm9; exact absurd hm9 (Nat.not_lt_zero _)
            | succ n9 ih47 =>
              intro y2 j hm9 hj hy2 H locs ls hP hD hS hl
              refine lv_iload hx hb dX9_digest_47 (lv_at hl 3 rfl) ?_
              refine lv_aload_n hx hb dX9_digest_49 rfl (lv_at hl 0 rfl) ?_
              refine va_get (ci := 9) (v := .ref xs) (C := RX9) (T := TX9) (N := 19) hx hb hts wfX9 hown hK.1 hP 0 rfl rfl 0 (by decide) (hts _ wm810) (fun _ h9 => h9) rfl dX9_digest_50 ?_
              refine lv_iload_n hx hb dX9_digest_53 rfl (lv_at hl 2 rfl) ?_
              refine jv_iald hx hb hK.1 hP 1 (g := aS) rfl (by omega) (by omega) (by decide) dX9_digest_54 ?_
              refine jv_icmp_ge (tgt := 79) hx hb dX9_digest_55 (by decide) (by omega) (by omega) (fun c_36 => ?_) (fun c_36 => ?_)
              · refine jv_iinc (lv' := [(3, .int (jz (t + 1))), (0, .ref x), (1, .long y2), (4, .int (jz j))]) (k := 2) hx hb dX9_digest_79 hl rfl (by decide) rfl (fun ls hl => ?_)
                refine lv_goto (tgt := 25) hx hb dX9_digest_82 (by decide) ?_
                exact ih25 y2 (t + 1) (by omega) (by omega) (by intro q; omega) (by intro q; rw [hy2, show j = aS t by omega, show t = 0 by omega, hy0 (by omega)]) (by intro q; rw [hy2, show j = aS t by omega, show t = 1 by omega, hy1 (by omega)]) H _ _ hP hD hS (lv_sub hl [1, 2, 0] rfl)
              · refine lv_ldc2 hx hb hown (hts _ wm1079) dX9_digest_58 ?_
                refine lv_lload_n hx hb dX9_digest_61 rfl (lv_at hl 1 rfl) ?_
                refine lv_lmul hx hb dX9_digest_62 ?_
                refine lv_aload_n hx hb dX9_digest_63 rfl (lv_at hl 0 rfl) ?_
                refine lv_iload_n hx hb dX9_digest_64 rfl (lv_at hl 2 rfl) ?_
                refine lv_iload hx hb dX9_digest_65 (lv_at hl 3 rfl) ?_
                refine kV ⟨hx, hb, hml, hown, hts⟩ hK hA hS hP hD [.int (jz t), .int (jz j)] [.long (31 * y2)] (mX9_of l G x xs xb xm xf xu xg xw kn bl ft vh vm vs ln 0 sp pl wr br aS aB aM aO aU aG aW t j (by omega) (by omega)) lkX9_46 [0] [] (br := []) rfl rfl (by decide) 0 9 rfl rfl rfl rfl (Nat.le_of_ble_eq_true rfl) hl.1 dX9_digest_67 ⟨Nat.le_of_ble_eq_true rfl, Nat.le_of_ble_eq_true rfl⟩ ⟨Nat.le_of_ble_eq_true rfl, Nat.le_of_ble_eq_true rfl⟩ (fun u9 H locs hp9 hP hD hS => ?_)
                have hP : wP G [bMod G x xs xb xm xf xu xg xw kn bl ft vh vm vs ln 0 sp pl wr br aS aB aM aO aU aG aW] H := hP
                have hD : wD A [bMod G x xs xb xm xf xu xg xw kn bl ft vh vm vs ln 0 sp pl wr br aS aB aM aO aU aG aW] := hD
                show W p l e rmX9_digest s m args below meth c H locs 0 0 Q (F0 m 70 ls [.int (jz (T9 aS t j)), .long (31 * y2)])
                refine lv_i2l (v := (jz (T9 aS t j)).toInt64) hx hb dX9_digest_70 rfl ?_
                refine lv_ladd hx hb dX9_digest_71 ?_
                refine jv_topl (fun w_38 ew_38 => ?_)
                have f71 : w_38 = mx _ _ := ew_38
                refine lv_lstore_n (lv' := [(1, .long w_38), (0, .ref x), (3, .int (jz t)), (4, .int (jz j))]) hx hb dX9_digest_72 rfl hl (by decide) rfl (fun ls hl => ?_)
                refine jv_iinc (lv' := [(4, .int (jz (j + 1))), (1, .long w_38), (0, .ref x), (3, .int (jz t))]) (k := 3) hx hb dX9_digest_73 hl rfl (by decide) rfl (fun ls hl => ?_)
                refine lv_goto (tgt := 47) hx hb dX9_digest_76 (by decide) ?_
                exact ih47 w_38 (j + 1) (by omega) (by omega) (by rw [mxI_s _ (by omega), ← hy2]; exact f71) H _ _ hP hD hS (lv_sub hl [2, 1, 3, 0] rfl)
          exact K47 (((aS t - 0).toNat) + 1) w_35 0 (Nat.lt_succ_self _) (by omega) (by rw [mxI_0]; exact f42) H _ _ hP hD hS (lv_sub hl [2, 1, 3, 0] rfl)
    exact K25 ((((2 : Int) - 0).toNat) + 1) w_1 0 (Nat.lt_succ_self _) (by omega) (by exact fun _ => f21) (by intro q; omega) (by intro q; omega) H _ _ hP hD hS (lv_sub hl [2, 1, 0] rfl)
  exact KH s.heap [] hP hD hS
