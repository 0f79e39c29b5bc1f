abbrev rmX9_layWay : Room := { frames := 3, cells := 0, slots := 0, locals := 67 }
set_option maxHeartbeats 4000000 in
set_option maxRecDepth 100000 in
theorem mX9_layWay (l : Launch) (G : GG) (x : Nat) (xs : Nat) (xb : Nat) (xm : Nat) (xf : Nat) (xu : Nat) (xg : Nat) (xw : Nat) (kn : Int) (bl : Int) (ft : Int) (vh : Int) (vm : Int) (vs : Int) (ln : Int) (th : Int) (sp : Int) (pl : Int) (wr : Int) (br : Int) (aS : Int → Int) (aB : Int → Int) (aM : Int → Int) (aO : Int → Int) (aU : Int → Int) (aG : Int → Int) (aW : Int → Int) (hs0 : 0 ≤ aS 0 ∧ aS 0 ≤ 20) (hs1 : 0 ≤ aS 1 ∧ aS 1 ≤ 20) (hg0 : ∀ j : Int, 0 ≤ j → j < aS 0 → 0 ≤ T9 aS 0 j ∧ T9 aS 0 j < 4) (hg1 : ∀ j : Int, 0 ≤ j → j < aS 1 → 0 ≤ T9 aS 1 j ∧ T9 aS 1 j < 4) : Ct l yX9_layWay cX9_layWay 4 none rmX9_layWay G [.ref x] [bMod G x xs xb xm xf xu xg xw kn bl ft vh vm vs ln th sp pl wr br aS aB aM aO aU aG aW] (fun uo : (Int → Int) × (Int → Int) => none) (fun uo => (∀ x : Int, 0 ≤ x → x < wL (T9 aS 0) (T9 aS 1) (aS 0) (aS 1) → uo.2 x = wA (T9 aS 0) (T9 aS 1) (aS 0) (aS 1) x)) (fun uo => [bMod G x xs xb xm xf xu xg xw kn bl ft vh vm vs ln th ((wL (T9 aS 0) (T9 aS 1) (aS 0) (aS 1))) pl wr br aS aB aM aO aU uo.1 uo.2]) := by
  refine cof (by decide) (Nat.le_of_ble_eq_true rfl) ?_
  intro p e s m args below meth c A ls hx hb hr hml hown hts hlocks hin hA hK hP hD hS hl Q hQ
  have hown : s.vm.findClass RX9 = some m.cls := hown
  have hl : lv_has ls 4 [(0, .ref x)] := hl
  have KH : ∀ (H : Heap) (locs : List Loc), wP G [bMod G x xs xb xm xf xu xg xw kn bl ft vh vm vs ln th sp pl wr br aS aB aM aO aU aG aW] H → wD A [bMod G x xs xb xm xf xu xg xw kn bl ft vh vm vs ln th sp pl wr br aS aB aM aO aU aG aW] → va_S A s.heap H locs → W p l e rmX9_layWay s m args below meth c H locs 0 0 Q (F0 m 0 ls []) := by
    intro H locs hP hD hS
    refine lv_aload_n hx hb dX9_layWay_0 rfl (lv_at hl 0 rfl) ?_
    refine jv_iconst hx hb dX9_layWay_1 ?_
    refine kV ⟨hx, hb, hml, hown, hts⟩ hK hA hS hP hD [.int (jz 0)] [] (mX9_lay l G x xs xb xm xf xu xg xw kn bl ft vh vm vs ln th sp pl wr br aS aB aM aO aU aG aW 0 1 (by omega) (by omega) (by exact hg0) (by exact hg1) (by omega) (by omega)) lkX9_60 [0] [] (br := []) rfl rfl (by decide) 0 9 rfl rfl rfl rfl (Nat.le_of_ble_eq_true rfl) hl.1 dX9_layWay_2 ⟨Nat.le_of_ble_eq_true rfl, Nat.le_of_ble_eq_true rfl⟩ ⟨Nat.le_of_ble_eq_true rfl, Nat.le_of_ble_eq_true rfl⟩ (fun u9 H locs hp9 hP hD hS => ?_)
    obtain ⟨u_1, rfl⟩ : ∃ z, z = u9 := ⟨_, rfl⟩
    have hc_2 : ∀ x y : Int, 0 ≤ x → x ≤ aS 0 → 0 ≤ y → y ≤ aS 1 → u_1 (21 * x + y) = D 1 (T9 aS 0) (T9 aS 1) x y := hp9
    have hP : wP G [bMod G x xs xb xm xf xu xg xw kn bl ft vh vm vs ln th sp pl wr br aS aB aM aO aU u_1 aW] H := hP
    have hD : wD A [bMod G x xs xb xm xf xu xg xw kn bl ft vh vm vs ln th sp pl wr br aS aB aM aO aU u_1 aW] := hD
    show W p l e rmX9_layWay s m args below meth c H locs 0 0 Q (F0 m 5 ls [])
    have hc1 := hc_2
    refine lv_aload_n hx hb dX9_layWay_5 rfl (lv_at hl 0 rfl) ?_
    refine va_get (ci := 9) (v := .ref xs) (C := RX9) (T := TX9) (N := 19) hx hb hts wfX9 hown hK.1 hP 0 rfl rfl 0 (by decide) (hts _ wm810) (fun _ h9 => h9) rfl dX9_layWay_6 ?_
    refine jv_iconst hx hb dX9_layWay_9 ?_
    refine jv_iald hx hb hK.1 hP 1 (g := aS) rfl (by omega) (by omega) (by decide) dX9_layWay_10 ?_
    refine lv_istore_n (lv' := [(1, .int (jz (aS 0))), (0, .ref x)]) hx hb dX9_layWay_11 rfl hl (by decide) rfl (fun ls hl => ?_)
    refine lv_aload_n hx hb dX9_layWay_12 rfl (lv_at hl 1 rfl) ?_
    refine va_get (ci := 9) (v := .ref xs) (C := RX9) (T := TX9) (N := 19) hx hb hts wfX9 hown hK.1 hP 0 rfl rfl 0 (by decide) (hts _ wm810) (fun _ h9 => h9) rfl dX9_layWay_13 ?_
    refine jv_iconst hx hb dX9_layWay_16 ?_
    refine jv_iald hx hb hK.1 hP 1 (g := aS) rfl (by omega) (by omega) (by decide) dX9_layWay_17 ?_
    refine lv_istore_n (lv' := [(2, .int (jz (aS 1))), (1, .int (jz (aS 0))), (0, .ref x)]) hx hb dX9_layWay_18 rfl hl (by decide) rfl (fun ls hl => ?_)
    refine lv_aload_n hx hb dX9_layWay_19 rfl (lv_at hl 2 rfl) ?_
    refine jv_iconst hx hb dX9_layWay_20 ?_
    refine va_put (ci := 9) (v := .int (jz 0)) (ty := .int) (C := RX9) (T := TX9) (N := 19) hx hb hts wfX9 tyX9 tyX9_ok nmX9 hown hK.1 hP hD hS 0 rfl rfl 15 (by decide) (hts _ wm825) (fun _ h9 => h9) rfl (by decide +kernel) rfl rfl (Nat.le_of_ble_eq_true rfl) dX9_layWay_21 (fun H locs hP hD hS => ?_)
    have hP : wP G [bMod G x xs xb xm xf xu xg xw kn bl ft vh vm vs ln th 0 pl wr br aS aB aM aO aU u_1 aW] H := hP
    have hD : wD A [bMod G x xs xb xm xf xu xg xw kn bl ft vh vm vs ln th 0 pl wr br aS aB aM aO aU u_1 aW] := hD
    have K24 : ∀ (n9 : Nat) (i : Int) (j : Int) (z : Int) (gq : Int → Int) (f : Int → Int) , ((i + j).toNat) < n9 → (∀ x y : Int, 0 ≤ x → x ≤ aS 0 → 0 ≤ y → y ≤ aS 1 → gq (21 * x + y) = D 1 (T9 aS 0) (T9 aS 1) x y) → (wInv (T9 aS 0) (T9 aS 1) (aS 0) (aS 1) z i j) → (z = 0 ∨ z.toNat ≤ (way (T9 aS 0) (T9 aS 1) (aS 0) (aS 1)).length) → (∀ x : Int, 0 ≤ x → x < z → f x = wA (T9 aS 0) (T9 aS 1) (aS 0) (aS 1) x) → ∀ (H : Heap) (locs : List Loc) (ls : Array Slot), wP G [bMod G x xs xb xm xf xu xg xw kn bl ft vh vm vs ln th z pl wr br aS aB aM aO aU gq f] H → wD A [bMod G x xs xb xm xf xu xg xw kn bl ft vh vm vs ln th z pl wr br aS aB aM aO aU gq f] → va_S A s.heap H locs → lv_has ls 4 [(0, .ref x), (1, .int (jz i)), (2, .int (jz j))] → W p l e rmX9_layWay s m args below meth c H locs 0 0 Q (F0 m 24 ls []) := by
      intro n9
      induction n9 with
      | zero => intro i j z gq f hm9; exact absurd hm9 (Nat.not_lt_zero _)
      | succ n9 ih24 =>
        intro i j z gq f hm9 hgr hw hz hf H locs ls hP hD hS hl
        have hw9 := hw
        obtain ⟨w1, w2, w3, w4, w5, w6, -⟩ := hw9
        have K32 : (0 < i ∨ 0 < j) → ∀ (H : Heap) (locs : List Loc) (ls : Array Slot), wP G [bMod G x xs xb xm xf xu xg xw kn bl ft vh vm vs ln th z pl wr br aS aB aM aO aU gq f] H → wD A [bMod G x xs xb xm xf xu xg xw kn bl ft vh vm vs ln th z pl wr br aS aB aM aO aU gq f] → va_S A s.heap H locs → lv_has ls 4 [(0, .ref x), (1, .int (jz i)), (2, .int (jz j))] → W p l e rmX9_layWay s m args below meth c H locs 0 0 Q (F0 m 32 ls []) := by
          intro  hij H locs ls hP hD hS hl
          obtain ⟨hs1b, hs2b, hs3, hstep⟩ := wInv_step hw hij
          have hsb := stp_bd (a := T9 aS 0) (b := T9 aS 1) w2 w3 hij
          have d1 := D_bd (c := 1) (Or.inr rfl) (T9 aS 0) (T9 aS 1) (i := i) (j := j) (by omega) (by omega)
          have e1 := hgr (i) (j) (by omega) (by omega) (by omega) (by omega)
          refine jv_iconst hx hb dX9_layWay_32 ?_
          have K103 : ∀ (sv : Int) , (sv = stp (T9 aS 0) (T9 aS 1) i j) → ∀ (H : Heap) (locs : List Loc) (ls : Array Slot), wP G [bMod G x xs xb xm xf xu xg xw kn bl ft vh vm vs ln th z pl wr br aS aB aM aO aU gq f] H → wD A [bMod G x xs xb xm xf xu xg xw kn bl ft vh vm vs ln th z pl wr br aS aB aM aO aU gq f] → va_S A s.heap H locs → lv_has ls 4 [(0, .ref x), (1, .int (jz i)), (2, .int (jz j)), (3, .int (jz sv))] → W p l e rmX9_layWay s m args below meth c H locs 0 0 Q (F0 m 103 ls []) := by
            intro sv hsv H locs ls hP hD hS hl
            have hsvb : 0 ≤ sv ∧ sv ≤ 3 := by omega
            refine lv_aload_n hx hb dX9_layWay_103 rfl (lv_at hl 0 rfl) ?_
            refine va_get (ci := 9) (v := .ref xw) (C := RX9) (T := TX9) (N := 19) hx hb hts wfX9 hown hK.1 hP 0 rfl rfl 14 (by decide) (hts _ wm824) (fun _ h9 => h9) rfl dX9_layWay_104 ?_
            refine lv_aload_n hx hb dX9_layWay_107 rfl (lv_at hl 0 rfl) ?_
            refine va_get (ci := 9) (v := .int (jz z)) (C := RX9) (T := TX9) (N := 19) hx hb hts wfX9 hown hK.1 hP 0 rfl rfl 15 (by decide) (hts _ wm825) (fun _ h9 => h9) rfl dX9_layWay_108 ?_
            refine lv_iload_n hx hb dX9_layWay_111 rfl (lv_at hl 3 rfl) ?_
            refine jv_iast hx hb hK.1 hP hD hS 7 (g := f) rfl (by omega) (by omega) (by decide) dX9_layWay_112 (fun H locs hP hD hS => ?_)
            have hP : wP G [bMod G x xs xb xm xf xu xg xw kn bl ft vh vm vs ln th z pl wr br aS aB aM aO aU gq (up f z sv)] H := hP
            have hD : wD A [bMod G x xs xb xm xf xu xg xw kn bl ft vh vm vs ln th z pl wr br aS aB aM aO aU gq (up f z sv)] := hD
            refine lv_aload_n hx hb dX9_layWay_113 rfl (lv_at hl 0 rfl) ?_
            refine lv_dup hx hb dX9_layWay_114 rfl ?_
            refine va_get (ci := 9) (v := .int (jz z)) (C := RX9) (T := TX9) (N := 19) hx hb hts wfX9 hown hK.1 hP 0 rfl rfl 15 (by decide) (hts _ wm825) (fun _ h9 => h9) rfl dX9_layWay_115 ?_
            refine jv_iconst hx hb dX9_layWay_118 ?_
            refine jv_iadd hx hb dX9_layWay_119 ?_
            refine va_put (ci := 9) (v := .int (jz (z + 1))) (ty := .int) (C := RX9) (T := TX9) (N := 19) hx hb hts wfX9 tyX9 tyX9_ok nmX9 hown hK.1 hP hD hS 0 rfl rfl 15 (by decide) (hts _ wm825) (fun _ h9 => h9) rfl (by decide +kernel) rfl rfl (Nat.le_of_ble_eq_true rfl) dX9_layWay_120 (fun H locs hP hD hS => ?_)
            have hP : wP G [bMod G x xs xb xm xf xu xg xw kn bl ft vh vm vs ln th (z + 1) pl wr br aS aB aM aO aU gq (up f z sv)] H := hP
            have hD : wD A [bMod G x xs xb xm xf xu xg xw kn bl ft vh vm vs ln th (z + 1) pl wr br aS aB aM aO aU gq (up f z sv)] := hD
            refine lv_iload_n hx hb dX9_layWay_123 rfl (lv_at hl 1 rfl) ?_
            refine lv_iload_n hx hb dX9_layWay_124 rfl (lv_at hl 3 rfl) ?_
            refine jv_iconst hx hb dX9_layWay_125 ?_
            refine jv_icmp_ne (tgt := 133) hx hb dX9_layWay_126 (by decide) (by omega) (by omega) (fun c_3 => ?_) (fun c_3 => ?_)
            · refine jv_iconst hx hb dX9_layWay_133 ?_
              refine jv_isub hx hb dX9_layWay_134 ?_
              refine lv_istore_n (lv' := [(1, .int (jz (i - 1))), (0, .ref x), (2, .int (jz j)), (3, .int (jz sv))]) hx hb dX9_layWay_135 rfl hl (by decide) rfl (fun ls hl => ?_)
              refine lv_iload_n hx hb dX9_layWay_136 rfl (lv_at hl 2 rfl) ?_
              refine lv_iload_n hx hb dX9_layWay_137 rfl (lv_at hl 3 rfl) ?_
              refine jv_iconst hx hb dX9_layWay_138 ?_
              refine jv_icmp_ne (tgt := 146) hx hb dX9_layWay_139 (by decide) (by omega) (by omega) (fun c_4 => ?_) (fun c_4 => ?_)
              · refine jv_iconst hx hb dX9_layWay_146 ?_
                refine jv_isub hx hb dX9_layWay_147 ?_
                refine lv_istore_n (lv' := [(2, .int (jz (j - 1))), (1, .int (jz (i - 1))), (0, .ref x), (3, .int (jz sv))]) hx hb dX9_layWay_148 rfl hl (by decide) rfl (fun ls hl => ?_)
                refine lv_goto (tgt := 24) hx hb dX9_layWay_149 (by decide) ?_
                exact ih24 (i - 1) (j - 1) (z + 1) gq (up f z sv) (by omega) (by exact hgr) (by have q9 := hstep; rw [← hsv] at q9; (try simp only [Int.sub_zero]); first | (exfalso; omega) | (rw [if_pos (by omega), if_neg (by omega)] at q9; exact q9) | (rw [if_neg (by omega), if_pos (by omega)] at q9; exact q9) | (rw [if_neg (by omega), if_neg (by omega)] at q9; exact q9)) (by omega) (by intro x h1 h2; unfold up; if e1 : x = z then (rw [if_pos e1, e1, hs3]; exact hsv) else (rw [if_neg e1]; exact hf x h1 (by omega))) H _ _ hP hD hS (lv_sub hl [2, 1, 0] rfl)
              · refine jv_iconst hx hb dX9_layWay_142 ?_
                refine lv_goto (tgt := 147) hx hb dX9_layWay_143 (by decide) ?_
                refine jv_isub hx hb dX9_layWay_147 ?_
                refine lv_istore_n (lv' := [(2, .int (jz (j - 0))), (1, .int (jz (i - 1))), (0, .ref x), (3, .int (jz sv))]) hx hb dX9_layWay_148 rfl hl (by decide) rfl (fun ls hl => ?_)
                refine lv_goto (tgt := 24) hx hb dX9_layWay_149 (by decide) ?_
                exact ih24 (i - 1) (j - 0) (z + 1) gq (up f z sv) (by omega) (by exact hgr) (by have q9 := hstep; rw [← hsv] at q9; (try simp only [Int.sub_zero]); first | (exfalso; omega) | (rw [if_pos (by omega), if_neg (by omega)] at q9; exact q9) | (rw [if_neg (by omega), if_pos (by omega)] at q9; exact q9) | (rw [if_neg (by omega), if_neg (by omega)] at q9; exact q9)) (by omega) (by intro x h1 h2; unfold up; if e1 : x = z then (rw [if_pos e1, e1, hs3]; exact hsv) else (rw [if_neg e1]; exact hf x h1 (by omega))) H _ _ hP hD hS (lv_sub hl [2, 1, 0] rfl)
            · refine jv_iconst hx hb dX9_layWay_129 ?_
              refine lv_goto (tgt := 134) hx hb dX9_layWay_130 (by decide) ?_
              refine jv_isub hx hb dX9_layWay_134 ?_
              refine lv_istore_n (lv' := [(1, .int (jz (i - 0))), (0, .ref x), (2, .int (jz j)), (3, .int (jz sv))]) hx hb dX9_layWay_135 rfl hl (by decide) rfl (fun ls hl => ?_)
              refine lv_iload_n hx hb dX9_layWay_136 rfl (lv_at hl 2 rfl) ?_
              refine lv_iload_n hx hb dX9_layWay_137 rfl (lv_at hl 3 rfl) ?_
              refine jv_iconst hx hb dX9_layWay_138 ?_
              refine jv_icmp_ne (tgt := 146) hx hb dX9_layWay_139 (by decide) (by omega) (by omega) (fun c_5 => ?_) (fun c_5 => ?_)
              · refine jv_iconst hx hb dX9_layWay_146 ?_
                refine jv_isub hx hb dX9_layWay_147 ?_
                refine lv_istore_n (lv' := [(2, .int (jz (j - 1))), (1, .int (jz (i - 0))), (0, .ref x), (3, .int (jz sv))]) hx hb dX9_layWay_148 rfl hl (by decide) rfl (fun ls hl => ?_)
                refine lv_goto (tgt := 24) hx hb dX9_layWay_149 (by decide) ?_
                exact ih24 (i - 0) (j - 1) (z + 1) gq (up f z sv) (by omega) (by exact hgr) (by have q9 := hstep; rw [← hsv] at q9; (try simp only [Int.sub_zero]); first | (exfalso; omega) | (rw [if_pos (by omega), if_neg (by omega)] at q9; exact q9) | (rw [if_neg (by omega), if_pos (by omega)] at q9; exact q9) | (rw [if_neg (by omega), if_neg (by omega)] at q9; exact q9)) (by omega) (by intro x h1 h2; unfold up; if e1 : x = z then (rw [if_pos e1, e1, hs3]; exact hsv) else (rw [if_neg e1]; exact hf x h1 (by omega))) H _ _ hP hD hS (lv_sub hl [2, 1, 0] rfl)
              · refine jv_iconst hx hb dX9_layWay_142 ?_
                refine lv_goto (tgt := 147) hx hb dX9_layWay_143 (by decide) ?_
                refine jv_isub hx hb dX9_layWay_147 ?_
                refine lv_istore_n (lv' := [(2, .int (jz (j - 0))), (1, .int (jz (i - 0))), (0, .ref x), (3, .int (jz sv))]) hx hb dX9_layWay_148 rfl hl (by decide) rfl (fun ls hl => ?_)
                refine lv_goto (tgt := 24) hx hb dX9_layWay_149 (by decide) ?_
                exact ih24 (i - 0) (j - 0) (z + 1) gq (up f z sv) (by omega) (by exact hgr) (by have q9 := hstep; rw [← hsv] at q9; (try simp only [Int.sub_zero]); first | (exfalso; omega) | (rw [if_pos (by omega), if_neg (by omega)] at q9; exact q9) | (rw [if_neg (by omega), if_pos (by omega)] at q9; exact q9) | (rw [if_neg (by omega), if_neg (by omega)] at q9; exact q9)) (by omega) (by intro x h1 h2; unfold up; if e1 : x = z then (rw [if_pos e1, e1, hs3]; exact hsv) else (rw [if_neg e1]; exact hf x h1 (by omega))) H _ _ hP hD hS (lv_sub hl [2, 1, 0] rfl)
          refine lv_istore_n (lv' := [(3, .int (jz 3)), (0, .ref x), (1, .int (jz i)), (2, .int (jz j))]) hx hb dX9_layWay_33 rfl hl (by decide) rfl (fun ls hl => ?_)
          refine lv_iload_n hx hb dX9_layWay_34 rfl (lv_at hl 2 rfl) ?_
          refine jv_if_le (tgt := 78) hx hb dX9_layWay_35 (by decide) (by omega) (fun c_6 => ?_) (fun c_6 => ?_)
          · refine lv_iload_n hx hb dX9_layWay_78 rfl (lv_at hl 2 rfl) ?_
            refine jv_if_le (tgt := 103) hx hb dX9_layWay_79 (by decide) (by omega) (fun c_7 => ?_) (fun c_7 => ?_)
            · exact K103 3 (by first | (exfalso; omega) | (unfold stp; first | (rw [if_pos ⟨by omega, by omega, by omega⟩]) | (rw [if_neg (fun q => by omega), if_pos ⟨by omega, by omega⟩]) | (rw [if_neg (fun q => by omega), if_neg (fun q => by omega)]))) H _ _ hP hD hS (lv_sub hl [1, 2, 3, 0] rfl)
            · refine lv_aload_n hx hb dX9_layWay_82 rfl (lv_at hl 1 rfl) ?_
              refine lv_iload_n hx hb dX9_layWay_83 rfl (lv_at hl 2 rfl) ?_
              refine lv_iload_n hx hb dX9_layWay_84 rfl (lv_at hl 3 rfl) ?_
              refine kV ⟨hx, hb, hml, hown, hts⟩ hK hA hS hP hD [.int (jz i), .int (jz j)] [] (mX9_d l G x xs xb xm xf xu xg xw kn bl ft vh vm vs ln th z pl wr br aS aB aM aO aU gq f i j (by omega) (by omega)) lkX9_50 [0] [] (br := []) rfl rfl (by decide) 0 9 rfl rfl rfl rfl (Nat.le_of_ble_eq_true rfl) hl.1 dX9_layWay_85 ⟨Nat.le_of_ble_eq_true rfl, Nat.le_of_ble_eq_true rfl⟩ ⟨Nat.le_of_ble_eq_true rfl, Nat.le_of_ble_eq_true rfl⟩ (fun u9 H locs hp9 hP hD hS => ?_)
              have hP : wP G [bMod G x xs xb xm xf xu xg xw kn bl ft vh vm vs ln th z pl wr br aS aB aM aO aU gq f] H := hP
              have hD : wD A [bMod G x xs xb xm xf xu xg xw kn bl ft vh vm vs ln th z pl wr br aS aB aM aO aU gq f] := hD
              show W p l e rmX9_layWay s m args below meth c H locs 0 0 Q (F0 m 88 ls [.int (jz (gq (21 * i + j)))])
              refine lv_aload_n hx hb dX9_layWay_88 rfl (lv_at hl 1 rfl) ?_
              refine lv_iload_n hx hb dX9_layWay_89 rfl (lv_at hl 2 rfl) ?_
              refine jv_iconst hx hb dX9_layWay_90 ?_
              refine jv_isub hx hb dX9_layWay_91 ?_
              refine lv_iload_n hx hb dX9_layWay_92 rfl (lv_at hl 3 rfl) ?_
              have d3 := D_bd (c := 1) (Or.inr rfl) (T9 aS 0) (T9 aS 1) (i := i - 1) (j := j) (by omega) (by omega)
              have e3 := hgr (i - 1) (j) (by omega) (by omega) (by omega) (by omega)
              refine kV ⟨hx, hb, hml, hown, hts⟩ hK hA hS hP hD [.int (jz (i - 1)), .int (jz j)] [.int (jz (gq (21 * i + j)))] (mX9_d l G x xs xb xm xf xu xg xw kn bl ft vh vm vs ln th z pl wr br aS aB aM aO aU gq f (i - 1) j (by omega) (by omega)) lkX9_50 [0] [] (br := []) rfl rfl (by decide) 0 9 rfl rfl rfl rfl (Nat.le_of_ble_eq_true rfl) hl.1 dX9_layWay_93 ⟨Nat.le_of_ble_eq_true rfl, Nat.le_of_ble_eq_true rfl⟩ ⟨Nat.le_of_ble_eq_true rfl, Nat.le_of_ble_eq_true rfl⟩ (fun u9 H locs hp9 hP hD hS => ?_)
              have hP : wP G [bMod G x xs xb xm xf xu xg xw kn bl ft vh vm vs ln th z pl wr br aS aB aM aO aU gq f] H := hP
              have hD : wD A [bMod G x xs xb xm xf xu xg xw kn bl ft vh vm vs ln th z pl wr br aS aB aM aO aU gq f] := hD
              show W p l e rmX9_layWay s m args below meth c H locs 0 0 Q (F0 m 96 ls [.int (jz (gq (21 * (i - 1) + j))), .int (jz (gq (21 * i + j)))])
              refine jv_iconst hx hb dX9_layWay_96 ?_
              refine jv_iadd hx hb dX9_layWay_97 ?_
              refine jv_icmp_ne (tgt := 103) hx hb dX9_layWay_98 (by decide) (by omega) (by omega) (fun c_10 => ?_) (fun c_10 => ?_)
              · exact K103 3 (by first | (exfalso; omega) | (unfold stp; first | (rw [if_pos ⟨by omega, by omega, by omega⟩]) | (rw [if_neg (fun q => by omega), if_pos ⟨by omega, by omega⟩]) | (rw [if_neg (fun q => by omega), if_neg (fun q => by omega)]))) H _ _ hP hD hS (lv_sub hl [1, 2, 3, 0] rfl)
              · refine jv_iconst hx hb dX9_layWay_101 ?_
                refine lv_istore_n (lv' := [(3, .int (jz 2)), (0, .ref x), (1, .int (jz i)), (2, .int (jz j))]) hx hb dX9_layWay_102 rfl hl (by decide) rfl (fun ls hl => ?_)
                exact K103 2 (by first | (exfalso; omega) | (unfold stp; first | (rw [if_pos ⟨by omega, by omega, by omega⟩]) | (rw [if_neg (fun q => by omega), if_pos ⟨by omega, by omega⟩]) | (rw [if_neg (fun q => by omega), if_neg (fun q => by omega)]))) H _ _ hP hD hS (lv_sub hl [1, 2, 3, 0] rfl)
          · refine lv_iload_n hx hb dX9_layWay_38 rfl (lv_at hl 3 rfl) ?_
            refine jv_if_le (tgt := 78) hx hb dX9_layWay_39 (by decide) (by omega) (fun c_11 => ?_) (fun c_11 => ?_)
            · refine lv_iload_n hx hb dX9_layWay_78 rfl (lv_at hl 2 rfl) ?_
              refine jv_if_le (tgt := 103) hx hb dX9_layWay_79 (by decide) (by omega) (fun c_12 => ?_) (fun c_12 => ?_)
              · exact K103 3 (by first | (exfalso; omega) | (unfold stp; first | (rw [if_pos ⟨by omega, by omega, by omega⟩]) | (rw [if_neg (fun q => by omega), if_pos ⟨by omega, by omega⟩]) | (rw [if_neg (fun q => by omega), if_neg (fun q => by omega)]))) H _ _ hP hD hS (lv_sub hl [1, 2, 3, 0] rfl)
              · refine lv_aload_n hx hb dX9_layWay_82 rfl (lv_at hl 1 rfl) ?_
                refine lv_iload_n hx hb dX9_layWay_83 rfl (lv_at hl 2 rfl) ?_
                refine lv_iload_n hx hb dX9_layWay_84 rfl (lv_at hl 3 rfl) ?_
                refine kV ⟨hx, hb, hml, hown, hts⟩ hK hA hS hP hD [.int (jz i), .int (jz j)] [] (mX9_d l G x xs xb xm xf xu xg xw kn bl ft vh vm vs ln th z pl wr br aS aB aM aO aU gq f i j (by omega) (by omega)) lkX9_50 [0] [] (br := []) rfl rfl (by decide) 0 9 rfl rfl rfl rfl (Nat.le_of_ble_eq_true rfl) hl.1 dX9_layWay_85 ⟨Nat.le_of_ble_eq_true rfl, Nat.le_of_ble_eq_true rfl⟩ ⟨Nat.le_of_ble_eq_true rfl, Nat.le_of_ble_eq_true rfl⟩ (fun u9 H locs hp9 hP hD hS => ?_)
                have hP : wP G [bMod G x xs xb xm xf xu xg xw kn bl ft vh vm vs ln th z pl wr br aS aB aM aO aU gq f] H := hP
                have hD : wD A [bMod G x xs xb xm xf xu xg xw kn bl ft vh vm vs ln th z pl wr br aS aB aM aO aU gq f] := hD
                show W p l e rmX9_layWay s m args below meth c H locs 0 0 Q (F0 m 88 ls [.int (jz (gq (21 * i + j)))])
                refine lv_aload_n hx hb dX9_layWay_88 rfl (lv_at hl 1 rfl) ?_
                refine lv_iload_n hx hb dX9_layWay_89 rfl (lv_at hl 2 rfl) ?_
                refine jv_iconst hx hb dX9_layWay_90 ?_
                refine jv_isub hx hb dX9_layWay_91 ?_
                refine lv_iload_n hx hb dX9_layWay_92 rfl (lv_at hl 3 rfl) ?_
                have d3 := D_bd (c := 1) (Or.inr rfl) (T9 aS 0) (T9 aS 1) (i := i - 1) (j := j) (by omega) (by omega)
                have e3 := hgr (i - 1) (j) (by omega) (by omega) (by omega) (by omega)
                refine kV ⟨hx, hb, hml, hown, hts⟩ hK hA hS hP hD [.int (jz (i - 1)), .int (jz j)] [.int (jz (gq (21 * i + j)))] (mX9_d l G x xs xb xm xf xu xg xw kn bl ft vh vm vs ln th z pl wr br aS aB aM aO aU gq f (i - 1) j (by omega) (by omega)) lkX9_50 [0] [] (br := []) rfl rfl (by decide) 0 9 rfl rfl rfl rfl (Nat.le_of_ble_eq_true rfl) hl.1 dX9_layWay_93 ⟨Nat.le_of_ble_eq_true rfl, Nat.le_of_ble_eq_true rfl⟩ ⟨Nat.le_of_ble_eq_true rfl, Nat.le_of_ble_eq_true rfl⟩ (fun u9 H locs hp9 hP hD hS => ?_)
                have hP : wP G [bMod G x xs xb xm xf xu xg xw kn bl ft vh vm vs ln th z pl wr br aS aB aM aO aU gq f] H := hP
                have hD : wD A [bMod G x xs xb xm xf xu xg xw kn bl ft vh vm vs ln th z pl wr br aS aB aM aO aU gq f] := hD
                show W p l e rmX9_layWay s m args below meth c H locs 0 0 Q (F0 m 96 ls [.int (jz (gq (21 * (i - 1) + j))), .int (jz (gq (21 * i + j)))])
                refine jv_iconst hx hb dX9_layWay_96 ?_
                refine jv_iadd hx hb dX9_layWay_97 ?_
                refine jv_icmp_ne (tgt := 103) hx hb dX9_layWay_98 (by decide) (by omega) (by omega) (fun c_15 => ?_) (fun c_15 => ?_)
                · exact K103 3 (by first | (exfalso; omega) | (unfold stp; first | (rw [if_pos ⟨by omega, by omega, by omega⟩]) | (rw [if_neg (fun q => by omega), if_pos ⟨by omega, by omega⟩]) | (rw [if_neg (fun q => by omega), if_neg (fun q => by omega)]))) H _ _ hP hD hS (lv_sub hl [1, 2, 3, 0] rfl)
                · refine jv_iconst hx hb dX9_layWay_101 ?_
                  refine lv_istore_n (lv' := [(3, .int (jz 2)), (0, .ref x), (1, .int (jz i)), (2, .int (jz j))]) hx hb dX9_layWay_102 rfl hl (by decide) rfl (fun ls hl => ?_)
                  exact K103 2 (by first | (exfalso; omega) | (unfold stp; first | (rw [if_pos ⟨by omega, by omega, by omega⟩]) | (rw [if_neg (fun q => by omega), if_pos ⟨by omega, by omega⟩]) | (rw [if_neg (fun q => by omega), if_neg (fun q => by omega)]))) H _ _ hP hD hS (lv_sub hl [1, 2, 3, 0] rfl)
            · refine lv_aload_n hx hb dX9_layWay_42 rfl (lv_at hl 1 rfl) ?_
              refine lv_iload_n hx hb dX9_layWay_43 rfl (lv_at hl 2 rfl) ?_
              refine lv_iload_n hx hb dX9_layWay_44 rfl (lv_at hl 3 rfl) ?_
              refine kV ⟨hx, hb, hml, hown, hts⟩ hK hA hS hP hD [.int (jz i), .int (jz j)] [] (mX9_d l G x xs xb xm xf xu xg xw kn bl ft vh vm vs ln th z pl wr br aS aB aM aO aU gq f i j (by omega) (by omega)) lkX9_50 [0] [] (br := []) rfl rfl (by decide) 0 9 rfl rfl rfl rfl (Nat.le_of_ble_eq_true rfl) hl.1 dX9_layWay_45 ⟨Nat.le_of_ble_eq_true rfl, Nat.le_of_ble_eq_true rfl⟩ ⟨Nat.le_of_ble_eq_true rfl, Nat.le_of_ble_eq_true rfl⟩ (fun u9 H locs hp9 hP hD hS => ?_)
              have hP : wP G [bMod G x xs xb xm xf xu xg xw kn bl ft vh vm vs ln th z pl wr br aS aB aM aO aU gq f] H := hP
              have hD : wD A [bMod G x xs xb xm xf xu xg xw kn bl ft vh vm vs ln th z pl wr br aS aB aM aO aU gq f] := hD
              show W p l e rmX9_layWay s m args below meth c H locs 0 0 Q (F0 m 48 ls [.int (jz (gq (21 * i + j)))])
              refine lv_aload_n hx hb dX9_layWay_48 rfl (lv_at hl 1 rfl) ?_
              refine lv_iload_n hx hb dX9_layWay_49 rfl (lv_at hl 2 rfl) ?_
              refine jv_iconst hx hb dX9_layWay_50 ?_
              refine jv_isub hx hb dX9_layWay_51 ?_
              refine lv_iload_n hx hb dX9_layWay_52 rfl (lv_at hl 3 rfl) ?_
              refine jv_iconst hx hb dX9_layWay_53 ?_
              refine jv_isub hx hb dX9_layWay_54 ?_
              have d2 := D_bd (c := 1) (Or.inr rfl) (T9 aS 0) (T9 aS 1) (i := i - 1) (j := j - 1) (by omega) (by omega)
              have e2 := hgr (i - 1) (j - 1) (by omega) (by omega) (by omega) (by omega)
              have la := hg0 (i - 1) (by omega) (by omega)
              have lb := hg1 (j - 1) (by omega) (by omega)
              have hcb := cst_bd (T9 aS 0 (i - 1)) (T9 aS 1 (j - 1))
              refine kV ⟨hx, hb, hml, hown, hts⟩ hK hA hS hP hD [.int (jz (i - 1)), .int (jz (j - 1))] [.int (jz (gq (21 * i + j)))] (mX9_d l G x xs xb xm xf xu xg xw kn bl ft vh vm vs ln th z pl wr br aS aB aM aO aU gq f (i - 1) (j - 1) (by omega) (by omega)) lkX9_50 [0] [] (br := []) rfl rfl (by decide) 0 9 rfl rfl rfl rfl (Nat.le_of_ble_eq_true rfl) hl.1 dX9_layWay_55 ⟨Nat.le_of_ble_eq_true rfl, Nat.le_of_ble_eq_true rfl⟩ ⟨Nat.le_of_ble_eq_true rfl, Nat.le_of_ble_eq_true rfl⟩ (fun u9 H locs hp9 hP hD hS => ?_)
              have hP : wP G [bMod G x xs xb xm xf xu xg xw kn bl ft vh vm vs ln th z pl wr br aS aB aM aO aU gq f] H := hP
              have hD : wD A [bMod G x xs xb xm xf xu xg xw kn bl ft vh vm vs ln th z pl wr br aS aB aM aO aU gq f] := hD
              show W p l e rmX9_layWay s m args below meth c H locs 0 0 Q (F0 m 58 ls [.int (jz (gq (21 * (i - 1) + (j - 1)))), .int (jz (gq (21 * i + j)))])
              refine lv_aload_n hx hb dX9_layWay_58 rfl (lv_at hl 1 rfl) ?_
              refine lv_iload_n hx hb dX9_layWay_59 rfl (lv_at hl 2 rfl) ?_
              refine lv_iload_n hx hb dX9_layWay_60 rfl (lv_at hl 3 rfl) ?_
              refine kV ⟨hx, hb, hml, hown, hts⟩ hK hA hS hP hD [.int (jz i), .int (jz j)] [.int (jz (gq (21 * (i - 1) + (j - 1)))), .int (jz (gq (21 * i + j)))] (mX9_cost l G x xs xb xm xf xu xg xw kn bl ft vh vm vs ln th z pl wr br aS aB aM aO aU gq f i j (by omega) (by omega) (by omega) (by omega)) lkX9_53 [0] [] (br := []) rfl rfl (by decide) 0 9 rfl rfl rfl rfl (Nat.le_of_ble_eq_true rfl) hl.1 dX9_layWay_61 ⟨Nat.le_of_ble_eq_true rfl, Nat.le_of_ble_eq_true rfl⟩ ⟨Nat.le_of_ble_eq_true rfl, Nat.le_of_ble_eq_true rfl⟩ (fun u9 H locs hp9 hP hD hS => ?_)
              have hP : wP G [bMod G x xs xb xm xf xu xg xw kn bl ft vh vm vs ln th z pl wr br aS aB aM aO aU gq f] H := hP
              have hD : wD A [bMod G x xs xb xm xf xu xg xw kn bl ft vh vm vs ln th z pl wr br aS aB aM aO aU gq f] := hD
              show W p l e rmX9_layWay s m args below meth c H locs 0 0 Q (F0 m 64 ls [.int (jz (cst (T9 aS 0 (i - 1)) (T9 aS 1 (j - 1)))), .int (jz (gq (21 * (i - 1) + (j - 1)))), .int (jz (gq (21 * i + j)))])
              refine jv_iadd hx hb dX9_layWay_64 ?_
              refine jv_icmp_ne (tgt := 78) hx hb dX9_layWay_65 (by decide) (by omega) (by omega) (fun c_19 => ?_) (fun c_19 => ?_)
              · refine lv_iload_n hx hb dX9_layWay_78 rfl (lv_at hl 2 rfl) ?_
                refine jv_if_le (tgt := 103) hx hb dX9_layWay_79 (by decide) (by omega) (fun c_20 => ?_) (fun c_20 => ?_)
                · exact K103 3 (by first | (exfalso; omega) | (unfold stp; first | (rw [if_pos ⟨by omega, by omega, by omega⟩]) | (rw [if_neg (fun q => by omega), if_pos ⟨by omega, by omega⟩]) | (rw [if_neg (fun q => by omega), if_neg (fun q => by omega)]))) H _ _ hP hD hS (lv_sub hl [1, 2, 3, 0] rfl)
                · refine lv_aload_n hx hb dX9_layWay_82 rfl (lv_at hl 1 rfl) ?_
                  refine lv_iload_n hx hb dX9_layWay_83 rfl (lv_at hl 2 rfl) ?_
                  refine lv_iload_n hx hb dX9_layWay_84 rfl (lv_at hl 3 rfl) ?_
                  refine kV ⟨hx, hb, hml, hown, hts⟩ hK hA hS hP hD [.int (jz i), .int (jz j)] [] (mX9_d l G x xs xb xm xf xu xg xw kn bl ft vh vm vs ln th z pl wr br aS aB aM aO aU gq f i j (by omega) (by omega)) lkX9_50 [0] [] (br := []) rfl rfl (by decide) 0 9 rfl rfl rfl rfl (Nat.le_of_ble_eq_true rfl) hl.1 dX9_layWay_85 ⟨Nat.le_of_ble_eq_true rfl, Nat.le_of_ble_eq_true rfl⟩ ⟨Nat.le_of_ble_eq_true rfl, Nat.le_of_ble_eq_true rfl⟩ (fun u9 H locs hp9 hP hD hS => ?_)
                  have hP : wP G [bMod G x xs xb xm xf xu xg xw kn bl ft vh vm vs ln th z pl wr br aS aB aM aO aU gq f] H := hP
                  have hD : wD A [bMod G x xs xb xm xf xu xg xw kn bl ft vh vm vs ln th z pl wr br aS aB aM aO aU gq f] := hD
                  show W p l e rmX9_layWay s m args below meth c H locs 0 0 Q (F0 m 88 ls [.int (jz (gq (21 * i + j)))])
                  refine lv_aload_n hx hb dX9_layWay_88 rfl (lv_at hl 1 rfl) ?_
                  refine lv_iload_n hx hb dX9_layWay_89 rfl (lv_at hl 2 rfl) ?_
                  refine jv_iconst hx hb dX9_layWay_90 ?_
                  refine jv_isub hx hb dX9_layWay_91 ?_
                  refine lv_iload_n hx hb dX9_layWay_92 rfl (lv_at hl 3 rfl) ?_
                  have d3 := D_bd (c := 1) (Or.inr rfl) (T9 aS 0) (T9 aS 1) (i := i - 1) (j := j) (by omega) (by omega)
                  have e3 := hgr (i - 1) (j) (by omega) (by omega) (by omega) (by omega)
                  refine kV ⟨hx, hb, hml, hown, hts⟩ hK hA hS hP hD [.int (jz (i - 1)), .int (jz j)] [.int (jz (gq (21 * i + j)))] (mX9_d l G x xs xb xm xf xu xg xw kn bl ft vh vm vs ln th z pl wr br aS aB aM aO aU gq f (i - 1) j (by omega) (by omega)) lkX9_50 [0] [] (br := []) rfl rfl (by decide) 0 9 rfl rfl rfl rfl (Nat.le_of_ble_eq_true rfl) hl.1 dX9_layWay_93 ⟨Nat.le_of_ble_eq_true rfl, Nat.le_of_ble_eq_true rfl⟩ ⟨Nat.le_of_ble_eq_true rfl, Nat.le_of_ble_eq_true rfl⟩ (fun u9 H locs hp9 hP hD hS => ?_)
                  have hP : wP G [bMod G x xs xb xm xf xu xg xw kn bl ft vh vm vs ln th z pl wr br aS aB aM aO aU gq f] H := hP
                  have hD : wD A [bMod G x xs xb xm xf xu xg xw kn bl ft vh vm vs ln th z pl wr br aS aB aM aO aU gq f] := hD
                  show W p l e rmX9_layWay s m args below meth c H locs 0 0 Q (F0 m 96 ls [.int (jz (gq (21 * (i - 1) + j))), .int (jz (gq (21 * i + j)))])
                  refine jv_iconst hx hb dX9_layWay_96 ?_
                  refine jv_iadd hx hb dX9_layWay_97 ?_
                  refine jv_icmp_ne (tgt := 103) hx hb dX9_layWay_98 (by decide) (by omega) (by omega) (fun c_23 => ?_) (fun c_23 => ?_)
                  · exact K103 3 (by first | (exfalso; omega) | (unfold stp; first | (rw [if_pos ⟨by omega, by omega, by omega⟩]) | (rw [if_neg (fun q => by omega), if_pos ⟨by omega, by omega⟩]) | (rw [if_neg (fun q => by omega), if_neg (fun q => by omega)]))) H _ _ hP hD hS (lv_sub hl [1, 2, 3, 0] rfl)
                  · refine jv_iconst hx hb dX9_layWay_101 ?_
                    refine lv_istore_n (lv' := [(3, .int (jz 2)), (0, .ref x), (1, .int (jz i)), (2, .int (jz j))]) hx hb dX9_layWay_102 rfl hl (by decide) rfl (fun ls hl => ?_)
                    exact K103 2 (by first | (exfalso; omega) | (unfold stp; first | (rw [if_pos ⟨by omega, by omega, by omega⟩]) | (rw [if_neg (fun q => by omega), if_pos ⟨by omega, by omega⟩]) | (rw [if_neg (fun q => by omega), if_neg (fun q => by omega)]))) H _ _ hP hD hS (lv_sub hl [1, 2, 3, 0] rfl)
              · refine lv_aload_n hx hb dX9_layWay_68 rfl (lv_at hl 1 rfl) ?_
                refine lv_iload_n hx hb dX9_layWay_69 rfl (lv_at hl 2 rfl) ?_
                refine lv_iload_n hx hb dX9_layWay_70 rfl (lv_at hl 3 rfl) ?_
                refine kV ⟨hx, hb, hml, hown, hts⟩ hK hA hS hP hD [.int (jz i), .int (jz j)] [] (mX9_cost l G x xs xb xm xf xu xg xw kn bl ft vh vm vs ln th z pl wr br aS aB aM aO aU gq f i j (by omega) (by omega) (by omega) (by omega)) lkX9_53 [0] [] (br := []) rfl rfl (by decide) 0 9 rfl rfl rfl rfl (Nat.le_of_ble_eq_true rfl) hl.1 dX9_layWay_71 ⟨Nat.le_of_ble_eq_true rfl, Nat.le_of_ble_eq_true rfl⟩ ⟨Nat.le_of_ble_eq_true rfl, Nat.le_of_ble_eq_true rfl⟩ (fun u9 H locs hp9 hP hD hS => ?_)
                have hP : wP G [bMod G x xs xb xm xf xu xg xw kn bl ft vh vm vs ln th z pl wr br aS aB aM aO aU gq f] H := hP
                have hD : wD A [bMod G x xs xb xm xf xu xg xw kn bl ft vh vm vs ln th z pl wr br aS aB aM aO aU gq f] := hD
                show W p l e rmX9_layWay s m args below meth c H locs 0 0 Q (F0 m 74 ls [.int (jz (cst (T9 aS 0 (i - 1)) (T9 aS 1 (j - 1))))])
                refine lv_istore_n (lv' := [(3, .int (jz (cst (T9 aS 0 (i - 1)) (T9 aS 1 (j - 1))))), (0, .ref x), (1, .int (jz i)), (2, .int (jz j))]) hx hb dX9_layWay_74 rfl hl (by decide) rfl (fun ls hl => ?_)
                refine lv_goto (tgt := 103) hx hb dX9_layWay_75 (by decide) ?_
                exact K103 (cst (T9 aS 0 (i - 1)) (T9 aS 1 (j - 1))) (by first | (exfalso; omega) | (unfold stp; first | (rw [if_pos ⟨by omega, by omega, by omega⟩]) | (rw [if_neg (fun q => by omega), if_pos ⟨by omega, by omega⟩]) | (rw [if_neg (fun q => by omega), if_neg (fun q => by omega)]))) H _ _ hP hD hS (lv_sub hl [1, 2, 3, 0] rfl)
        refine lv_iload_n hx hb dX9_layWay_24 rfl (lv_at hl 1 rfl) ?_
        refine jv_if_gt (tgt := 32) hx hb dX9_layWay_25 (by decide) (by omega) (fun c_25 => ?_) (fun c_25 => ?_)
        · exact K32  (by omega) H _ _ hP hD hS (lv_sub hl [0, 1, 2] rfl)
        · refine lv_iload_n hx hb dX9_layWay_28 rfl (lv_at hl 2 rfl) ?_
          refine jv_if_le (tgt := 152) hx hb dX9_layWay_29 (by decide) (by omega) (fun c_26 => ?_) (fun c_26 => ?_)
          · have hze : z = wL (T9 aS 0) (T9 aS 1) (aS 0) (aS 1) := wInv_end hw (by omega) (by omega) hz
            subst hze
            exact cret_v hx hb hr hlocks hS hP hD (Nat.le_of_ble_eq_true rfl) (Nat.le_of_ble_eq_true rfl) dX9_layWay_152 [0] (by decide) ⟨gq, f⟩ rfl (show ∀ x : Int, 0 ≤ x → x < wL (T9 aS 0) (T9 aS 1) (aS 0) (aS 1) → f x = wA (T9 aS 0) (T9 aS 1) (aS 0) (aS 1) x from hf) rfl hQ
          · exact K32  (by omega) H _ _ hP hD hS (lv_sub hl [0, 1, 2] rfl)
    exact K24 ((((aS 0) + (aS 1)).toNat) + 1) (aS 0) (aS 1) 0 u_1 aW (Nat.lt_succ_self _) (by exact hc1) (by exact wInv_0 hs0 hs1) (by exact Or.inl rfl) (by intro x h1 h2; omega) H _ _ hP hD hS (lv_sub hl [2, 1, 0] rfl)
  exact KH s.heap [] hP hD hS
