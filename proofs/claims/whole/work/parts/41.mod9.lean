abbrev rmX9_tried_0 : Room := { frames := 4, cells := 0, slots := 0, locals := 87 }
set_option maxHeartbeats 4000000 in
set_option maxRecDepth 100000 in
theorem mX9_tried_0 (l : Launch) (G : GG) (x : Nat) (xs : Nat) (xb : Nat) (xm : Nat) (xf : Nat) (xu : Nat) (xg : Nat) (xw : Nat) (kn : Int) (bl : Int) (ft : Int) (vh : Int) (vm : Int) (vs : Int) (ln : Int) (th : Int) (sp : Int) (pl : Int) (wr : Int) (br : Int) (aS : Int → Int) (aB : Int → Int) (aM : Int → Int) (aO : Int → Int) (aU : Int → Int) (aG : Int → Int) (aW : Int → Int) (z : Int) (i : Int) (v : Int) (hs0 : 0 ≤ aS 0 ∧ aS 0 ≤ 20) (hs1 : 0 ≤ aS 1 ∧ aS 1 ≤ 20) (hg0 : ∀ j : Int, 0 ≤ j → j < aS 0 → 0 ≤ T9 aS 0 j ∧ T9 aS 0 j < 4) (hg1 : ∀ j : Int, 0 ≤ j → j < aS 1 → 0 ≤ T9 aS 1 j ∧ T9 aS 1 j < 4) (hz : z = 0) (hi : 0 ≤ i ∧ i ≤ aS 0 - 1) (hv : 0 ≤ v ∧ v < 4) : Ct l yX9_tried cX9_tried 6 (some .int) rmX9_tried_0 G [.ref x, .int (jz z), .int (jz i), .int (jz v)] [bMod G x xs xb xm xf xu xg xw kn bl ft vh vm vs ln th sp pl wr br aS aB aM aO aU aG aW] (fun uo : (Int → Int) => some (.int (jz (D 1 (up (T9 aS 0) i v) (T9 aS 1) (aS 0) (aS 1))))) (fun uo => True) (fun uo => [bMod G x xs xb xm xf xu xg xw kn bl ft vh vm vs ln th sp pl wr br aS aB aM aO aU uo aW]) := by
  refine cof (by decide) (Nat.le_of_ble_eq_true rfl) ?_
  intro p e s m args below meth c A ls hx hb hr hml hown hts hlocks hin hA hK hP hD hS hl Q hQ
  have hown : s.vm.findClass RX9 = some m.cls := hown
  have hl : lv_has ls 6 [(0, .ref x), (1, .int (jz z)), (2, .int (jz i)), (3, .int (jz v))] := hl
  have KH : ∀ (H : Heap) (locs : List Loc), wP G [bMod G x xs xb xm xf xu xg xw kn bl ft vh vm vs ln th sp pl wr br aS aB aM aO aU aG aW] H → wD A [bMod G x xs xb xm xf xu xg xw kn bl ft vh vm vs ln th sp pl wr br aS aB aM aO aU aG aW] → va_S A s.heap H locs → W p l e rmX9_tried_0 s m args below meth c H locs 0 0 Q (F0 m 0 ls []) := by
    intro H locs hP hD hS
    refine lv_aload_n hx hb dX9_tried_0 rfl (lv_at hl 0 rfl) ?_
    refine lv_iload_n hx hb dX9_tried_1 rfl (lv_at hl 1 rfl) ?_
    refine lv_iload_n hx hb dX9_tried_2 rfl (lv_at hl 2 rfl) ?_
    refine kV ⟨hx, hb, hml, hown, hts⟩ hK hA hS hP hD [.int (jz z), .int (jz i)] [] (mX9_of l G x xs xb xm xf xu xg xw kn bl ft vh vm vs ln th sp pl wr br aS aB aM aO aU aG aW z i (by omega) (by omega)) lkX9_46 [0] [] (br := []) rfl rfl (by decide) 0 9 rfl rfl rfl rfl (Nat.le_of_ble_eq_true rfl) hl.1 dX9_tried_3 ⟨Nat.le_of_ble_eq_true rfl, Nat.le_of_ble_eq_true rfl⟩ ⟨Nat.le_of_ble_eq_true rfl, Nat.le_of_ble_eq_true rfl⟩ (fun u9 H locs hp9 hP hD hS => ?_)
    have hP : wP G [bMod G x xs xb xm xf xu xg xw kn bl ft vh vm vs ln th sp pl wr br aS aB aM aO aU aG aW] H := hP
    have hD : wD A [bMod G x xs xb xm xf xu xg xw kn bl ft vh vm vs ln th sp pl wr br aS aB aM aO aU aG aW] := hD
    show W p l e rmX9_tried_0 s m args below meth c H locs 0 0 Q (F0 m 6 ls [.int (jz (T9 aS z i))])
    refine lv_istore (lv' := [(4, .int (jz (T9 aS z i))), (0, .ref x), (1, .int (jz z)), (2, .int (jz i)), (3, .int (jz v))]) hx hb dX9_tried_6 hl (by decide) rfl (fun ls hl => ?_)
    refine lv_aload_n hx hb dX9_tried_8 rfl (lv_at hl 1 rfl) ?_
    refine va_get (ci := 9) (v := .ref xs) (C := RX9) (T := TX9) (N := 19) hx hb hts wfX9 hown hK.1 hP 0 rfl rfl 0 (by decide) (hts _ wm810) (fun _ h9 => h9) rfl dX9_tried_9 ?_
    refine jv_iconst hx hb dX9_tried_12 ?_
    refine jv_bipush hx hb dX9_tried_13 (by decide) ?_
    refine lv_iload_n hx hb dX9_tried_15 rfl (lv_at hl 2 rfl) ?_
    refine jv_imul hx hb dX9_tried_16 ?_
    refine jv_iadd hx hb dX9_tried_17 ?_
    refine lv_iload_n hx hb dX9_tried_18 rfl (lv_at hl 3 rfl) ?_
    refine jv_iadd hx hb dX9_tried_19 ?_
    refine lv_iload_n hx hb dX9_tried_20 rfl (lv_at hl 4 rfl) ?_
    refine jv_iast hx hb hK.1 hP hD hS 1 (g := aS) rfl (by omega) (by omega) (by decide) dX9_tried_21 (fun H locs hP hD hS => ?_)
    have hP : wP G [bMod G x xs xb xm xf xu xg xw kn bl ft vh vm vs ln th sp pl wr br (up aS ((3 + (20 * z)) + i) v) aB aM aO aU aG aW] H := hP
    have hD : wD A [bMod G x xs xb xm xf xu xg xw kn bl ft vh vm vs ln th sp pl wr br (up aS ((3 + (20 * z)) + i) v) aB aM aO aU aG aW] := hD
    refine lv_aload_n hx hb dX9_tried_22 rfl (lv_at hl 1 rfl) ?_
    refine kV ⟨hx, hb, hml, hown, hts⟩ hK hA hS hP hD [] [] (mX9_whole l G x xs xb xm xf xu xg xw kn bl ft vh vm vs ln th sp pl wr br (up aS ((3 + (20 * z)) + i) v) aB aM aO aU aG aW (by rw [up_low (by omega) (by omega)]; exact hs0) (by rw [up_low (by omega) (by omega)]; exact hs1) (by exact hgU hg0 hv (by omega) (by omega) (by omega)) (by exact hgU hg1 hv (by omega) (by omega) (by omega))) lkX9_112 [0] [] (br := []) rfl rfl (by decide) 0 9 rfl rfl rfl rfl (Nat.le_of_ble_eq_true rfl) hl.1 dX9_tried_23 ⟨Nat.le_of_ble_eq_true rfl, Nat.le_of_ble_eq_true rfl⟩ ⟨Nat.le_of_ble_eq_true rfl, Nat.le_of_ble_eq_true rfl⟩ (fun u9 H locs hp9 hP hD hS => ?_)
    obtain ⟨u_2, rfl⟩ : ∃ z, z = u9 := ⟨_, rfl⟩
    have hP : wP G [bMod G x xs xb xm xf xu xg xw kn bl ft vh vm vs ln th sp pl wr br (up aS ((3 + (20 * z)) + i) v) aB aM aO aU u_2 aW] H := hP
    have hD : wD A [bMod G x xs xb xm xf xu xg xw kn bl ft vh vm vs ln th sp pl wr br (up aS ((3 + (20 * z)) + i) v) aB aM aO aU u_2 aW] := hD
    show W p l e rmX9_tried_0 s m args below meth c H locs 0 0 Q (F0 m 26 ls [.int (jz (D 1 (T9 (up aS ((3 + (20 * z)) + i) v) 0) (T9 (up aS ((3 + (20 * z)) + i) v) 1) ((up aS ((3 + (20 * z)) + i) v) 0) ((up aS ((3 + (20 * z)) + i) v) 1)))])
    refine jv_top (fun r_3 er_3 => ?_)
    refine lv_istore (lv' := [(5, .int (jz r_3)), (4, .int (jz (T9 aS z i))), (0, .ref x), (1, .int (jz z)), (2, .int (jz i)), (3, .int (jz v))]) hx hb dX9_tried_26 hl (by decide) rfl (fun ls hl => ?_)
    refine lv_aload_n hx hb dX9_tried_28 rfl (lv_at hl 2 rfl) ?_
    refine va_get (ci := 9) (v := .ref xs) (C := RX9) (T := TX9) (N := 19) hx hb hts wfX9 hown hK.1 hP 0 rfl rfl 0 (by decide) (hts _ wm810) (fun _ h9 => h9) rfl dX9_tried_29 ?_
    refine jv_iconst hx hb dX9_tried_32 ?_
    refine jv_bipush hx hb dX9_tried_33 (by decide) ?_
    refine lv_iload_n hx hb dX9_tried_35 rfl (lv_at hl 3 rfl) ?_
    refine jv_imul hx hb dX9_tried_36 ?_
    refine jv_iadd hx hb dX9_tried_37 ?_
    refine lv_iload_n hx hb dX9_tried_38 rfl (lv_at hl 4 rfl) ?_
    refine jv_iadd hx hb dX9_tried_39 ?_
    refine lv_iload hx hb dX9_tried_40 (lv_at hl 1 rfl) ?_
    refine jv_iast hx hb hK.1 hP hD hS 1 (g := up aS ((3 + (20 * z)) + i) v) rfl (by omega) (by omega) (by decide) dX9_tried_42 (fun H locs hP hD hS => ?_)
    have hP : wP G [bMod G x xs xb xm xf xu xg xw kn bl ft vh vm vs ln th sp pl wr br (up (up aS ((3 + (20 * z)) + i) v) ((3 + (20 * z)) + i) (T9 aS z i)) aB aM aO aU u_2 aW] H := hP
    have hD : wD A [bMod G x xs xb xm xf xu xg xw kn bl ft vh vm vs ln th sp pl wr br (up (up aS ((3 + (20 * z)) + i) v) ((3 + (20 * z)) + i) (T9 aS z i)) aB aM aO aU u_2 aW] := hD
    have e_4 : (up (up aS ((3 + (20 * z)) + i) v) ((3 + (20 * z)) + i) (T9 aS z i)) = aS := by exact up_back
    rw [e_4] at hP hD
    refine lv_iload hx hb dX9_tried_43 (lv_at hl 0 rfl) ?_
    exact cret_i hx hb hr hlocks hS hP hD (Nat.le_of_ble_eq_true rfl) (Nat.le_of_ble_eq_true rfl) rfl dX9_tried_45 [0] (by decide) u_2 rfl trivial (congrArg (fun z : Int => some (Value.int (jz z))) (show r_3 = D 1 (up (T9 aS 0) i v) (T9 aS 1) (aS 0) (aS 1) from by rw [er_3]; exact tr0 hz (by omega) (by omega))) hQ
  exact KH s.heap [] hP hD hS
abbrev rmX9_ifReplaced_ok0 : Room := { frames := 5, cells := 0, slots := 0, locals := 112 }
set_option maxHeartbeats 4000000 in
set_option maxRecDepth 100000 in
theorem mX9_ifReplaced_ok0 (l : Launch) (G : GG) (x : Nat) (xs : Nat) (xb : Nat) (xm : Nat) (xf : Nat) (xu : Nat) (xg : Nat) (xw : Nat) (kn : Int) (bl : Int) (ft : Int) (vh : Int) (vm : Int) (vs : Int) (ln : Int) (th : Int) (sp : Int) (pl : Int) (wr : Int) (br : Int) (aS : Int → Int) (aB : Int → Int) (aM : Int → Int) (aO : Int → Int) (aU : Int → Int) (aG : Int → Int) (aW : Int → Int) (z : Int) (i : Int) (v : Int) (hs0 : 0 ≤ aS 0 ∧ aS 0 ≤ 20) (hs1 : 0 ≤ aS 1 ∧ aS 1 ≤ 20) (hg0 : ∀ j : Int, 0 ≤ j → j < aS 0 → 0 ≤ T9 aS 0 j ∧ T9 aS 0 j < 4) (hg1 : ∀ j : Int, 0 ≤ j → j < aS 1 → 0 ≤ T9 aS 1 j ∧ T9 aS 1 j < 4) (hs2 : 2 ≤ aS 2 ∧ aS 2 ≤ 4) (hz : z = 0) (hi : 0 ≤ i ∧ i ≤ aS 0 - 1) (hv : 0 ≤ v ∧ v < aS 2) : Ct l yX9_ifReplaced cX9_ifReplaced 4 (some .int) rmX9_ifReplaced_ok0 G [.ref x, .int (jz z), .int (jz i), .int (jz v)] [bMod G x xs xb xm xf xu xg xw kn bl ft vh vm vs ln th sp pl wr br aS aB aM aO aU aG aW] (fun uo : (Int → Int) => some (.int (jz (D 1 (up (T9 aS 0) i v) (T9 aS 1) (aS 0) (aS 1))))) (fun uo => True) (fun uo => [bMod G x xs xb xm xf xu xg xw kn bl ft vh vm vs ln 0 sp pl wr br aS aB aM aO aU uo aW]) := by
  refine cof (by decide) (Nat.le_of_ble_eq_true rfl) ?_
  intro p e s m args below meth c A ls hx hb hr hml hown hts hlocks hin hA hK hP hD hS hl Q hQ
  have hown : s.vm.findClass RX9 = some m.cls := hown
  have hl : lv_has ls 4 [(0, .ref x), (1, .int (jz z)), (2, .int (jz i)), (3, .int (jz v))] := hl
  have KH : ∀ (H : Heap) (locs : List Loc), wP G [bMod G x xs xb xm xf xu xg xw kn bl ft vh vm vs ln th sp pl wr br aS aB aM aO aU aG aW] H → wD A [bMod G x xs xb xm xf xu xg xw kn bl ft vh vm vs ln th sp pl wr br aS aB aM aO aU aG aW] → va_S A s.heap H locs → W p l e rmX9_ifReplaced_ok0 s m args below meth c H locs 0 0 Q (F0 m 0 ls []) := by
    intro H locs hP hD hS
    have hzk : aS z = aS 0 := by rw [hz]
    refine lv_aload_n hx hb dX9_ifReplaced_0 rfl (lv_at hl 0 rfl) ?_
    refine jv_iconst hx hb dX9_ifReplaced_1 ?_
    refine va_put (ci := 9) (v := .int (jz 0)) (ty := .int) (C := RX9) (T := TX9) (N := 19) hx hb hts wfX9 tyX9 tyX9_ok nmX9 hown hK.1 hP hD hS 0 rfl rfl 12 (by decide) (hts _ wm822) (fun _ h9 => h9) rfl (by decide +kernel) rfl rfl (Nat.le_of_ble_eq_true rfl) dX9_ifReplaced_2 (fun H locs hP hD hS => ?_)
    have hP : wP G [bMod G x xs xb xm xf xu xg xw kn bl ft vh vm vs ln 0 sp pl wr br aS aB aM aO aU aG aW] H := hP
    have hD : wD A [bMod G x xs xb xm xf xu xg xw kn bl ft vh vm vs ln 0 sp pl wr br aS aB aM aO aU aG aW] := hD
    refine lv_iload_n hx hb dX9_ifReplaced_5 rfl (lv_at hl 1 rfl) ?_
    refine kS ⟨hx, hb, hml, hown, hts⟩ hK hA hS hP hD [.int (jz z)] [] (mX9_isText_T l G z (by omega)) lkX9_109 [] [0] (br := [bMod G x xs xb xm xf xu xg xw kn bl ft vh vm vs ln 0 sp pl wr br aS aB aM aO aU aG aW]) rfl rfl (by decide) rfl rfl (Nat.le_of_ble_eq_true rfl) hl.1 dX9_ifReplaced_6 ⟨Nat.le_of_ble_eq_true rfl, Nat.le_of_ble_eq_true rfl⟩ ⟨Nat.le_of_ble_eq_true rfl, Nat.le_of_ble_eq_true rfl⟩ (fun u9 H locs hp9 hP hD hS => ?_)
    have hP : wP G [bMod G x xs xb xm xf xu xg xw kn bl ft vh vm vs ln 0 sp pl wr br aS aB aM aO aU aG aW] H := hP
    have hD : wD A [bMod G x xs xb xm xf xu xg xw kn bl ft vh vm vs ln 0 sp pl wr br aS aB aM aO aU aG aW] := hD
    show W p l e rmX9_ifReplaced_ok0 s m args below meth c H locs 0 0 Q (F0 m 9 ls [.int (jz 1)])
    refine jv_if_eq (tgt := 28) hx hb dX9_ifReplaced_9 (by decide) (by omega) (fun c_2 => ?_) (fun c_2 => ?_)
    · exfalso; omega
    · refine lv_iload_n hx hb dX9_ifReplaced_12 rfl (lv_at hl 2 rfl) ?_
      refine jv_iconst hx hb dX9_ifReplaced_13 ?_
      refine lv_aload_n hx hb dX9_ifReplaced_14 rfl (lv_at hl 0 rfl) ?_
      refine va_get (ci := 9) (v := .ref xs) (C := RX9) (T := TX9) (N := 19) hx hb hts wfX9 hown hK.1 hP 0 rfl rfl 0 (by decide) (hts _ wm810) (fun _ h9 => h9) rfl dX9_ifReplaced_15 ?_
      refine lv_iload_n hx hb dX9_ifReplaced_18 rfl (lv_at hl 1 rfl) ?_
      refine jv_iald hx hb hK.1 hP 1 (g := aS) rfl (by omega) (by omega) (by decide) dX9_ifReplaced_19 ?_
      refine jv_iconst hx hb dX9_ifReplaced_20 ?_
      refine jv_isub hx hb dX9_ifReplaced_21 ?_
      refine kS ⟨hx, hb, hml, hown, hts⟩ hK hA hS hP hD [.int (jz i), .int (jz 0), .int (jz ((aS z) - 1))] [] (mX9_in_T l G i 0 ((aS z) - 1) (by omega) (by omega) (by omega) (by omega)) lkX9_42 [] [0] (br := [bMod G x xs xb xm xf xu xg xw kn bl ft vh vm vs ln 0 sp pl wr br aS aB aM aO aU aG aW]) rfl rfl (by decide) rfl rfl (Nat.le_of_ble_eq_true rfl) hl.1 dX9_ifReplaced_22 ⟨Nat.le_of_ble_eq_true rfl, Nat.le_of_ble_eq_true rfl⟩ ⟨Nat.le_of_ble_eq_true rfl, Nat.le_of_ble_eq_true rfl⟩ (fun u9 H locs hp9 hP hD hS => ?_)
      have hP : wP G [bMod G x xs xb xm xf xu xg xw kn bl ft vh vm vs ln 0 sp pl wr br aS aB aM aO aU aG aW] H := hP
      have hD : wD A [bMod G x xs xb xm xf xu xg xw kn bl ft vh vm vs ln 0 sp pl wr br aS aB aM aO aU aG aW] := hD
      show W p l e rmX9_ifReplaced_ok0 s m args below meth c H locs 0 0 Q (F0 m 25 ls [.int (jz 1)])
      refine jv_if_ne (tgt := 34) hx hb dX9_ifReplaced_25 (by decide) (by omega) (fun c_4 => ?_) (fun c_4 => ?_)
      · refine lv_aload_n hx hb dX9_ifReplaced_34 rfl (lv_at hl 0 rfl) ?_
        refine lv_iload_n hx hb dX9_ifReplaced_35 rfl (lv_at hl 3 rfl) ?_
        refine kV ⟨hx, hb, hml, hown, hts⟩ hK hA hS hP hD [.int (jz v)] [] (mX9_isLetter_T l G x xs xb xm xf xu xg xw kn bl ft vh vm vs ln 0 sp pl wr br aS aB aM aO aU aG aW v (by omega) (by omega)) lkX9_102 [0] [] (br := []) rfl rfl (by decide) 0 9 rfl rfl rfl rfl (Nat.le_of_ble_eq_true rfl) hl.1 dX9_ifReplaced_36 ⟨Nat.le_of_ble_eq_true rfl, Nat.le_of_ble_eq_true rfl⟩ ⟨Nat.le_of_ble_eq_true rfl, Nat.le_of_ble_eq_true rfl⟩ (fun u9 H locs hp9 hP hD hS => ?_)
        have hP : wP G [bMod G x xs xb xm xf xu xg xw kn bl ft vh vm vs ln 0 sp pl wr br aS aB aM aO aU aG aW] H := hP
        have hD : wD A [bMod G x xs xb xm xf xu xg xw kn bl ft vh vm vs ln 0 sp pl wr br aS aB aM aO aU aG aW] := hD
        show W p l e rmX9_ifReplaced_ok0 s m args below meth c H locs 0 0 Q (F0 m 39 ls [.int (jz 1)])
        refine jv_if_eq (tgt := 52) hx hb dX9_ifReplaced_39 (by decide) (by omega) (fun c_6 => ?_) (fun c_6 => ?_)
        · exfalso; omega
        · refine lv_aload_n hx hb dX9_ifReplaced_42 rfl (lv_at hl 0 rfl) ?_
          refine lv_iload_n hx hb dX9_ifReplaced_43 rfl (lv_at hl 1 rfl) ?_
          refine lv_iload_n hx hb dX9_ifReplaced_44 rfl (lv_at hl 2 rfl) ?_
          refine lv_iload_n hx hb dX9_ifReplaced_45 rfl (lv_at hl 3 rfl) ?_
          refine kV ⟨hx, hb, hml, hown, hts⟩ hK hA hS hP hD [.int (jz z), .int (jz i), .int (jz v)] [] (mX9_tried_0 l G x xs xb xm xf xu xg xw kn bl ft vh vm vs ln 0 sp pl wr br aS aB aM aO aU aG aW z i v (by omega) (by omega) (by exact hg0) (by exact hg1) (by omega) (by omega) (by omega)) lkX9_129 [0] [] (br := []) rfl rfl (by decide) 0 9 rfl rfl rfl rfl (Nat.le_of_ble_eq_true rfl) hl.1 dX9_ifReplaced_46 ⟨Nat.le_of_ble_eq_true rfl, Nat.le_of_ble_eq_true rfl⟩ ⟨Nat.le_of_ble_eq_true rfl, Nat.le_of_ble_eq_true rfl⟩ (fun u9 H locs hp9 hP hD hS => ?_)
          obtain ⟨u_7, rfl⟩ : ∃ z, z = u9 := ⟨_, rfl⟩
          have hP : wP G [bMod G x xs xb xm xf xu xg xw kn bl ft vh vm vs ln 0 sp pl wr br aS aB aM aO aU u_7 aW] H := hP
          have hD : wD A [bMod G x xs xb xm xf xu xg xw kn bl ft vh vm vs ln 0 sp pl wr br aS aB aM aO aU u_7 aW] := hD
          show W p l e rmX9_ifReplaced_ok0 s m args below meth c H locs 0 0 Q (F0 m 49 ls [.int (jz (D 1 (up (T9 aS 0) i v) (T9 aS 1) (aS 0) (aS 1)))])
          refine lv_goto (tgt := 57) hx hb dX9_ifReplaced_49 (by decide) ?_
          exact cret_i hx hb hr hlocks hS hP hD (Nat.le_of_ble_eq_true rfl) (Nat.le_of_ble_eq_true rfl) rfl dX9_ifReplaced_57 [0] (by decide) u_7 rfl trivial (congrArg (fun z : Int => some (Value.int (jz z))) (show (D 1 (up (T9 aS 0) i v) (T9 aS 1) (aS 0) (aS 1)) = D 1 (up (T9 aS 0) i v) (T9 aS 1) (aS 0) (aS 1) from by first | rfl | omega | (split <;> first | rfl | omega | (exfalso; omega)))) hQ
      · exfalso; omega
  exact KH s.heap [] hP hD hS
abbrev rmX9_best_0 : Room := { frames := 5, cells := 0, slots := 0, locals := 112 }
set_option maxHeartbeats 4000000 in
set_option maxRecDepth 100000 in
theorem mX9_best_0 (l : Launch) (G : GG) (x : Nat) (xs : Nat) (xb : Nat) (xm : Nat) (xf : Nat) (xu : Nat) (xg : Nat) (xw : Nat) (kn : Int) (bl : Int) (ft : Int) (vh : Int) (vm : Int) (vs : Int) (ln : Int) (th : Int) (sp : Int) (pl : Int) (wr : Int) (br : Int) (aS : Int → Int) (aB : Int → Int) (aM : Int → Int) (aO : Int → Int) (aU : Int → Int) (aG : Int → Int) (aW : Int → Int) (z : Int) (hs0 : 0 ≤ aS 0 ∧ aS 0 ≤ 20) (hs1 : 0 ≤ aS 1 ∧ aS 1 ≤ 20) (hg0 : ∀ j : Int, 0 ≤ j → j < aS 0 → 0 ≤ T9 aS 0 j ∧ T9 aS 0 j < 4) (hg1 : ∀ j : Int, 0 ≤ j → j < aS 1 → 0 ≤ T9 aS 1 j ∧ T9 aS 1 j < 4) (hs2 : 2 ≤ aS 2 ∧ aS 2 ≤ 4) (hz : z = 0) : Ct l yX9_best cX9_best 8 (some .int) rmX9_best_0 G [.ref x, .int (jz z)] [bMod G x xs xb xm xf xu xg xw kn bl ft vh vm vs ln th sp pl wr br aS aB aM aO aU aG aW] (fun uo : (Int → Int) => some (.int (jz (bst0 (aS 2) (aS 0) (aS 1) (T9 aS 0) (T9 aS 1))))) (fun uo => True) (fun uo => [bMod G x xs xb xm xf xu xg xw kn bl ft vh vm vs ln th sp pl wr br aS aB aM aO aU uo aW]) := by
  refine cof (by decide) (Nat.le_of_ble_eq_true rfl) ?_
  intro p e s m args below meth c A ls hx hb hr hml hown hts hlocks hin hA hK hP hD hS hl Q hQ
  have hown : s.vm.findClass RX9 = some m.cls := hown
  have hl : lv_has ls 8 [(0, .ref x), (1, .int (jz z))] := hl
  have KH : ∀ (H : Heap) (locs : List Loc), wP G [bMod G x xs xb xm xf xu xg xw kn bl ft vh vm vs ln th sp pl wr br aS aB aM aO aU aG aW] H → wD A [bMod G x xs xb xm xf xu xg xw kn bl ft vh vm vs ln th sp pl wr br aS aB aM aO aU aG aW] → va_S A s.heap H locs → W p l e rmX9_best_0 s m args below meth c H locs 0 0 Q (F0 m 0 ls []) := by
    intro H locs hP hD hS
    have hzk : aS z = aS 0 := by rw [hz]
    refine jv_iconst hx hb dX9_best_0 ?_
    refine lv_istore_n (lv' := [(2, .int (jz ((-1)))), (0, .ref x), (1, .int (jz z))]) hx hb dX9_best_1 rfl hl (by decide) rfl (fun ls hl => ?_)
    refine jv_iconst hx hb dX9_best_2 ?_
    refine lv_istore_n (lv' := [(3, .int (jz 0)), (2, .int (jz ((-1)))), (0, .ref x), (1, .int (jz z))]) hx hb dX9_best_3 rfl hl (by decide) rfl (fun ls hl => ?_)
    refine jv_iconst hx hb dX9_best_4 ?_
    refine lv_istore (lv' := [(4, .int (jz 0)), (3, .int (jz 0)), (2, .int (jz ((-1)))), (0, .ref x), (1, .int (jz z))]) hx hb dX9_best_5 hl (by decide) rfl (fun ls hl => ?_)
    have K7 : ∀ (n9 : Nat) (bst : Int) (lst : Int) (ix : Int) (gq : Int → Int) , ((aS 0 - ix).toNat) < n9 → (0 ≤ ix ∧ ix ≤ aS 0) → (-1 ≤ bst ∧ bst ≤ 1000 ∧ 0 ≤ lst ∧ lst ≤ 1000) → ((bst, lst) = bAll (fun i v => D 1 (up (T9 aS 0) i v) (T9 aS 1) (aS 0) (aS 1)) (aS 2) ix.toNat) → ∀ (H : Heap) (locs : List Loc) (ls : Array Slot), wP G [bMod G x xs xb xm xf xu xg xw kn bl ft vh vm vs ln th sp pl wr br aS aB aM aO aU gq aW] H → wD A [bMod G x xs xb xm xf xu xg xw kn bl ft vh vm vs ln th sp pl wr br aS aB aM aO aU gq aW] → va_S A s.heap H locs → lv_has ls 8 [(0, .ref x), (1, .int (jz z)), (2, .int (jz bst)), (3, .int (jz lst)), (4, .int (jz ix))] → W p l e rmX9_best_0 s m args below meth c H locs 0 0 Q (F0 m 7 ls []) := by
      intro n9
      induction n9 with
      | zero => intro bst lst ix gq hm9; exact absurd hm9 (Nat.not_lt_zero _)
      | succ n9 ih7 =>
        intro bst lst ix gq hm9 hix hbr hb9 H locs ls hP hD hS hl
        refine lv_iload hx hb dX9_best_7 (lv_at hl 4 rfl) ?_
        refine lv_aload_n hx hb dX9_best_9 rfl (lv_at hl 0 rfl) ?_
        refine va_get (ci := 9) (v := .ref xs) (C := RX9) (T := TX9) (N := 19) hx hb hts wfX9 hown hK.1 hP 0 rfl rfl 0 (by decide) (hts _ wm810) (fun _ h9 => h9) rfl dX9_best_10 ?_
        refine lv_iload_n hx hb dX9_best_13 rfl (lv_at hl 1 rfl) ?_
        refine jv_iald hx hb hK.1 hP 1 (g := aS) rfl (by omega) (by omega) (by decide) dX9_best_14 ?_
        refine jv_icmp_ge (tgt := 102) hx hb dX9_best_15 (by decide) (by omega) (by omega) (fun c_1 => ?_) (fun c_1 => ?_)
        · refine lv_iload_n hx hb dX9_best_102 rfl (lv_at hl 2 rfl) ?_
          exact cret_i hx hb hr hlocks hS hP hD (Nat.le_of_ble_eq_true rfl) (Nat.le_of_ble_eq_true rfl) rfl dX9_best_103 [0] (by decide) gq rfl trivial (congrArg (fun z : Int => some (Value.int (jz z))) (show bst = bst0 (aS 2) (aS 0) (aS 1) (T9 aS 0) (T9 aS 1) from by unfold bst0 bestF; rw [show (aS 0).toNat = ix.toNat by omega, ← hb9])) hQ
        · refine jv_iconst hx hb dX9_best_18 ?_
          refine lv_istore (lv' := [(5, .int (jz 0)), (0, .ref x), (1, .int (jz z)), (2, .int (jz bst)), (3, .int (jz lst)), (4, .int (jz ix))]) hx hb dX9_best_19 hl (by decide) rfl (fun ls hl => ?_)
          have K21 : ∀ (n9 : Nat) (bst : Int) (lst : Int) (le : Int) (gq : Int → Int) , ((aS 2 - le).toNat) < n9 → (0 ≤ le ∧ le ≤ aS 2) → (-1 ≤ bst ∧ bst ≤ 1000 ∧ 0 ≤ lst ∧ lst ≤ 1000) → ((bst, lst) = bLet (fun i v => D 1 (up (T9 aS 0) i v) (T9 aS 1) (aS 0) (aS 1)) ix le.toNat (bAll (fun i v => D 1 (up (T9 aS 0) i v) (T9 aS 1) (aS 0) (aS 1)) (aS 2) ix.toNat)) → ∀ (H : Heap) (locs : List Loc) (ls : Array Slot), wP G [bMod G x xs xb xm xf xu xg xw kn bl ft vh vm vs ln th sp pl wr br aS aB aM aO aU gq aW] H → wD A [bMod G x xs xb xm xf xu xg xw kn bl ft vh vm vs ln th sp pl wr br aS aB aM aO aU gq aW] → va_S A s.heap H locs → lv_has ls 8 [(0, .ref x), (1, .int (jz z)), (2, .int (jz bst)), (3, .int (jz lst)), (4, .int (jz ix)), (5, .int (jz le))] → W p l e rmX9_best_0 s m args below meth c H locs 0 0 Q (F0 m 21 ls []) := by
            intro n9
            induction n9 with
            | zero => intro bst lst le gq hm9; exact absurd hm9 (Nat.not_lt_zero _)
            | succ n9 ih21 =>
              intro bst lst le gq hm9 hle hbr hb8 H locs ls hP hD hS hl
              refine lv_iload hx hb dX9_best_21 (lv_at hl 5 rfl) ?_
              refine lv_aload_n hx hb dX9_best_23 rfl (lv_at hl 0 rfl) ?_
              refine va_get (ci := 9) (v := .ref xs) (C := RX9) (T := TX9) (N := 19) hx hb hts wfX9 hown hK.1 hP 0 rfl rfl 0 (by decide) (hts _ wm810) (fun _ h9 => h9) rfl dX9_best_24 ?_
              refine jv_iconst hx hb dX9_best_27 ?_
              refine jv_iald hx hb hK.1 hP 1 (g := aS) rfl (by omega) (by omega) (by decide) dX9_best_28 ?_
              refine jv_icmp_ge (tgt := 96) hx hb dX9_best_29 (by decide) (by omega) (by omega) (fun c_2 => ?_) (fun c_2 => ?_)
              · refine jv_iinc (lv' := [(4, .int (jz (ix + 1))), (0, .ref x), (1, .int (jz z)), (2, .int (jz bst)), (3, .int (jz lst)), (5, .int (jz le))]) (k := 4) hx hb dX9_best_96 hl rfl (by decide) rfl (fun ls hl => ?_)
                refine lv_goto (tgt := 7) hx hb dX9_best_99 (by decide) ?_
                exact ih7 bst lst (ix + 1) gq (by omega) (by omega) (by omega) (by rw [bAll_s _ _ (by omega), show aS 2 = le by omega]; rw [show aS 2 = le by omega] at hb8; exact hb8) H _ _ hP hD hS (lv_sub hl [1, 2, 3, 4, 0] rfl)
              · refine lv_aload_n hx hb dX9_best_32 rfl (lv_at hl 0 rfl) ?_
                refine lv_iload_n hx hb dX9_best_33 rfl (lv_at hl 1 rfl) ?_
                refine lv_iload hx hb dX9_best_34 (lv_at hl 4 rfl) ?_
                refine lv_iload hx hb dX9_best_36 (lv_at hl 5 rfl) ?_
                refine kV ⟨hx, hb, hml, hown, hts⟩ hK hA hS hP hD [.int (jz z), .int (jz ix), .int (jz le)] [] (mX9_tried_0 l G x xs xb xm xf xu xg xw kn bl ft vh vm vs ln th sp pl wr br aS aB aM aO aU gq aW z ix le (by omega) (by omega) (by exact hg0) (by exact hg1) (by omega) (by omega) (by omega)) lkX9_129 [0] [] (br := []) rfl rfl (by decide) 0 9 rfl rfl rfl rfl (Nat.le_of_ble_eq_true rfl) hl.1 dX9_best_38 ⟨Nat.le_of_ble_eq_true rfl, Nat.le_of_ble_eq_true rfl⟩ ⟨Nat.le_of_ble_eq_true rfl, Nat.le_of_ble_eq_true rfl⟩ (fun u9 H locs hp9 hP hD hS => ?_)
                obtain ⟨u_3, rfl⟩ : ∃ z, z = u9 := ⟨_, rfl⟩
                have hP : wP G [bMod G x xs xb xm xf xu xg xw kn bl ft vh vm vs ln th sp pl wr br aS aB aM aO aU u_3 aW] H := hP
                have hD : wD A [bMod G x xs xb xm xf xu xg xw kn bl ft vh vm vs ln th sp pl wr br aS aB aM aO aU u_3 aW] := hD
                show W p l e rmX9_best_0 s m args below meth c H locs 0 0 Q (F0 m 41 ls [.int (jz (D 1 (up (T9 aS 0) ix le) (T9 aS 1) (aS 0) (aS 1)))])
                refine jv_top (fun r_4 er_4 => ?_)
                have hdb := D_bd (c := 1) (Or.inr rfl) (up (T9 aS 0) ix le) (T9 aS 1) (i := aS 0) (j := aS 1) (by omega) (by omega)
                refine lv_istore (lv' := [(6, .int (jz r_4)), (0, .ref x), (1, .int (jz z)), (2, .int (jz bst)), (3, .int (jz lst)), (4, .int (jz ix)), (5, .int (jz le))]) hx hb dX9_best_41 hl (by decide) rfl (fun ls hl => ?_)
                refine lv_iload_n hx hb dX9_best_43 rfl (lv_at hl 3 rfl) ?_
                refine jv_if_lt (tgt := 53) hx hb dX9_best_44 (by decide) (by omega) (fun c_5 => ?_) (fun c_5 => ?_)
                · refine jv_iconst hx hb dX9_best_53 ?_
                  refine lv_goto (tgt := 58) hx hb dX9_best_54 (by decide) ?_
                  refine lv_istore (lv' := [(7, .int (jz 1)), (6, .int (jz r_4)), (0, .ref x), (1, .int (jz z)), (2, .int (jz bst)), (3, .int (jz lst)), (4, .int (jz ix)), (5, .int (jz le))]) hx hb dX9_best_58 hl (by decide) rfl (fun ls hl => ?_)
                  refine lv_iload hx hb dX9_best_60 (lv_at hl 0 rfl) ?_
                  refine jv_if_eq (tgt := 76) hx hb dX9_best_62 (by decide) (by omega) (fun c_6 => ?_) (fun c_6 => ?_)
                  · exfalso; omega
                  · refine jv_bipush hx hb dX9_best_65 (by decide) ?_
                    refine lv_iload hx hb dX9_best_67 (lv_at hl 6 rfl) ?_
                    refine jv_imul hx hb dX9_best_69 ?_
                    refine lv_iload hx hb dX9_best_70 (lv_at hl 7 rfl) ?_
                    refine jv_iadd hx hb dX9_best_72 ?_
                    refine lv_goto (tgt := 77) hx hb dX9_best_73 (by decide) ?_
                    refine lv_istore_n (lv' := [(2, .int (jz ((10 * ix) + le))), (7, .int (jz 1)), (6, .int (jz r_4)), (0, .ref x), (1, .int (jz z)), (3, .int (jz lst)), (4, .int (jz ix)), (5, .int (jz le))]) hx hb dX9_best_77 rfl hl (by decide) rfl (fun ls hl => ?_)
                    refine lv_iload hx hb dX9_best_78 (lv_at hl 1 rfl) ?_
                    refine jv_if_eq (tgt := 88) hx hb dX9_best_80 (by decide) (by omega) (fun c_7 => ?_) (fun c_7 => ?_)
                    · exfalso; omega
                    · refine lv_iload hx hb dX9_best_83 (lv_at hl 2 rfl) ?_
                      refine lv_goto (tgt := 89) hx hb dX9_best_85 (by decide) ?_
                      refine lv_istore_n (lv' := [(3, .int (jz r_4)), (2, .int (jz ((10 * ix) + le))), (7, .int (jz 1)), (6, .int (jz r_4)), (0, .ref x), (1, .int (jz z)), (4, .int (jz ix)), (5, .int (jz le))]) hx hb dX9_best_89 rfl hl (by decide) rfl (fun ls hl => ?_)
                      refine jv_iinc (lv' := [(5, .int (jz (le + 1))), (3, .int (jz r_4)), (2, .int (jz ((10 * ix) + le))), (7, .int (jz 1)), (6, .int (jz r_4)), (0, .ref x), (1, .int (jz z)), (4, .int (jz ix))]) (k := 7) hx hb dX9_best_90 hl rfl (by decide) rfl (fun ls hl => ?_)
                      refine lv_goto (tgt := 21) hx hb dX9_best_93 (by decide) ?_
                      exact ih21 ((10 * ix) + le) r_4 (le + 1) u_3 (by omega) (by omega) (by omega) (by rw [bLet_s _ _ (by omega), ← hb8]; unfold bStep; rw [if_pos (by show bst < 0 ∨ D 1 (up (T9 aS 0) ix le) (T9 aS 1) (aS 0) (aS 1) < lst; rw [← er_4]; omega), er_4]) H _ _ hP hD hS (lv_sub hl [5, 6, 2, 1, 7, 0] rfl)
                · refine lv_iload hx hb dX9_best_47 (lv_at hl 0 rfl) ?_
                  refine lv_iload_n hx hb dX9_best_49 rfl (lv_at hl 4 rfl) ?_
                  refine jv_icmp_ge (tgt := 57) hx hb dX9_best_50 (by decide) (by omega) (by omega) (fun c_8 => ?_) (fun c_8 => ?_)
                  · refine jv_iconst hx hb dX9_best_57 ?_
                    refine lv_istore (lv' := [(7, .int (jz 0)), (6, .int (jz r_4)), (0, .ref x), (1, .int (jz z)), (2, .int (jz bst)), (3, .int (jz lst)), (4, .int (jz ix)), (5, .int (jz le))]) hx hb dX9_best_58 hl (by decide) rfl (fun ls hl => ?_)
                    refine lv_iload hx hb dX9_best_60 (lv_at hl 0 rfl) ?_
                    refine jv_if_eq (tgt := 76) hx hb dX9_best_62 (by decide) (by omega) (fun c_9 => ?_) (fun c_9 => ?_)
                    · refine lv_iload_n hx hb dX9_best_76 rfl (lv_at hl 4 rfl) ?_
                      refine lv_istore_n (lv' := [(2, .int (jz bst)), (7, .int (jz 0)), (6, .int (jz r_4)), (0, .ref x), (1, .int (jz z)), (3, .int (jz lst)), (4, .int (jz ix)), (5, .int (jz le))]) hx hb dX9_best_77 rfl hl (by decide) rfl (fun ls hl => ?_)
                      refine lv_iload hx hb dX9_best_78 (lv_at hl 1 rfl) ?_
                      refine jv_if_eq (tgt := 88) hx hb dX9_best_80 (by decide) (by omega) (fun c_10 => ?_) (fun c_10 => ?_)
                      · refine lv_iload_n hx hb dX9_best_88 rfl (lv_at hl 5 rfl) ?_
                        refine lv_istore_n (lv' := [(3, .int (jz lst)), (2, .int (jz bst)), (7, .int (jz 0)), (6, .int (jz r_4)), (0, .ref x), (1, .int (jz z)), (4, .int (jz ix)), (5, .int (jz le))]) hx hb dX9_best_89 rfl hl (by decide) rfl (fun ls hl => ?_)
                        refine jv_iinc (lv' := [(5, .int (jz (le + 1))), (3, .int (jz lst)), (2, .int (jz bst)), (7, .int (jz 0)), (6, .int (jz r_4)), (0, .ref x), (1, .int (jz z)), (4, .int (jz ix))]) (k := 7) hx hb dX9_best_90 hl rfl (by decide) rfl (fun ls hl => ?_)
                        refine lv_goto (tgt := 21) hx hb dX9_best_93 (by decide) ?_
                        exact ih21 bst lst (le + 1) u_3 (by omega) (by omega) (by omega) (by rw [bLet_s _ _ (by omega), ← hb8]; unfold bStep; rw [if_neg (by show ¬ (bst < 0 ∨ D 1 (up (T9 aS 0) ix le) (T9 aS 1) (aS 0) (aS 1) < lst); rw [← er_4]; omega)]) H _ _ hP hD hS (lv_sub hl [5, 6, 2, 1, 7, 0] rfl)
                      · exfalso; omega
                    · exfalso; omega
                  · refine jv_iconst hx hb dX9_best_53 ?_
                    refine lv_goto (tgt := 58) hx hb dX9_best_54 (by decide) ?_
                    refine lv_istore (lv' := [(7, .int (jz 1)), (6, .int (jz r_4)), (0, .ref x), (1, .int (jz z)), (2, .int (jz bst)), (3, .int (jz lst)), (4, .int (jz ix)), (5, .int (jz le))]) hx hb dX9_best_58 hl (by decide) rfl (fun ls hl => ?_)
                    refine lv_iload hx hb dX9_best_60 (lv_at hl 0 rfl) ?_
                    refine jv_if_eq (tgt := 76) hx hb dX9_best_62 (by decide) (by omega) (fun c_11 => ?_) (fun c_11 => ?_)
                    · exfalso; omega
                    · refine jv_bipush hx hb dX9_best_65 (by decide) ?_
                      refine lv_iload hx hb dX9_best_67 (lv_at hl 6 rfl) ?_
                      refine jv_imul hx hb dX9_best_69 ?_
                      refine lv_iload hx hb dX9_best_70 (lv_at hl 7 rfl) ?_
                      refine jv_iadd hx hb dX9_best_72 ?_
                      refine lv_goto (tgt := 77) hx hb dX9_best_73 (by decide) ?_
                      refine lv_istore_n (lv' := [(2, .int (jz ((10 * ix) + le))), (7, .int (jz 1)), (6, .int (jz r_4)), (0, .ref x), (1, .int (jz z)), (3, .int (jz lst)), (4, .int (jz ix)), (5, .int (jz le))]) hx hb dX9_best_77 rfl hl (by decide) rfl (fun ls hl => ?_)
                      refine lv_iload hx hb dX9_best_78 (lv_at hl 1 rfl) ?_
                      refine jv_if_eq (tgt := 88) hx hb dX9_best_80 (by decide) (by omega) (fun c_12 => ?_) (fun c_12 => ?_)
                      · exfalso; omega
                      · refine lv_iload hx hb dX9_best_83 (lv_at hl 2 rfl) ?_
                        refine lv_goto (tgt := 89) hx hb dX9_best_85 (by decide) ?_
                        refine lv_istore_n (lv' := [(3, .int (jz r_4)), (2, .int (jz ((10 * ix) + le))), (7, .int (jz 1)), (6, .int (jz r_4)), (0, .ref x), (1, .int (jz z)), (4, .int (jz ix)), (5, .int (jz le))]) hx hb dX9_best_89 rfl hl (by decide) rfl (fun ls hl => ?_)
                        refine jv_iinc (lv' := [(5, .int (jz (le + 1))), (3, .int (jz r_4)), (2, .int (jz ((10 * ix) + le))), (7, .int (jz 1)), (6, .int (jz r_4)), (0, .ref x), (1, .int (jz z)), (4, .int (jz ix))]) (k := 7) hx hb dX9_best_90 hl rfl (by decide) rfl (fun ls hl => ?_)
                        refine lv_goto (tgt := 21) hx hb dX9_best_93 (by decide) ?_
                        exact ih21 ((10 * ix) + le) r_4 (le + 1) u_3 (by omega) (by omega) (by omega) (by rw [bLet_s _ _ (by omega), ← hb8]; unfold bStep; rw [if_pos (by show bst < 0 ∨ D 1 (up (T9 aS 0) ix le) (T9 aS 1) (aS 0) (aS 1) < lst; rw [← er_4]; omega), er_4]) H _ _ hP hD hS (lv_sub hl [5, 6, 2, 1, 7, 0] rfl)
          exact K21 (((aS 2 - 0).toNat) + 1) bst lst 0 gq (Nat.lt_succ_self _) (by omega) (by omega) (by exact hb9) H _ _ hP hD hS (lv_sub hl [1, 2, 3, 4, 5, 0] rfl)
    exact K7 (((aS 0 - 0).toNat) + 1) ((-1)) 0 0 aG (Nat.lt_succ_self _) (by omega) (by omega) (by rfl) H _ _ hP hD hS (lv_sub hl [3, 4, 2, 1, 0] rfl)
  exact KH s.heap [] hP hD hS
abbrev rmX9_bestReplacement_0 : Room := { frames := 6, cells := 0, slots := 0, locals := 139 }
set_option maxHeartbeats 4000000 in
set_option maxRecDepth 100000 in
theorem mX9_bestReplacement_0 (l : Launch) (G : GG) (x : Nat) (xs : Nat) (xb : Nat) (xm : Nat) (xf : Nat) (xu : Nat) (xg : Nat) (xw : Nat) (kn : Int) (bl : Int) (ft : Int) (vh : Int) (vm : Int) (vs : Int) (ln : Int) (th : Int) (sp : Int) (pl : Int) (wr : Int) (br : Int) (aS : Int → Int) (aB : Int → Int) (aM : Int → Int) (aO : Int → Int) (aU : Int → Int) (aG : Int → Int) (aW : Int → Int) (z : Int) (hs0 : 0 ≤ aS 0 ∧ aS 0 ≤ 20) (hs1 : 0 ≤ aS 1 ∧ aS 1 ≤ 20) (hg0 : ∀ j : Int, 0 ≤ j → j < aS 0 → 0 ≤ T9 aS 0 j ∧ T9 aS 0 j < 4) (hg1 : ∀ j : Int, 0 ≤ j → j < aS 1 → 0 ≤ T9 aS 1 j ∧ T9 aS 1 j < 4) (hs2 : 2 ≤ aS 2 ∧ aS 2 ≤ 4) (hz : z = 0) : Ct l yX9_bestReplacement cX9_bestReplacement 2 (some .int) rmX9_bestReplacement_0 G [.ref x, .int (jz z)] [bMod G x xs xb xm xf xu xg xw kn bl ft vh vm vs ln th sp pl wr br aS aB aM aO aU aG aW] (fun uo : (Int → Int) => some (.int (jz (bst0 (aS 2) (aS 0) (aS 1) (T9 aS 0) (T9 aS 1))))) (fun uo => True) (fun uo => [bMod G x xs xb xm xf xu xg xw kn bl ft vh vm vs ln 0 sp pl wr br aS aB aM aO aU uo aW]) := by
  refine cof (by decide) (Nat.le_of_ble_eq_true rfl) ?_
  intro p e s m args below meth c A ls hx hb hr hml hown hts hlocks hin hA hK hP hD hS hl Q hQ
  have hown : s.vm.findClass RX9 = some m.cls := hown
  have hl : lv_has ls 2 [(0, .ref x), (1, .int (jz z))] := hl
  have KH : ∀ (H : Heap) (locs : List Loc), wP G [bMod G x xs xb xm xf xu xg xw kn bl ft vh vm vs ln th sp pl wr br aS aB aM aO aU aG aW] H → wD A [bMod G x xs xb xm xf xu xg xw kn bl ft vh vm vs ln th sp pl wr br aS aB aM aO aU aG aW] → va_S A s.heap H locs → W p l e rmX9_bestReplacement_0 s m args below meth c H locs 0 0 Q (F0 m 0 ls []) := by
    intro H locs hP hD hS
    refine lv_aload_n hx hb dX9_bestReplacement_0 rfl (lv_at hl 0 rfl) ?_
    refine jv_iconst hx hb dX9_bestReplacement_1 ?_
    refine va_put (ci := 9) (v := .int (jz 0)) (ty := .int) (C := RX9) (T := TX9) (N := 19) hx hb hts wfX9 tyX9 tyX9_ok nmX9 hown hK.1 hP hD hS 0 rfl rfl 12 (by decide) (hts _ wm822) (fun _ h9 => h9) rfl (by decide +kernel) rfl rfl (Nat.le_of_ble_eq_true rfl) dX9_bestReplacement_2 (fun H locs hP hD hS => ?_)
    have hP : wP G [bMod G x xs xb xm xf xu xg xw kn bl ft vh vm vs ln 0 sp pl wr br aS aB aM aO aU aG aW] H := hP
    have hD : wD A [bMod G x xs xb xm xf xu xg xw kn bl ft vh vm vs ln 0 sp pl wr br aS aB aM aO aU aG aW] := hD
    refine lv_iload_n hx hb dX9_bestReplacement_5 rfl (lv_at hl 1 rfl) ?_
    refine kS ⟨hx, hb, hml, hown, hts⟩ hK hA hS hP hD [.int (jz z)] [] (mX9_isText_T l G z (by omega)) lkX9_109 [] [0] (br := [bMod G x xs xb xm xf xu xg xw kn bl ft vh vm vs ln 0 sp pl wr br aS aB aM aO aU aG aW]) rfl rfl (by decide) rfl rfl (Nat.le_of_ble_eq_true rfl) hl.1 dX9_bestReplacement_6 ⟨Nat.le_of_ble_eq_true rfl, Nat.le_of_ble_eq_true rfl⟩ ⟨Nat.le_of_ble_eq_true rfl, Nat.le_of_ble_eq_true rfl⟩ (fun u9 H locs hp9 hP hD hS => ?_)
    have hP : wP G [bMod G x xs xb xm xf xu xg xw kn bl ft vh vm vs ln 0 sp pl wr br aS aB aM aO aU aG aW] H := hP
    have hD : wD A [bMod G x xs xb xm xf xu xg xw kn bl ft vh vm vs ln 0 sp pl wr br aS aB aM aO aU aG aW] := hD
    show W p l e rmX9_bestReplacement_0 s m args below meth c H locs 0 0 Q (F0 m 9 ls [.int (jz 1)])
    refine jv_if_eq (tgt := 20) hx hb dX9_bestReplacement_9 (by decide) (by omega) (fun c_2 => ?_) (fun c_2 => ?_)
    · exfalso; omega
    · refine lv_aload_n hx hb dX9_bestReplacement_12 rfl (lv_at hl 0 rfl) ?_
      refine lv_iload_n hx hb dX9_bestReplacement_13 rfl (lv_at hl 1 rfl) ?_
      refine kV ⟨hx, hb, hml, hown, hts⟩ hK hA hS hP hD [.int (jz z)] [] (mX9_best_0 l G x xs xb xm xf xu xg xw kn bl ft vh vm vs ln 0 sp pl wr br aS aB aM aO aU aG aW z (by omega) (by omega) (by exact hg0) (by exact hg1) (by omega) (by omega)) lkX9_132 [0] [] (br := []) rfl rfl (by decide) 0 9 rfl rfl rfl rfl (Nat.le_of_ble_eq_true rfl) hl.1 dX9_bestReplacement_14 ⟨Nat.le_of_ble_eq_true rfl, Nat.le_of_ble_eq_true rfl⟩ ⟨Nat.le_of_ble_eq_true rfl, Nat.le_of_ble_eq_true rfl⟩ (fun u9 H locs hp9 hP hD hS => ?_)
      obtain ⟨u_3, rfl⟩ : ∃ z, z = u9 := ⟨_, rfl⟩
      have hP : wP G [bMod G x xs xb xm xf xu xg xw kn bl ft vh vm vs ln 0 sp pl wr br aS aB aM aO aU u_3 aW] H := hP
      have hD : wD A [bMod G x xs xb xm xf xu xg xw kn bl ft vh vm vs ln 0 sp pl wr br aS aB aM aO aU u_3 aW] := hD
      show W p l e rmX9_bestReplacement_0 s m args below meth c H locs 0 0 Q (F0 m 17 ls [.int (jz (bst0 (aS 2) (aS 0) (aS 1) (T9 aS 0) (T9 aS 1)))])
      refine lv_goto (tgt := 25) hx hb dX9_bestReplacement_17 (by decide) ?_
      exact cret_i hx hb hr hlocks hS hP hD (Nat.le_of_ble_eq_true rfl) (Nat.le_of_ble_eq_true rfl) rfl dX9_bestReplacement_25 [0] (by decide) u_3 rfl trivial (congrArg (fun z : Int => some (Value.int (jz z))) (show (bst0 (aS 2) (aS 0) (aS 1) (T9 aS 0) (T9 aS 1)) = bst0 (aS 2) (aS 0) (aS 1) (T9 aS 0) (T9 aS 1) from by first | rfl | omega | (split <;> first | rfl | omega | (exfalso; omega)))) hQ
  exact KH s.heap [] hP hD hS
abbrev rmX9_tried_1 : Room := { frames := 4, cells := 0, slots := 0, locals := 87 }
set_option maxHeartbeats 4000000 in
set_option maxRecDepth 100000 in
theorem mX9_tried_1 (l : Launch) (G : GG) (x : Nat) (xs : Nat) (xb : Nat) (xm : Nat) (xf : Nat) (xu : Nat) (xg : Nat) (xw : Nat) (kn : Int) (bl : Int) (ft : Int) (vh : Int) (vm : Int) (vs : Int) (ln : Int) (th : Int) (sp : Int) (pl : Int) (wr : Int) (br : Int) (aS : Int → Int) (aB : Int → Int) (aM : Int → Int) (aO : Int → Int) (aU : Int → Int) (aG : Int → Int) (aW : Int → Int) (z : Int) (i : Int) (v : Int) (hs0 : 0 ≤ aS 0 ∧ aS 0 ≤ 20) (hs1 : 0 ≤ aS 1 ∧ aS 1 ≤ 20) (hg0 : ∀ j : Int, 0 ≤ j → j < aS 0 → 0 ≤ T9 aS 0 j ∧ T9 aS 0 j < 4) (hg1 : ∀ j : Int, 0 ≤ j → j < aS 1 → 0 ≤ T9 aS 1 j ∧ T9 aS 1 j < 4) (hz : z = 1) (hi : 0 ≤ i ∧ i ≤ aS 1 - 1) (hv : 0 ≤ v ∧ v < 4) : Ct l yX9_tried cX9_tried 6 (some .int) rmX9_tried_1 G [.ref x, .int (jz z), .int (jz i), .int (jz v)] [bMod G x xs xb xm xf xu xg xw kn bl ft vh vm vs ln th sp pl wr br aS aB aM aO aU aG aW] (fun uo : (Int → Int) => some (.int (jz (D 1 (up (T9 aS 1) i v) (T9 aS 0) (aS 1) (aS 0))))) (fun uo => True) (fun uo => [bMod G x xs xb xm xf xu xg xw kn bl ft vh vm vs ln th sp pl wr br aS aB aM aO aU uo aW]) := by
  refine cof (by decide) (Nat.le_of_ble_eq_true rfl) ?_
  intro p e s m args below meth c A ls hx hb hr hml hown hts hlocks hin hA hK hP hD hS hl Q hQ
  have hown : s.vm.findClass RX9 = some m.cls := hown
  have hl : lv_has ls 6 [(0, .ref x), (1, .int (jz z)), (2, .int (jz i)), (3, .int (jz v))] := hl
  have KH : ∀ (H : Heap) (locs : List Loc), wP G [bMod G x xs xb xm xf xu xg xw kn bl ft vh vm vs ln th sp pl wr br aS aB aM aO aU aG aW] H → wD A [bMod G x xs xb xm xf xu xg xw kn bl ft vh vm vs ln th sp pl wr br aS aB aM aO aU aG aW] → va_S A s.heap H locs → W p l e rmX9_tried_1 s m args below meth c H locs 0 0 Q (F0 m 0 ls []) := by
    intro H locs hP hD hS
    refine lv_aload_n hx hb dX9_tried_0 rfl (lv_at hl 0 rfl) ?_
    refine lv_iload_n hx hb dX9_tried_1 rfl (lv_at hl 1 rfl) ?_
    refine lv_iload_n hx hb dX9_tried_2 rfl (lv_at hl 2 rfl) ?_
    refine kV ⟨hx, hb, hml, hown, hts⟩ hK hA hS hP hD [.int (jz z), .int (jz i)] [] (mX9_of l G x xs xb xm xf xu xg xw kn bl ft vh vm vs ln th sp pl wr br aS aB aM aO aU aG aW z i (by omega) (by omega)) lkX9_46 [0] [] (br := []) rfl rfl (by decide) 0 9 rfl rfl rfl rfl (Nat.le_of_ble_eq_true rfl) hl.1 dX9_tried_3 ⟨Nat.le_of_ble_eq_true rfl, Nat.le_of_ble_eq_true rfl⟩ ⟨Nat.le_of_ble_eq_true rfl, Nat.le_of_ble_eq_true rfl⟩ (fun u9 H locs hp9 hP hD hS => ?_)
    have hP : wP G [bMod G x xs xb xm xf xu xg xw kn bl ft vh vm vs ln th sp pl wr br aS aB aM aO aU aG aW] H := hP
    have hD : wD A [bMod G x xs xb xm xf xu xg xw kn bl ft vh vm vs ln th sp pl wr br aS aB aM aO aU aG aW] := hD
    show W p l e rmX9_tried_1 s m args below meth c H locs 0 0 Q (F0 m 6 ls [.int (jz (T9 aS z i))])
    refine lv_istore (lv' := [(4, .int (jz (T9 aS z i))), (0, .ref x), (1, .int (jz z)), (2, .int (jz i)), (3, .int (jz v))]) hx hb dX9_tried_6 hl (by decide) rfl (fun ls hl => ?_)
    refine lv_aload_n hx hb dX9_tried_8 rfl (lv_at hl 1 rfl) ?_
    refine va_get (ci := 9) (v := .ref xs) (C := RX9) (T := TX9) (N := 19) hx hb hts wfX9 hown hK.1 hP 0 rfl rfl 0 (by decide) (hts _ wm810) (fun _ h9 => h9) rfl dX9_tried_9 ?_
    refine jv_iconst hx hb dX9_tried_12 ?_
    refine jv_bipush hx hb dX9_tried_13 (by decide) ?_
    refine lv_iload_n hx hb dX9_tried_15 rfl (lv_at hl 2 rfl) ?_
    refine jv_imul hx hb dX9_tried_16 ?_
    refine jv_iadd hx hb dX9_tried_17 ?_
    refine lv_iload_n hx hb dX9_tried_18 rfl (lv_at hl 3 rfl) ?_
    refine jv_iadd hx hb dX9_tried_19 ?_
    refine lv_iload_n hx hb dX9_tried_20 rfl (lv_at hl 4 rfl) ?_
    refine jv_iast hx hb hK.1 hP hD hS 1 (g := aS) rfl (by omega) (by omega) (by decide) dX9_tried_21 (fun H locs hP hD hS => ?_)
    have hP : wP G [bMod G x xs xb xm xf xu xg xw kn bl ft vh vm vs ln th sp pl wr br (up aS ((3 + (20 * z)) + i) v) aB aM aO aU aG aW] H := hP
    have hD : wD A [bMod G x xs xb xm xf xu xg xw kn bl ft vh vm vs ln th sp pl wr br (up aS ((3 + (20 * z)) + i) v) aB aM aO aU aG aW] := hD
    refine lv_aload_n hx hb dX9_tried_22 rfl (lv_at hl 1 rfl) ?_
    refine kV ⟨hx, hb, hml, hown, hts⟩ hK hA hS hP hD [] [] (mX9_whole l G x xs xb xm xf xu xg xw kn bl ft vh vm vs ln th sp pl wr br (up aS ((3 + (20 * z)) + i) v) aB aM aO aU aG aW (by rw [up_low (by omega) (by omega)]; exact hs0) (by rw [up_low (by omega) (by omega)]; exact hs1) (by exact hgU hg0 hv (by omega) (by omega) (by omega)) (by exact hgU hg1 hv (by omega) (by omega) (by omega))) lkX9_112 [0] [] (br := []) rfl rfl (by decide) 0 9 rfl rfl rfl rfl (Nat.le_of_ble_eq_true rfl) hl.1 dX9_tried_23 ⟨Nat.le_of_ble_eq_true rfl, Nat.le_of_ble_eq_true rfl⟩ ⟨Nat.le_of_ble_eq_true rfl, Nat.le_of_ble_eq_true rfl⟩ (fun u9 H locs hp9 hP hD hS => ?_)
    obtain ⟨u_2, rfl⟩ : ∃ z, z = u9 := ⟨_, rfl⟩
    have hP : wP G [bMod G x xs xb xm xf xu xg xw kn bl ft vh vm vs ln th sp pl wr br (up aS ((3 + (20 * z)) + i) v) aB aM aO aU u_2 aW] H := hP
    have hD : wD A [bMod G x xs xb xm xf xu xg xw kn bl ft vh vm vs ln th sp pl wr br (up aS ((3 + (20 * z)) + i) v) aB aM aO aU u_2 aW] := hD
    show W p l e rmX9_tried_1 s m args below meth c H locs 0 0 Q (F0 m 26 ls [.int (jz (D 1 (T9 (up aS ((3 + (20 * z)) + i) v) 0) (T9 (up aS ((3 + (20 * z)) + i) v) 1) ((up aS ((3 + (20 * z)) + i) v) 0) ((up aS ((3 + (20 * z)) + i) v) 1)))])
    refine jv_top (fun r_3 er_3 => ?_)
    refine lv_istore (lv' := [(5, .int (jz r_3)), (4, .int (jz (T9 aS z i))), (0, .ref x), (1, .int (jz z)), (2, .int (jz i)), (3, .int (jz v))]) hx hb dX9_tried_26 hl (by decide) rfl (fun ls hl => ?_)
    refine lv_aload_n hx hb dX9_tried_28 rfl (lv_at hl 2 rfl) ?_
    refine va_get (ci := 9) (v := .ref xs) (C := RX9) (T := TX9) (N := 19) hx hb hts wfX9 hown hK.1 hP 0 rfl rfl 0 (by decide) (hts _ wm810) (fun _ h9 => h9) rfl dX9_tried_29 ?_
    refine jv_iconst hx hb dX9_tried_32 ?_
    refine jv_bipush hx hb dX9_tried_33 (by decide) ?_
    refine lv_iload_n hx hb dX9_tried_35 rfl (lv_at hl 3 rfl) ?_
    refine jv_imul hx hb dX9_tried_36 ?_
    refine jv_iadd hx hb dX9_tried_37 ?_
    refine lv_iload_n hx hb dX9_tried_38 rfl (lv_at hl 4 rfl) ?_
    refine jv_iadd hx hb dX9_tried_39 ?_
    refine lv_iload hx hb dX9_tried_40 (lv_at hl 1 rfl) ?_
    refine jv_iast hx hb hK.1 hP hD hS 1 (g := up aS ((3 + (20 * z)) + i) v) rfl (by omega) (by omega) (by decide) dX9_tried_42 (fun H locs hP hD hS => ?_)
    have hP : wP G [bMod G x xs xb xm xf xu xg xw kn bl ft vh vm vs ln th sp pl wr br (up (up aS ((3 + (20 * z)) + i) v) ((3 + (20 * z)) + i) (T9 aS z i)) aB aM aO aU u_2 aW] H := hP
    have hD : wD A [bMod G x xs xb xm xf xu xg xw kn bl ft vh vm vs ln th sp pl wr br (up (up aS ((3 + (20 * z)) + i) v) ((3 + (20 * z)) + i) (T9 aS z i)) aB aM aO aU u_2 aW] := hD
    have e_4 : (up (up aS ((3 + (20 * z)) + i) v) ((3 + (20 * z)) + i) (T9 aS z i)) = aS := by exact up_back
    rw [e_4] at hP hD
    refine lv_iload hx hb dX9_tried_43 (lv_at hl 0 rfl) ?_
    exact cret_i hx hb hr hlocks hS hP hD (Nat.le_of_ble_eq_true rfl) (Nat.le_of_ble_eq_true rfl) rfl dX9_tried_45 [0] (by decide) u_2 rfl trivial (congrArg (fun z : Int => some (Value.int (jz z))) (show r_3 = D 1 (up (T9 aS 1) i v) (T9 aS 0) (aS 1) (aS 0) from by rw [er_3]; exact tr1 hz (by omega) (by omega))) hQ
  exact KH s.heap [] hP hD hS
abbrev rmX9_ifReplaced_ok1 : Room := { frames := 5, cells := 0, slots := 0, locals := 112 }
set_option maxHeartbeats 4000000 in
set_option maxRecDepth 100000 in
theorem mX9_ifReplaced_ok1 (l : Launch) (G : GG) (x : Nat) (xs : Nat) (xb : Nat) (xm : Nat) (xf : Nat) (xu : Nat) (xg : Nat) (xw : Nat) (kn : Int) (bl : Int) (ft : Int) (vh : Int) (vm : Int) (vs : Int) (ln : Int) (th : Int) (sp : Int) (pl : Int) (wr : Int) (br : Int) (aS : Int → Int) (aB : Int → Int) (aM : Int → Int) (aO : Int → Int) (aU : Int → Int) (aG : Int → Int) (aW : Int → Int) (z : Int) (i : Int) (v : Int) (hs0 : 0 ≤ aS 0 ∧ aS 0 ≤ 20) (hs1 : 0 ≤ aS 1 ∧ aS 1 ≤ 20) (hg0 : ∀ j : Int, 0 ≤ j → j < aS 0 → 0 ≤ T9 aS 0 j ∧ T9 aS 0 j < 4) (hg1 : ∀ j : Int, 0 ≤ j → j < aS 1 → 0 ≤ T9 aS 1 j ∧ T9 aS 1 j < 4) (hs2 : 2 ≤ aS 2 ∧ aS 2 ≤ 4) (hz : z = 1) (hi : 0 ≤ i ∧ i ≤ aS 1 - 1) (hv : 0 ≤ v ∧ v < aS 2) : Ct l yX9_ifReplaced cX9_ifReplaced 4 (some .int) rmX9_ifReplaced_ok1 G [.ref x, .int (jz z), .int (jz i), .int (jz v)] [bMod G x xs xb xm xf xu xg xw kn bl ft vh vm vs ln th sp pl wr br aS aB aM aO aU aG aW] (fun uo : (Int → Int) => some (.int (jz (D 1 (up (T9 aS 1) i v) (T9 aS 0) (aS 1) (aS 0))))) (fun uo => True) (fun uo => [bMod G x xs xb xm xf xu xg xw kn bl ft vh vm vs ln 0 sp pl wr br aS aB aM aO aU uo aW]) := by
  refine cof (by decide) (Nat.le_of_ble_eq_true rfl) ?_
  intro p e s m args below meth c A ls hx hb hr hml hown hts hlocks hin hA hK hP hD hS hl Q hQ
  have hown : s.vm.findClass RX9 = some m.cls := hown
  have hl : lv_has ls 4 [(0, .ref x), (1, .int (jz z)), (2, .int (jz i)), (3, .int (jz v))] := hl
  have KH : ∀ (H : Heap) (locs : List Loc), wP G [bMod G x xs xb xm xf xu xg xw kn bl ft vh vm vs ln th sp pl wr br aS aB aM aO aU aG aW] H → wD A [bMod G x xs xb xm xf xu xg xw kn bl ft vh vm vs ln th sp pl wr br aS aB aM aO aU aG aW] → va_S A s.heap H locs → W p l e rmX9_ifReplaced_ok1 s m args below meth c H locs 0 0 Q (F0 m 0 ls []) := by
    intro H locs hP hD hS
    have hzk : aS z = aS 1 := by rw [hz]
    refine lv_aload_n hx hb dX9_ifReplaced_0 rfl (lv_at hl 0 rfl) ?_
    refine jv_iconst hx hb dX9_ifReplaced_1 ?_
    refine va_put (ci := 9) (v := .int (jz 0)) (ty := .int) (C := RX9) (T := TX9) (N := 19) hx hb hts wfX9 tyX9 tyX9_ok nmX9 hown hK.1 hP hD hS 0 rfl rfl 12 (by decide) (hts _ wm822) (fun _ h9 => h9) rfl (by decide +kernel) rfl rfl (Nat.le_of_ble_eq_true rfl) dX9_ifReplaced_2 (fun H locs hP hD hS => ?_)
    have hP : wP G [bMod G x xs xb xm xf xu xg xw kn bl ft vh vm vs ln 0 sp pl wr br aS aB aM aO aU aG aW] H := hP
    have hD : wD A [bMod G x xs xb xm xf xu xg xw kn bl ft vh vm vs ln 0 sp pl wr br aS aB aM aO aU aG aW] := hD
    refine lv_iload_n hx hb dX9_ifReplaced_5 rfl (lv_at hl 1 rfl) ?_
    refine kS ⟨hx, hb, hml, hown, hts⟩ hK hA hS hP hD [.int (jz z)] [] (mX9_isText_T l G z (by omega)) lkX9_109 [] [0] (br := [bMod G x xs xb xm xf xu xg xw kn bl ft vh vm vs ln 0 sp pl wr br aS aB aM aO aU aG aW]) rfl rfl (by decide) rfl rfl (Nat.le_of_ble_eq_true rfl) hl.1 dX9_ifReplaced_6 ⟨Nat.le_of_ble_eq_true rfl, Nat.le_of_ble_eq_true rfl⟩ ⟨Nat.le_of_ble_eq_true rfl, Nat.le_of_ble_eq_true rfl⟩ (fun u9 H locs hp9 hP hD hS => ?_)
    have hP : wP G [bMod G x xs xb xm xf xu xg xw kn bl ft vh vm vs ln 0 sp pl wr br aS aB aM aO aU aG aW] H := hP
    have hD : wD A [bMod G x xs xb xm xf xu xg xw kn bl ft vh vm vs ln 0 sp pl wr br aS aB aM aO aU aG aW] := hD
    show W p l e rmX9_ifReplaced_ok1 s m args below meth c H locs 0 0 Q (F0 m 9 ls [.int (jz 1)])
    refine jv_if_eq (tgt := 28) hx hb dX9_ifReplaced_9 (by decide) (by omega) (fun c_2 => ?_) (fun c_2 => ?_)
    · exfalso; omega
    · refine lv_iload_n hx hb dX9_ifReplaced_12 rfl (lv_at hl 2 rfl) ?_
      refine jv_iconst hx hb dX9_ifReplaced_13 ?_
      refine lv_aload_n hx hb dX9_ifReplaced_14 rfl (lv_at hl 0 rfl) ?_
      refine va_get (ci := 9) (v := .ref xs) (C := RX9) (T := TX9) (N := 19) hx hb hts wfX9 hown hK.1 hP 0 rfl rfl 0 (by decide) (hts _ wm810) (fun _ h9 => h9) rfl dX9_ifReplaced_15 ?_
      refine lv_iload_n hx hb dX9_ifReplaced_18 rfl (lv_at hl 1 rfl) ?_
      refine jv_iald hx hb hK.1 hP 1 (g := aS) rfl (by omega) (by omega) (by decide) dX9_ifReplaced_19 ?_
      refine jv_iconst hx hb dX9_ifReplaced_20 ?_
      refine jv_isub hx hb dX9_ifReplaced_21 ?_
      refine kS ⟨hx, hb, hml, hown, hts⟩ hK hA hS hP hD [.int (jz i), .int (jz 0), .int (jz ((aS z) - 1))] [] (mX9_in_T l G i 0 ((aS z) - 1) (by omega) (by omega) (by omega) (by omega)) lkX9_42 [] [0] (br := [bMod G x xs xb xm xf xu xg xw kn bl ft vh vm vs ln 0 sp pl wr br aS aB aM aO aU aG aW]) rfl rfl (by decide) rfl rfl (Nat.le_of_ble_eq_true rfl) hl.1 dX9_ifReplaced_22 ⟨Nat.le_of_ble_eq_true rfl, Nat.le_of_ble_eq_true rfl⟩ ⟨Nat.le_of_ble_eq_true rfl, Nat.le_of_ble_eq_true rfl⟩ (fun u9 H locs hp9 hP hD hS => ?_)
      have hP : wP G [bMod G x xs xb xm xf xu xg xw kn bl ft vh vm vs ln 0 sp pl wr br aS aB aM aO aU aG aW] H := hP
      have hD : wD A [bMod G x xs xb xm xf xu xg xw kn bl ft vh vm vs ln 0 sp pl wr br aS aB aM aO aU aG aW] := hD
      show W p l e rmX9_ifReplaced_ok1 s m args below meth c H locs 0 0 Q (F0 m 25 ls [.int (jz 1)])
      refine jv_if_ne (tgt := 34) hx hb dX9_ifReplaced_25 (by decide) (by omega) (fun c_4 => ?_) (fun c_4 => ?_)
      · refine lv_aload_n hx hb dX9_ifReplaced_34 rfl (lv_at hl 0 rfl) ?_
        refine lv_iload_n hx hb dX9_ifReplaced_35 rfl (lv_at hl 3 rfl) ?_
        refine kV ⟨hx, hb, hml, hown, hts⟩ hK hA hS hP hD [.int (jz v)] [] (mX9_isLetter_T l G x xs xb xm xf xu xg xw kn bl ft vh vm vs ln 0 sp pl wr br aS aB aM aO aU aG aW v (by omega) (by omega)) lkX9_102 [0] [] (br := []) rfl rfl (by decide) 0 9 rfl rfl rfl rfl (Nat.le_of_ble_eq_true rfl) hl.1 dX9_ifReplaced_36 ⟨Nat.le_of_ble_eq_true rfl, Nat.le_of_ble_eq_true rfl⟩ ⟨Nat.le_of_ble_eq_true rfl, Nat.le_of_ble_eq_true rfl⟩ (fun u9 H locs hp9 hP hD hS => ?_)
        have hP : wP G [bMod G x xs xb xm xf xu xg xw kn bl ft vh vm vs ln 0 sp pl wr br aS aB aM aO aU aG aW] H := hP
        have hD : wD A [bMod G x xs xb xm xf xu xg xw kn bl ft vh vm vs ln 0 sp pl wr br aS aB aM aO aU aG aW] := hD
        show W p l e rmX9_ifReplaced_ok1 s m args below meth c H locs 0 0 Q (F0 m 39 ls [.int (jz 1)])
        refine jv_if_eq (tgt := 52) hx hb dX9_ifReplaced_39 (by decide) (by omega) (fun c_6 => ?_) (fun c_6 => ?_)
        · exfalso; omega
        · refine lv_aload_n hx hb dX9_ifReplaced_42 rfl (lv_at hl 0 rfl) ?_
          refine lv_iload_n hx hb dX9_ifReplaced_43 rfl (lv_at hl 1 rfl) ?_
          refine lv_iload_n hx hb dX9_ifReplaced_44 rfl (lv_at hl 2 rfl) ?_
          refine lv_iload_n hx hb dX9_ifReplaced_45 rfl (lv_at hl 3 rfl) ?_
          refine kV ⟨hx, hb, hml, hown, hts⟩ hK hA hS hP hD [.int (jz z), .int (jz i), .int (jz v)] [] (mX9_tried_1 l G x xs xb xm xf xu xg xw kn bl ft vh vm vs ln 0 sp pl wr br aS aB aM aO aU aG aW z i v (by omega) (by omega) (by exact hg0) (by exact hg1) (by omega) (by omega) (by omega)) lkX9_129 [0] [] (br := []) rfl rfl (by decide) 0 9 rfl rfl rfl rfl (Nat.le_of_ble_eq_true rfl) hl.1 dX9_ifReplaced_46 ⟨Nat.le_of_ble_eq_true rfl, Nat.le_of_ble_eq_true rfl⟩ ⟨Nat.le_of_ble_eq_true rfl, Nat.le_of_ble_eq_true rfl⟩ (fun u9 H locs hp9 hP hD hS => ?_)
          obtain ⟨u_7, rfl⟩ : ∃ z, z = u9 := ⟨_, rfl⟩
          have hP : wP G [bMod G x xs xb xm xf xu xg xw kn bl ft vh vm vs ln 0 sp pl wr br aS aB aM aO aU u_7 aW] H := hP
          have hD : wD A [bMod G x xs xb xm xf xu xg xw kn bl ft vh vm vs ln 0 sp pl wr br aS aB aM aO aU u_7 aW] := hD
          show W p l e rmX9_ifReplaced_ok1 s m args below meth c H locs 0 0 Q (F0 m 49 ls [.int (jz (D 1 (up (T9 aS 1) i v) (T9 aS 0) (aS 1) (aS 0)))])
          refine lv_goto (tgt := 57) hx hb dX9_ifReplaced_49 (by decide) ?_
          exact cret_i hx hb hr hlocks hS hP hD (Nat.le_of_ble_eq_true rfl) (Nat.le_of_ble_eq_true rfl) rfl dX9_ifReplaced_57 [0] (by decide) u_7 rfl trivial (congrArg (fun z : Int => some (Value.int (jz z))) (show (D 1 (up (T9 aS 1) i v) (T9 aS 0) (aS 1) (aS 0)) = D 1 (up (T9 aS 1) i v) (T9 aS 0) (aS 1) (aS 0) from by first | rfl | omega | (split <;> first | rfl | omega | (exfalso; omega)))) hQ
      · exfalso; omega
  exact KH s.heap [] hP hD hS
abbrev rmX9_best_1 : Room := { frames := 5, cells := 0, slots := 0, locals := 112 }
set_option maxHeartbeats 4000000 in
set_option maxRecDepth 100000 in
theorem mX9_best_1 (l : Launch) (G : GG) (x : Nat) (xs : Nat) (xb : Nat) (xm : Nat) (xf : Nat) (xu : Nat) (xg : Nat) (xw : Nat) (kn : Int) (bl : Int) (ft : Int) (vh : Int) (vm : Int) (vs : Int) (ln : Int) (th : Int) (sp : Int) (pl : Int) (wr : Int) (br : Int) (aS : Int → Int) (aB : Int → Int) (aM : Int → Int) (aO : Int → Int) (aU : Int → Int) (aG : Int → Int) (aW : Int → Int) (z : Int) (hs0 : 0 ≤ aS 0 ∧ aS 0 ≤ 20) (hs1 : 0 ≤ aS 1 ∧ aS 1 ≤ 20) (hg0 : ∀ j : Int, 0 ≤ j → j < aS 0 → 0 ≤ T9 aS 0 j ∧ T9 aS 0 j < 4) (hg1 : ∀ j : Int, 0 ≤ j → j < aS 1 → 0 ≤ T9 aS 1 j ∧ T9 aS 1 j < 4) (hs2 : 2 ≤ aS 2 ∧ aS 2 ≤ 4) (hz : z = 1) : Ct l yX9_best cX9_best 8 (some .int) rmX9_best_1 G [.ref x, .int (jz z)] [bMod G x xs xb xm xf xu xg xw kn bl ft vh vm vs ln th sp pl wr br aS aB aM aO aU aG aW] (fun uo : (Int → Int) => some (.int (jz (bst0 (aS 2) (aS 1) (aS 0) (T9 aS 1) (T9 aS 0))))) (fun uo => True) (fun uo => [bMod G x xs xb xm xf xu xg xw kn bl ft vh vm vs ln th sp pl wr br aS aB aM aO aU uo aW]) := by
  refine cof (by decide) (Nat.le_of_ble_eq_true rfl) ?_
  intro p e s m args below meth c A ls hx hb hr hml hown hts hlocks hin hA hK hP hD hS hl Q hQ
  have hown : s.vm.findClass RX9 = some m.cls := hown
  have hl : lv_has ls 8 [(0, .ref x), (1, .int (jz z))] := hl
  have KH : ∀ (H : Heap) (locs : List Loc), wP G [bMod G x xs xb xm xf xu xg xw kn bl ft vh vm vs ln th sp pl wr br aS aB aM aO aU aG aW] H → wD A [bMod G x xs xb xm xf xu xg xw kn bl ft vh vm vs ln th sp pl wr br aS aB aM aO aU aG aW] → va_S A s.heap H locs → W p l e rmX9_best_1 s m args below meth c H locs 0 0 Q (F0 m 0 ls []) := by
    intro H locs hP hD hS
    have hzk : aS z = aS 1 := by rw [hz]
    refine jv_iconst hx hb dX9_best_0 ?_
    refine lv_istore_n (lv' := [(2, .int (jz ((-1)))), (0, .ref x), (1, .int (jz z))]) hx hb dX9_best_1 rfl hl (by decide) rfl (fun ls hl => ?_)
    refine jv_iconst hx hb dX9_best_2 ?_
    refine lv_istore_n (lv' := [(3, .int (jz 0)), (2, .int (jz ((-1)))), (0, .ref x), (1, .int (jz z))]) hx hb dX9_best_3 rfl hl (by decide) rfl (fun ls hl => ?_)
    refine jv_iconst hx hb dX9_best_4 ?_
    refine lv_istore (lv' := [(4, .int (jz 0)), (3, .int (jz 0)), (2, .int (jz ((-1)))), (0, .ref x), (1, .int (jz z))]) hx hb dX9_best_5 hl (by decide) rfl (fun ls hl => ?_)
    have K7 : ∀ (n9 : Nat) (bst : Int) (lst : Int) (ix : Int) (gq : Int → Int) , ((aS 1 - ix).toNat) < n9 → (0 ≤ ix ∧ ix ≤ aS 1) → (-1 ≤ bst ∧ bst ≤ 1000 ∧ 0 ≤ lst ∧ lst ≤ 1000) → ((bst, lst) = bAll (fun i v => D 1 (up (T9 aS 1) i v) (T9 aS 0) (aS 1) (aS 0)) (aS 2) ix.toNat) → ∀ (H : Heap) (locs : List Loc) (ls : Array Slot), wP G [bMod G x xs xb xm xf xu xg xw kn bl ft vh vm vs ln th sp pl wr br aS aB aM aO aU gq aW] H → wD A [bMod G x xs xb xm xf xu xg xw kn bl ft vh vm vs ln th sp pl wr br aS aB aM aO aU gq aW] → va_S A s.heap H locs → lv_has ls 8 [(0, .ref x), (1, .int (jz z)), (2, .int (jz bst)), (3, .int (jz lst)), (4, .int (jz ix))] → W p l e rmX9_best_1 s m args below meth c H locs 0 0 Q (F0 m 7 ls []) := by
      intro n9
      induction n9 with
      | zero => intro bst lst ix gq hm9; exact absurd hm9 (Nat.not_lt_zero _)
      | succ n9 ih7 =>
        intro bst lst ix gq hm9 hix hbr hb9 H locs ls hP hD hS hl
        refine lv_iload hx hb dX9_best_7 (lv_at hl 4 rfl) ?_
        refine lv_aload_n hx hb dX9_best_9 rfl (lv_at hl 0 rfl) ?_
        refine va_get (ci := 9) (v := .ref xs) (C := RX9) (T := TX9) (N := 19) hx hb hts wfX9 hown hK.1 hP 0 rfl rfl 0 (by decide) (hts _ wm810) (fun _ h9 => h9) rfl dX9_best_10 ?_
        refine lv_iload_n hx hb dX9_best_13 rfl (lv_at hl 1 rfl) ?_
        refine jv_iald hx hb hK.1 hP 1 (g := aS) rfl (by omega) (by omega) (by decide) dX9_best_14 ?_
        refine jv_icmp_ge (tgt := 102) hx hb dX9_best_15 (by decide) (by omega) (by omega) (fun c_1 => ?_) (fun c_1 => ?_)
        · refine lv_iload_n hx hb dX9_best_102 rfl (lv_at hl 2 rfl) ?_
          exact cret_i hx hb hr hlocks hS hP hD (Nat.le_of_ble_eq_true rfl) (Nat.le_of_ble_eq_true rfl) rfl dX9_best_103 [0] (by decide) gq rfl trivial (congrArg (fun z : Int => some (Value.int (jz z))) (show bst = bst0 (aS 2) (aS 1) (aS 0) (T9 aS 1) (T9 aS 0) from by unfold bst0 bestF; rw [show (aS 1).toNat = ix.toNat by omega, ← hb9])) hQ
        · refine jv_iconst hx hb dX9_best_18 ?_
          refine lv_istore (lv' := [(5, .int (jz 0)), (0, .ref x), (1, .int (jz z)), (2, .int (jz bst)), (3, .int (jz lst)), (4, .int (jz ix))]) hx hb dX9_best_19 hl (by decide) rfl (fun ls hl => ?_)
          have K21 : ∀ (n9 : Nat) (bst : Int) (lst : Int) (le : Int) (gq : Int → Int) , ((aS 2 - le).toNat) < n9 → (0 ≤ le ∧ le ≤ aS 2) → (-1 ≤ bst ∧ bst ≤ 1000 ∧ 0 ≤ lst ∧ lst ≤ 1000) → ((bst, lst) = bLet (fun i v => D 1 (up (T9 aS 1) i v) (T9 aS 0) (aS 1) (aS 0)) ix le.toNat (bAll (fun i v => D 1 (up (T9 aS 1) i v) (T9 aS 0) (aS 1) (aS 0)) (aS 2) ix.toNat)) → ∀ (H : Heap) (locs : List Loc) (ls : Array Slot), wP G [bMod G x xs xb xm xf xu xg xw kn bl ft vh vm vs ln th sp pl wr br aS aB aM aO aU gq aW] H → wD A [bMod G x xs xb xm xf xu xg xw kn bl ft vh vm vs ln th sp pl wr br aS aB aM aO aU gq aW] → va_S A s.heap H locs → lv_has ls 8 [(0, .ref x), (1, .int (jz z)), (2, .int (jz bst)), (3, .int (jz lst)), (4, .int (jz ix)), (5, .int (jz le))] → W p l e rmX9_best_1 s m args below meth c H locs 0 0 Q (F0 m 21 ls []) := by
            intro n9
            induction n9 with
            | zero => intro bst lst le gq hm9; exact absurd hm9 (Nat.not_lt_zero _)
            | succ n9 ih21 =>
              intro bst lst le gq hm9 hle hbr hb8 H locs ls hP hD hS hl
              refine lv_iload hx hb dX9_best_21 (lv_at hl 5 rfl) ?_
              refine lv_aload_n hx hb dX9_best_23 rfl (lv_at hl 0 rfl) ?_
              refine va_get (ci := 9) (v := .ref xs) (C := RX9) (T := TX9) (N := 19) hx hb hts wfX9 hown hK.1 hP 0 rfl rfl 0 (by decide) (hts _ wm810) (fun _ h9 => h9) rfl dX9_best_24 ?_
              refine jv_iconst hx hb dX9_best_27 ?_
              refine jv_iald hx hb hK.1 hP 1 (g := aS) rfl (by omega) (by omega) (by decide) dX9_best_28 ?_
              refine jv_icmp_ge (tgt := 96) hx hb dX9_best_29 (by decide) (by omega) (by omega) (fun c_2 => ?_) (fun c_2 => ?_)
              · refine jv_iinc (lv' := [(4, .int (jz (ix + 1))), (0, .ref x), (1, .int (jz z)), (2, .int (jz bst)), (3, .int (jz lst)), (5, .int (jz le))]) (k := 4) hx hb dX9_best_96 hl rfl (by decide) rfl (fun ls hl => ?_)
                refine lv_goto (tgt := 7) hx hb dX9_best_99 (by decide) ?_
                exact ih7 bst lst (ix + 1) gq (by omega) (by omega) (by omega) (by rw [bAll_s _ _ (by omega), show aS 2 = le by omega]; rw [show aS 2 = le by omega] at hb8; exact hb8) H _ _ hP hD hS (lv_sub hl [1, 2, 3, 4, 0] rfl)
              · refine lv_aload_n hx hb dX9_best_32 rfl (lv_at hl 0 rfl) ?_
                refine lv_iload_n hx hb dX9_best_33 rfl (lv_at hl 1 rfl) ?_
                refine lv_iload hx hb dX9_best_34 (lv_at hl 4 rfl) ?_
                refine lv_iload hx hb dX9_best_36 (lv_at hl 5 rfl) ?_
                refine kV ⟨hx, hb, hml, hown, hts⟩ hK hA hS hP hD [.int (jz z), .int (jz ix), .int (jz le)] [] (mX9_tried_1 l G x xs xb xm xf xu xg xw kn bl ft vh vm vs ln th sp pl wr br aS aB aM aO aU gq aW z ix le (by omega) (by omega) (by exact hg0) (by exact hg1) (by omega) (by omega) (by omega)) lkX9_129 [0] [] (br := []) rfl rfl (by decide) 0 9 rfl rfl rfl rfl (Nat.le_of_ble_eq_true rfl) hl.1 dX9_best_38 ⟨Nat.le_of_ble_eq_true rfl, Nat.le_of_ble_eq_true rfl⟩ ⟨Nat.le_of_ble_eq_true rfl, Nat.le_of_ble_eq_true rfl⟩ (fun u9 H locs hp9 hP hD hS => ?_)
                obtain ⟨u_3, rfl⟩ : ∃ z, z = u9 := ⟨_, rfl⟩
                have hP : wP G [bMod G x xs xb xm xf xu xg xw kn bl ft vh vm vs ln th sp pl wr br aS aB aM aO aU u_3 aW] H := hP
                have hD : wD A [bMod G x xs xb xm xf xu xg xw kn bl ft vh vm vs ln th sp pl wr br aS aB aM aO aU u_3 aW] := hD
                show W p l e rmX9_best_1 s m args below meth c H locs 0 0 Q (F0 m 41 ls [.int (jz (D 1 (up (T9 aS 1) ix le) (T9 aS 0) (aS 1) (aS 0)))])
                refine jv_top (fun r_4 er_4 => ?_)
                have hdb := D_bd (c := 1) (Or.inr rfl) (up (T9 aS 1) ix le) (T9 aS 0) (i := aS 1) (j := aS 0) (by omega) (by omega)
                refine lv_istore (lv' := [(6, .int (jz r_4)), (0, .ref x), (1, .int (jz z)), (2, .int (jz bst)), (3, .int (jz lst)), (4, .int (jz ix)), (5, .int (jz le))]) hx hb dX9_best_41 hl (by decide) rfl (fun ls hl => ?_)
                refine lv_iload_n hx hb dX9_best_43 rfl (lv_at hl 3 rfl) ?_
                refine jv_if_lt (tgt := 53) hx hb dX9_best_44 (by decide) (by omega) (fun c_5 => ?_) (fun c_5 => ?_)
                · refine jv_iconst hx hb dX9_best_53 ?_
                  refine lv_goto (tgt := 58) hx hb dX9_best_54 (by decide) ?_
                  refine lv_istore (lv' := [(7, .int (jz 1)), (6, .int (jz r_4)), (0, .ref x), (1, .int (jz z)), (2, .int (jz bst)), (3, .int (jz lst)), (4, .int (jz ix)), (5, .int (jz le))]) hx hb dX9_best_58 hl (by decide) rfl (fun ls hl => ?_)
                  refine lv_iload hx hb dX9_best_60 (lv_at hl 0 rfl) ?_
                  refine jv_if_eq (tgt := 76) hx hb dX9_best_62 (by decide) (by omega) (fun c_6 => ?_) (fun c_6 => ?_)
                  · exfalso; omega
                  · refine jv_bipush hx hb dX9_best_65 (by decide) ?_
                    refine lv_iload hx hb dX9_best_67 (lv_at hl 6 rfl) ?_
                    refine jv_imul hx hb dX9_best_69 ?_
                    refine lv_iload hx hb dX9_best_70 (lv_at hl 7 rfl) ?_
                    refine jv_iadd hx hb dX9_best_72 ?_
                    refine lv_goto (tgt := 77) hx hb dX9_best_73 (by decide) ?_
                    refine lv_istore_n (lv' := [(2, .int (jz ((10 * ix) + le))), (7, .int (jz 1)), (6, .int (jz r_4)), (0, .ref x), (1, .int (jz z)), (3, .int (jz lst)), (4, .int (jz ix)), (5, .int (jz le))]) hx hb dX9_best_77 rfl hl (by decide) rfl (fun ls hl => ?_)
                    refine lv_iload hx hb dX9_best_78 (lv_at hl 1 rfl) ?_
                    refine jv_if_eq (tgt := 88) hx hb dX9_best_80 (by decide) (by omega) (fun c_7 => ?_) (fun c_7 => ?_)
                    · exfalso; omega
                    · refine lv_iload hx hb dX9_best_83 (lv_at hl 2 rfl) ?_
                      refine lv_goto (tgt := 89) hx hb dX9_best_85 (by decide) ?_
                      refine lv_istore_n (lv' := [(3, .int (jz r_4)), (2, .int (jz ((10 * ix) + le))), (7, .int (jz 1)), (6, .int (jz r_4)), (0, .ref x), (1, .int (jz z)), (4, .int (jz ix)), (5, .int (jz le))]) hx hb dX9_best_89 rfl hl (by decide) rfl (fun ls hl => ?_)
                      refine jv_iinc (lv' := [(5, .int (jz (le + 1))), (3, .int (jz r_4)), (2, .int (jz ((10 * ix) + le))), (7, .int (jz 1)), (6, .int (jz r_4)), (0, .ref x), (1, .int (jz z)), (4, .int (jz ix))]) (k := 7) hx hb dX9_best_90 hl rfl (by decide) rfl (fun ls hl => ?_)
                      refine lv_goto (tgt := 21) hx hb dX9_best_93 (by decide) ?_
                      exact ih21 ((10 * ix) + le) r_4 (le + 1) u_3 (by omega) (by omega) (by omega) (by rw [bLet_s _ _ (by omega), ← hb8]; unfold bStep; rw [if_pos (by show bst < 0 ∨ D 1 (up (T9 aS 1) ix le) (T9 aS 0) (aS 1) (aS 0) < lst; rw [← er_4]; omega), er_4]) H _ _ hP hD hS (lv_sub hl [5, 6, 2, 1, 7, 0] rfl)
                · refine lv_iload hx hb dX9_best_47 (lv_at hl 0 rfl) ?_
                  refine lv_iload_n hx hb dX9_best_49 rfl (lv_at hl 4 rfl) ?_
                  refine jv_icmp_ge (tgt := 57) hx hb dX9_best_50 (by decide) (by omega) (by omega) (fun c_8 => ?_) (fun c_8 => ?_)
                  · refine jv_iconst hx hb dX9_best_57 ?_
                    refine lv_istore (lv' := [(7, .int (jz 0)), (6, .int (jz r_4)), (0, .ref x), (1, .int (jz z)), (2, .int (jz bst)), (3, .int (jz lst)), (4, .int (jz ix)), (5, .int (jz le))]) hx hb dX9_best_58 hl (by decide) rfl (fun ls hl => ?_)
                    refine lv_iload hx hb dX9_best_60 (lv_at hl 0 rfl) ?_
                    refine jv_if_eq (tgt := 76) hx hb dX9_best_62 (by decide) (by omega) (fun c_9 => ?_) (fun c_9 => ?_)
                    · refine lv_iload_n hx hb dX9_best_76 rfl (lv_at hl 4 rfl) ?_
                      refine lv_istore_n (lv' := [(2, .int (jz bst)), (7, .int (jz 0)), (6, .int (jz r_4)), (0, .ref x), (1, .int (jz z)), (3, .int (jz lst)), (4, .int (jz ix)), (5, .int (jz le))]) hx hb dX9_best_77 rfl hl (by decide) rfl (fun ls hl => ?_)
                      refine lv_iload hx hb dX9_best_78 (lv_at hl 1 rfl) ?_
                      refine jv_if_eq (tgt := 88) hx hb dX9_best_80 (by decide) (by omega) (fun c_10 => ?_) (fun c_10 => ?_)
                      · refine lv_iload_n hx hb dX9_best_88 rfl (lv_at hl 5 rfl) ?_
                        refine lv_istore_n (lv' := [(3, .int (jz lst)), (2, .int (jz bst)), (7, .int (jz 0)), (6, .int (jz r_4)), (0, .ref x), (1, .int (jz z)), (4, .int (jz ix)), (5, .int (jz le))]) hx hb dX9_best_89 rfl hl (by decide) rfl (fun ls hl => ?_)
                        refine jv_iinc (lv' := [(5, .int (jz (le + 1))), (3, .int (jz lst)), (2, .int (jz bst)), (7, .int (jz 0)), (6, .int (jz r_4)), (0, .ref x), (1, .int (jz z)), (4, .int (jz ix))]) (k := 7) hx hb dX9_best_90 hl rfl (by decide) rfl (fun ls hl => ?_)
                        refine lv_goto (tgt := 21) hx hb dX9_best_93 (by decide) ?_
                        exact ih21 bst lst (le + 1) u_3 (by omega) (by omega) (by omega) (by rw [bLet_s _ _ (by omega), ← hb8]; unfold bStep; rw [if_neg (by show ¬ (bst < 0 ∨ D 1 (up (T9 aS 1) ix le) (T9 aS 0) (aS 1) (aS 0) < lst); rw [← er_4]; omega)]) H _ _ hP hD hS (lv_sub hl [5, 6, 2, 1, 7, 0] rfl)
                      · exfalso; omega
                    · exfalso; omega
                  · refine jv_iconst hx hb dX9_best_53 ?_
                    refine lv_goto (tgt := 58) hx hb dX9_best_54 (by decide) ?_
                    refine lv_istore (lv' := [(7, .int (jz 1)), (6, .int (jz r_4)), (0, .ref x), (1, .int (jz z)), (2, .int (jz bst)), (3, .int (jz lst)), (4, .int (jz ix)), (5, .int (jz le))]) hx hb dX9_best_58 hl (by decide) rfl (fun ls hl => ?_)
                    refine lv_iload hx hb dX9_best_60 (lv_at hl 0 rfl) ?_
                    refine jv_if_eq (tgt := 76) hx hb dX9_best_62 (by decide) (by omega) (fun c_11 => ?_) (fun c_11 => ?_)
                    · exfalso; omega
                    · refine jv_bipush hx hb dX9_best_65 (by decide) ?_
                      refine lv_iload hx hb dX9_best_67 (lv_at hl 6 rfl) ?_
                      refine jv_imul hx hb dX9_best_69 ?_
                      refine lv_iload hx hb dX9_best_70 (lv_at hl 7 rfl) ?_
                      refine jv_iadd hx hb dX9_best_72 ?_
                      refine lv_goto (tgt := 77) hx hb dX9_best_73 (by decide) ?_
                      refine lv_istore_n (lv' := [(2, .int (jz ((10 * ix) + le))), (7, .int (jz 1)), (6, .int (jz r_4)), (0, .ref x), (1, .int (jz z)), (3, .int (jz lst)), (4, .int (jz ix)), (5, .int (jz le))]) hx hb dX9_best_77 rfl hl (by decide) rfl (fun ls hl => ?_)
                      refine lv_iload hx hb dX9_best_78 (lv_at hl 1 rfl) ?_
                      refine jv_if_eq (tgt := 88) hx hb dX9_best_80 (by decide) (by omega) (fun c_12 => ?_) (fun c_12 => ?_)
                      · exfalso; omega
                      · refine lv_iload hx hb dX9_best_83 (lv_at hl 2 rfl) ?_
                        refine lv_goto (tgt := 89) hx hb dX9_best_85 (by decide) ?_
                        refine lv_istore_n (lv' := [(3, .int (jz r_4)), (2, .int (jz ((10 * ix) + le))), (7, .int (jz 1)), (6, .int (jz r_4)), (0, .ref x), (1, .int (jz z)), (4, .int (jz ix)), (5, .int (jz le))]) hx hb dX9_best_89 rfl hl (by decide) rfl (fun ls hl => ?_)
                        refine jv_iinc (lv' := [(5, .int (jz (le + 1))), (3, .int (jz r_4)), (2, .int (jz ((10 * ix) + le))), (7, .int (jz 1)), (6, .int (jz r_4)), (0, .ref x), (1, .int (jz z)), (4, .int (jz ix))]) (k := 7) hx hb dX9_best_90 hl rfl (by decide) rfl (fun ls hl => ?_)
                        refine lv_goto (tgt := 21) hx hb dX9_best_93 (by decide) ?_
                        exact ih21 ((10 * ix) + le) r_4 (le + 1) u_3 (by omega) (by omega) (by omega) (by rw [bLet_s _ _ (by omega), ← hb8]; unfold bStep; rw [if_pos (by show bst < 0 ∨ D 1 (up (T9 aS 1) ix le) (T9 aS 0) (aS 1) (aS 0) < lst; rw [← er_4]; omega), er_4]) H _ _ hP hD hS (lv_sub hl [5, 6, 2, 1, 7, 0] rfl)
          exact K21 (((aS 2 - 0).toNat) + 1) bst lst 0 gq (Nat.lt_succ_self _) (by omega) (by omega) (by exact hb9) H _ _ hP hD hS (lv_sub hl [1, 2, 3, 4, 5, 0] rfl)
    exact K7 (((aS 1 - 0).toNat) + 1) ((-1)) 0 0 aG (Nat.lt_succ_self _) (by omega) (by omega) (by rfl) H _ _ hP hD hS (lv_sub hl [3, 4, 2, 1, 0] rfl)
  exact KH s.heap [] hP hD hS
abbrev rmX9_bestReplacement_1 : Room := { frames := 6, cells := 0, slots := 0, locals := 139 }
set_option maxHeartbeats 4000000 in
set_option maxRecDepth 100000 in
theorem mX9_bestReplacement_1 (l : Launch) (G : GG) (x : Nat) (xs : Nat) (xb : Nat) (xm : Nat) (xf : Nat) (xu : Nat) (xg : Nat) (xw : Nat) (kn : Int) (bl : Int) (ft : Int) (vh : Int) (vm : Int) (vs : Int) (ln : Int) (th : Int) (sp : Int) (pl : Int) (wr : Int) (br : Int) (aS : Int → Int) (aB : Int → Int) (aM : Int → Int) (aO : Int → Int) (aU : Int → Int) (aG : Int → Int) (aW : Int → Int) (z : Int) (hs0 : 0 ≤ aS 0 ∧ aS 0 ≤ 20) (hs1 : 0 ≤ aS 1 ∧ aS 1 ≤ 20) (hg0 : ∀ j : Int, 0 ≤ j → j < aS 0 → 0 ≤ T9 aS 0 j ∧ T9 aS 0 j < 4) (hg1 : ∀ j : Int, 0 ≤ j → j < aS 1 → 0 ≤ T9 aS 1 j ∧ T9 aS 1 j < 4) (hs2 : 2 ≤ aS 2 ∧ aS 2 ≤ 4) (hz : z = 1) : Ct l yX9_bestReplacement cX9_bestReplacement 2 (some .int) rmX9_bestReplacement_1 G [.ref x, .int (jz z)] [bMod G x xs xb xm xf xu xg xw kn bl ft vh vm vs ln th sp pl wr br aS aB aM aO aU aG aW] (fun uo : (Int → Int) => some (.int (jz (bst0 (aS 2) (aS 1) (aS 0) (T9 aS 1) (T9 aS 0))))) (fun uo => True) (fun uo => [bMod G x xs xb xm xf xu xg xw kn bl ft vh vm vs ln 0 sp pl wr br aS aB aM aO aU uo aW]) := by
  refine cof (by decide) (Nat.le_of_ble_eq_true rfl) ?_
  intro p e s m args below meth c A ls hx hb hr hml hown hts hlocks hin hA hK hP hD hS hl Q hQ
  have hown : s.vm.findClass RX9 = some m.cls := hown
  have hl : lv_has ls 2 [(0, .ref x), (1, .int (jz z))] := hl
  have KH : ∀ (H : Heap) (locs : List Loc), wP G [bMod G x xs xb xm xf xu xg xw kn bl ft vh vm vs ln th sp pl wr br aS aB aM aO aU aG aW] H → wD A [bMod G x xs xb xm xf xu xg xw kn bl ft vh vm vs ln th sp pl wr br aS aB aM aO aU aG aW] → va_S A s.heap H locs → W p l e rmX9_bestReplacement_1 s m args below meth c H locs 0 0 Q (F0 m 0 ls []) := by
    intro H locs hP hD hS
    refine lv_aload_n hx hb dX9_bestReplacement_0 rfl (lv_at hl 0 rfl) ?_
    refine jv_iconst hx hb dX9_bestReplacement_1 ?_
    refine va_put (ci := 9) (v := .int (jz 0)) (ty := .int) (C := RX9) (T := TX9) (N := 19) hx hb hts wfX9 tyX9 tyX9_ok nmX9 hown hK.1 hP hD hS 0 rfl rfl 12 (by decide) (hts _ wm822) (fun _ h9 => h9) rfl (by decide +kernel) rfl rfl (Nat.le_of_ble_eq_true rfl) dX9_bestReplacement_2 (fun H locs hP hD hS => ?_)
    have hP : wP G [bMod G x xs xb xm xf xu xg xw kn bl ft vh vm vs ln 0 sp pl wr br aS aB aM aO aU aG aW] H := hP
    have hD : wD A [bMod G x xs xb xm xf xu xg xw kn bl ft vh vm vs ln 0 sp pl wr br aS aB aM aO aU aG aW] := hD
    refine lv_iload_n hx hb dX9_bestReplacement_5 rfl (lv_at hl 1 rfl) ?_
    refine kS ⟨hx, hb, hml, hown, hts⟩ hK hA hS hP hD [.int (jz z)] [] (mX9_isText_T l G z (by omega)) lkX9_109 [] [0] (br := [bMod G x xs xb xm xf xu xg xw kn bl ft vh vm vs ln 0 sp pl wr br aS aB aM aO aU aG aW]) rfl rfl (by decide) rfl rfl (Nat.le_of_ble_eq_true rfl) hl.1 dX9_bestReplacement_6 ⟨Nat.le_of_ble_eq_true rfl, Nat.le_of_ble_eq_true rfl⟩ ⟨Nat.le_of_ble_eq_true rfl, Nat.le_of_ble_eq_true rfl⟩ (fun u9 H locs hp9 hP hD hS => ?_)
    have hP : wP G [bMod G x xs xb xm xf xu xg xw kn bl ft vh vm vs ln 0 sp pl wr br aS aB aM aO aU aG aW] H := hP
    have hD : wD A [bMod G x xs xb xm xf xu xg xw kn bl ft vh vm vs ln 0 sp pl wr br aS aB aM aO aU aG aW] := hD
    show W p l e rmX9_bestReplacement_1 s m args below meth c H locs 0 0 Q (F0 m 9 ls [.int (jz 1)])
    refine jv_if_eq (tgt := 20) hx hb dX9_bestReplacement_9 (by decide) (by omega) (fun c_2 => ?_) (fun c_2 => ?_)
    · exfalso; omega
    · refine lv_aload_n hx hb dX9_bestReplacement_12 rfl (lv_at hl 0 rfl) ?_
      refine lv_iload_n hx hb dX9_bestReplacement_13 rfl (lv_at hl 1 rfl) ?_
      refine kV ⟨hx, hb, hml, hown, hts⟩ hK hA hS hP hD [.int (jz z)] [] (mX9_best_1 l G x xs xb xm xf xu xg xw kn bl ft vh vm vs ln 0 sp pl wr br aS aB aM aO aU aG aW z (by omega) (by omega) (by exact hg0) (by exact hg1) (by omega) (by omega)) lkX9_132 [0] [] (br := []) rfl rfl (by decide) 0 9 rfl rfl rfl rfl (Nat.le_of_ble_eq_true rfl) hl.1 dX9_bestReplacement_14 ⟨Nat.le_of_ble_eq_true rfl, Nat.le_of_ble_eq_true rfl⟩ ⟨Nat.le_of_ble_eq_true rfl, Nat.le_of_ble_eq_true rfl⟩ (fun u9 H locs hp9 hP hD hS => ?_)
      obtain ⟨u_3, rfl⟩ : ∃ z, z = u9 := ⟨_, rfl⟩
      have hP : wP G [bMod G x xs xb xm xf xu xg xw kn bl ft vh vm vs ln 0 sp pl wr br aS aB aM aO aU u_3 aW] H := hP
      have hD : wD A [bMod G x xs xb xm xf xu xg xw kn bl ft vh vm vs ln 0 sp pl wr br aS aB aM aO aU u_3 aW] := hD
      show W p l e rmX9_bestReplacement_1 s m args below meth c H locs 0 0 Q (F0 m 17 ls [.int (jz (bst0 (aS 2) (aS 1) (aS 0) (T9 aS 1) (T9 aS 0)))])
      refine lv_goto (tgt := 25) hx hb dX9_bestReplacement_17 (by decide) ?_
      exact cret_i hx hb hr hlocks hS hP hD (Nat.le_of_ble_eq_true rfl) (Nat.le_of_ble_eq_true rfl) rfl dX9_bestReplacement_25 [0] (by decide) u_3 rfl trivial (congrArg (fun z : Int => some (Value.int (jz z))) (show (bst0 (aS 2) (aS 1) (aS 0) (T9 aS 1) (T9 aS 0)) = bst0 (aS 2) (aS 1) (aS 0) (T9 aS 1) (T9 aS 0) from by first | rfl | omega | (split <;> first | rfl | omega | (exfalso; omega)))) hQ
  exact KH s.heap [] hP hD hS
abbrev rmX9_bestReplacement_1x : Room := { frames := 2, cells := 0, slots := 0, locals := 42 }
set_option maxHeartbeats 4000000 in
set_option maxRecDepth 100000 in
theorem mX9_bestReplacement_1x (l : Launch) (G : GG) (x : Nat) (xs : Nat) (xb : Nat) (xm : Nat) (xf : Nat) (xu : Nat) (xg : Nat) (xw : Nat) (kn : Int) (bl : Int) (ft : Int) (vh : Int) (vm : Int) (vs : Int) (ln : Int) (th : Int) (sp : Int) (pl : Int) (wr : Int) (br : Int) (aS : Int → Int) (aB : Int → Int) (aM : Int → Int) (aO : Int → Int) (aU : Int → Int) (aG : Int → Int) (aW : Int → Int) (z : Int) (hzj : jr z) (hz : ¬ (0 ≤ z ∧ z ≤ 1)) : Ct l yX9_bestReplacement cX9_bestReplacement 2 (some .int) rmX9_bestReplacement_1x G [.ref x, .int (jz z)] [bMod G x xs xb xm xf xu xg xw kn bl ft vh vm vs ln th sp pl wr br aS aB aM aO aU aG aW] (fun uo : Unit => some (.int (jz 0))) (fun uo => True) (fun uo => [bMod G x xs xb xm xf xu xg xw kn bl ft vh vm vs ln 1 sp pl wr br aS aB aM aO aU aG aW]) := by
  refine cof (by decide) (Nat.le_of_ble_eq_true rfl) ?_
  intro p e s m args below meth c A ls hx hb hr hml hown hts hlocks hin hA hK hP hD hS hl Q hQ
  have hown : s.vm.findClass RX9 = some m.cls := hown
  have hl : lv_has ls 2 [(0, .ref x), (1, .int (jz z))] := hl
  have KH : ∀ (H : Heap) (locs : List Loc), wP G [bMod G x xs xb xm xf xu xg xw kn bl ft vh vm vs ln th sp pl wr br aS aB aM aO aU aG aW] H → wD A [bMod G x xs xb xm xf xu xg xw kn bl ft vh vm vs ln th sp pl wr br aS aB aM aO aU aG aW] → va_S A s.heap H locs → W p l e rmX9_bestReplacement_1x s m args below meth c H locs 0 0 Q (F0 m 0 ls []) := by
    intro H locs hP hD hS
    refine lv_aload_n hx hb dX9_bestReplacement_0 rfl (lv_at hl 0 rfl) ?_
    refine jv_iconst hx hb dX9_bestReplacement_1 ?_
    refine va_put (ci := 9) (v := .int (jz 0)) (ty := .int) (C := RX9) (T := TX9) (N := 19) hx hb hts wfX9 tyX9 tyX9_ok nmX9 hown hK.1 hP hD hS 0 rfl rfl 12 (by decide) (hts _ wm822) (fun _ h9 => h9) rfl (by decide +kernel) rfl rfl (Nat.le_of_ble_eq_true rfl) dX9_bestReplacement_2 (fun H locs hP hD hS => ?_)
    have hP : wP G [bMod G x xs xb xm xf xu xg xw kn bl ft vh vm vs ln 0 sp pl wr br aS aB aM aO aU aG aW] H := hP
    have hD : wD A [bMod G x xs xb xm xf xu xg xw kn bl ft vh vm vs ln 0 sp pl wr br aS aB aM aO aU aG aW] := hD
    refine lv_iload_n hx hb dX9_bestReplacement_5 rfl (lv_at hl 1 rfl) ?_
    refine kS ⟨hx, hb, hml, hown, hts⟩ hK hA hS hP hD [.int (jz z)] [] (mX9_isText_F l G z (by omega) (by omega)) lkX9_109 [] [0] (br := [bMod G x xs xb xm xf xu xg xw kn bl ft vh vm vs ln 0 sp pl wr br aS aB aM aO aU aG aW]) rfl rfl (by decide) rfl rfl (Nat.le_of_ble_eq_true rfl) hl.1 dX9_bestReplacement_6 ⟨Nat.le_of_ble_eq_true rfl, Nat.le_of_ble_eq_true rfl⟩ ⟨Nat.le_of_ble_eq_true rfl, Nat.le_of_ble_eq_true rfl⟩ (fun u9 H locs hp9 hP hD hS => ?_)
    have hP : wP G [bMod G x xs xb xm xf xu xg xw kn bl ft vh vm vs ln 0 sp pl wr br aS aB aM aO aU aG aW] H := hP
    have hD : wD A [bMod G x xs xb xm xf xu xg xw kn bl ft vh vm vs ln 0 sp pl wr br aS aB aM aO aU aG aW] := hD
    show W p l e rmX9_bestReplacement_1x s m args below meth c H locs 0 0 Q (F0 m 9 ls [.int (jz 0)])
    refine jv_if_eq (tgt := 20) hx hb dX9_bestReplacement_9 (by decide) (by omega) (fun c_2 => ?_) (fun c_2 => ?_)
    · refine lv_aload_n hx hb dX9_bestReplacement_20 rfl (lv_at hl 0 rfl) ?_
      refine jv_iconst hx hb dX9_bestReplacement_21 ?_
      refine kV ⟨hx, hb, hml, hown, hts⟩ hK hA hS hP hD [.int (jz 1)] [] (mX9_throwing l G x xs xb xm xf xu xg xw kn bl ft vh vm vs ln 0 sp pl wr br aS aB aM aO aU aG aW 1 ) lkX9_98 [0] [] (br := []) rfl rfl (by decide) 0 9 rfl rfl rfl rfl (Nat.le_of_ble_eq_true rfl) hl.1 dX9_bestReplacement_22 ⟨Nat.le_of_ble_eq_true rfl, Nat.le_of_ble_eq_true rfl⟩ ⟨Nat.le_of_ble_eq_true rfl, Nat.le_of_ble_eq_true rfl⟩ (fun u9 H locs hp9 hP hD hS => ?_)
      have hP : wP G [bMod G x xs xb xm xf xu xg xw kn bl ft vh vm vs ln 1 sp pl wr br aS aB aM aO aU aG aW] H := hP
      have hD : wD A [bMod G x xs xb xm xf xu xg xw kn bl ft vh vm vs ln 1 sp pl wr br aS aB aM aO aU aG aW] := hD
      show W p l e rmX9_bestReplacement_1x s m args below meth c H locs 0 0 Q (F0 m 25 ls [.int (jz 0)])
      exact cret_i hx hb hr hlocks hS hP hD (Nat.le_of_ble_eq_true rfl) (Nat.le_of_ble_eq_true rfl) rfl dX9_bestReplacement_25 [0] (by decide) () rfl trivial (congrArg (fun z : Int => some (Value.int (jz z))) (show 0 = 0 from by first | rfl | omega | (split <;> first | rfl | omega | (exfalso; omega)))) hQ
    · exfalso; omega
  exact KH s.heap [] hP hD hS
