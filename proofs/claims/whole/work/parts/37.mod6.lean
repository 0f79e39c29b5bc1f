abbrev rmX9_insert_2 : Room := { frames := 2, cells := 0, slots := 0, locals := 43 }
set_option maxHeartbeats 4000000 in
set_option maxRecDepth 100000 in
theorem mX9_insert_2 (l : Launch) (G : GG) (x : Nat) (xs : Nat) (xb : Nat) (xm : Nat) (xf : Nat) (xu : Nat) (xg : Nat) (xw : Nat) (kn : Int) (bl : Int) (ft : Int) (vh : Int) (vm : Int) (vs : Int) (ln : Int) (th : Int) (sp : Int) (pl : Int) (wr : Int) (br : Int) (aS : Int → Int) (aB : Int → Int) (aM : Int → Int) (aO : Int → Int) (aU : Int → Int) (aG : Int → Int) (aW : Int → Int) (z : Int) (i : Int) (v : Int) (hs0 : 0 ≤ aS 0 ∧ aS 0 ≤ 20) (hs1 : 0 ≤ aS 1 ∧ aS 1 ≤ 20) (hs2 : 2 ≤ aS 2 ∧ aS 2 ≤ 4) (hz : 0 ≤ z ∧ z ≤ 1) (hi : 0 ≤ i ∧ i ≤ aS z) (hv : jr v) (hvb : ¬ (0 ≤ v ∧ v < aS 2)) : Ct l yX9_insert cX9_insert 5 (some .int) rmX9_insert_2 G [.ref x, .int (jz z), .int (jz i), .int (jz v)] [bMod G x xs xb xm xf xu xg xw kn bl ft vh vm vs ln th sp pl wr br aS aB aM aO aU aG aW] (fun uo : Unit => some (.int (jz 0))) (fun uo => True) (fun uo => [bMod G x xs xb xm xf xu xg xw kn bl ft vh vm vs ln 2 sp pl wr br aS aB aM aO aU aG aW]) := by
  refine cof (by decide) (Nat.le_of_ble_eq_true rfl) ?_
  intro p e s m args below meth c A ls hx hb hr hml hown hts hlocks hin hA hK hP hD hS hl Q hQ
  have hown : s.vm.findClass RX9 = some m.cls := hown
  have hl : lv_has ls 5 [(0, .ref x), (1, .int (jz z)), (2, .int (jz i)), (3, .int (jz v))] := hl
  have KH : ∀ (H : Heap) (locs : List Loc), wP G [bMod G x xs xb xm xf xu xg xw kn bl ft vh vm vs ln th sp pl wr br aS aB aM aO aU aG aW] H → wD A [bMod G x xs xb xm xf xu xg xw kn bl ft vh vm vs ln th sp pl wr br aS aB aM aO aU aG aW] → va_S A s.heap H locs → W p l e rmX9_insert_2 s m args below meth c H locs 0 0 Q (F0 m 0 ls []) := by
    intro H locs hP hD hS
    have hsz : 0 ≤ z → z ≤ 1 → 0 ≤ aS z ∧ aS z ≤ 20 := by intro q1 q2; rcases (show z = 0 ∨ z = 1 by omega) with e9 | e9 <;> rw [e9] <;> assumption
    have hsz9 := hsz hz.1 hz.2
    refine lv_aload_n hx hb dX9_insert_0 rfl (lv_at hl 0 rfl) ?_
    refine jv_iconst hx hb dX9_insert_1 ?_
    refine va_put (ci := 9) (v := .int (jz 0)) (ty := .int) (C := RX9) (T := TX9) (N := 19) hx hb hts wfX9 tyX9 tyX9_ok nmX9 hown hK.1 hP hD hS 0 rfl rfl 12 (by decide) (hts _ wm822) (fun _ h9 => h9) rfl (by decide +kernel) rfl rfl (Nat.le_of_ble_eq_true rfl) dX9_insert_2 (fun H locs hP hD hS => ?_)
    have hP : wP G [bMod G x xs xb xm xf xu xg xw kn bl ft vh vm vs ln 0 sp pl wr br aS aB aM aO aU aG aW] H := hP
    have hD : wD A [bMod G x xs xb xm xf xu xg xw kn bl ft vh vm vs ln 0 sp pl wr br aS aB aM aO aU aG aW] := hD
    refine lv_iload_n hx hb dX9_insert_5 rfl (lv_at hl 1 rfl) ?_
    refine kS ⟨hx, hb, hml, hown, hts⟩ hK hA hS hP hD [.int (jz z)] [] (mX9_isText_T l G z (by omega)) lkX9_109 [] [0] (br := [bMod G x xs xb xm xf xu xg xw kn bl ft vh vm vs ln 0 sp pl wr br aS aB aM aO aU aG aW]) rfl rfl (by decide) rfl rfl (Nat.le_of_ble_eq_true rfl) hl.1 dX9_insert_6 ⟨Nat.le_of_ble_eq_true rfl, Nat.le_of_ble_eq_true rfl⟩ ⟨Nat.le_of_ble_eq_true rfl, Nat.le_of_ble_eq_true rfl⟩ (fun u9 H locs hp9 hP hD hS => ?_)
    have hP : wP G [bMod G x xs xb xm xf xu xg xw kn bl ft vh vm vs ln 0 sp pl wr br aS aB aM aO aU aG aW] H := hP
    have hD : wD A [bMod G x xs xb xm xf xu xg xw kn bl ft vh vm vs ln 0 sp pl wr br aS aB aM aO aU aG aW] := hD
    show W p l e rmX9_insert_2 s m args below meth c H locs 0 0 Q (F0 m 9 ls [.int (jz 1)])
    refine jv_if_eq (tgt := 26) hx hb dX9_insert_9 (by decide) (by omega) (fun c_2 => ?_) (fun c_2 => ?_)
    · exfalso; omega
    · refine lv_iload_n hx hb dX9_insert_12 rfl (lv_at hl 2 rfl) ?_
      refine jv_iconst hx hb dX9_insert_13 ?_
      refine lv_aload_n hx hb dX9_insert_14 rfl (lv_at hl 0 rfl) ?_
      refine va_get (ci := 9) (v := .ref xs) (C := RX9) (T := TX9) (N := 19) hx hb hts wfX9 hown hK.1 hP 0 rfl rfl 0 (by decide) (hts _ wm810) (fun _ h9 => h9) rfl dX9_insert_15 ?_
      refine lv_iload_n hx hb dX9_insert_18 rfl (lv_at hl 1 rfl) ?_
      refine jv_iald hx hb hK.1 hP 1 (g := aS) rfl (by omega) (by omega) (by decide) dX9_insert_19 ?_
      refine kS ⟨hx, hb, hml, hown, hts⟩ hK hA hS hP hD [.int (jz i), .int (jz 0), .int (jz (aS z))] [] (mX9_in_T l G i 0 (aS z) (by omega) (by omega) (by omega) (by omega)) lkX9_42 [] [0] (br := [bMod G x xs xb xm xf xu xg xw kn bl ft vh vm vs ln 0 sp pl wr br aS aB aM aO aU aG aW]) rfl rfl (by decide) rfl rfl (Nat.le_of_ble_eq_true rfl) hl.1 dX9_insert_20 ⟨Nat.le_of_ble_eq_true rfl, Nat.le_of_ble_eq_true rfl⟩ ⟨Nat.le_of_ble_eq_true rfl, Nat.le_of_ble_eq_true rfl⟩ (fun u9 H locs hp9 hP hD hS => ?_)
      have hP : wP G [bMod G x xs xb xm xf xu xg xw kn bl ft vh vm vs ln 0 sp pl wr br aS aB aM aO aU aG aW] H := hP
      have hD : wD A [bMod G x xs xb xm xf xu xg xw kn bl ft vh vm vs ln 0 sp pl wr br aS aB aM aO aU aG aW] := hD
      show W p l e rmX9_insert_2 s m args below meth c H locs 0 0 Q (F0 m 23 ls [.int (jz 1)])
      refine jv_if_ne (tgt := 32) hx hb dX9_insert_23 (by decide) (by omega) (fun c_4 => ?_) (fun c_4 => ?_)
      · refine lv_aload_n hx hb dX9_insert_32 rfl (lv_at hl 0 rfl) ?_
        refine lv_iload_n hx hb dX9_insert_33 rfl (lv_at hl 3 rfl) ?_
        refine kV ⟨hx, hb, hml, hown, hts⟩ hK hA hS hP hD [.int (jz v)] [] (mX9_isLetter_F l G x xs xb xm xf xu xg xw kn bl ft vh vm vs ln 0 sp pl wr br aS aB aM aO aU aG aW v (by omega) (by omega) (by omega)) lkX9_102 [0] [] (br := []) rfl rfl (by decide) 0 9 rfl rfl rfl rfl (Nat.le_of_ble_eq_true rfl) hl.1 dX9_insert_34 ⟨Nat.le_of_ble_eq_true rfl, Nat.le_of_ble_eq_true rfl⟩ ⟨Nat.le_of_ble_eq_true rfl, Nat.le_of_ble_eq_true rfl⟩ (fun u9 H locs hp9 hP hD hS => ?_)
        have hP : wP G [bMod G x xs xb xm xf xu xg xw kn bl ft vh vm vs ln 0 sp pl wr br aS aB aM aO aU aG aW] H := hP
        have hD : wD A [bMod G x xs xb xm xf xu xg xw kn bl ft vh vm vs ln 0 sp pl wr br aS aB aM aO aU aG aW] := hD
        show W p l e rmX9_insert_2 s m args below meth c H locs 0 0 Q (F0 m 37 ls [.int (jz 0)])
        refine jv_if_ne (tgt := 46) hx hb dX9_insert_37 (by decide) (by omega) (fun c_6 => ?_) (fun c_6 => ?_)
        · exfalso; omega
        · refine lv_aload_n hx hb dX9_insert_40 rfl (lv_at hl 0 rfl) ?_
          refine jv_iconst hx hb dX9_insert_41 ?_
          refine kV ⟨hx, hb, hml, hown, hts⟩ hK hA hS hP hD [.int (jz 2)] [] (mX9_throwing l G x xs xb xm xf xu xg xw kn bl ft vh vm vs ln 0 sp pl wr br aS aB aM aO aU aG aW 2 ) lkX9_98 [0] [] (br := []) rfl rfl (by decide) 0 9 rfl rfl rfl rfl (Nat.le_of_ble_eq_true rfl) hl.1 dX9_insert_42 ⟨Nat.le_of_ble_eq_true rfl, Nat.le_of_ble_eq_true rfl⟩ ⟨Nat.le_of_ble_eq_true rfl, Nat.le_of_ble_eq_true rfl⟩ (fun u9 H locs hp9 hP hD hS => ?_)
          have hP : wP G [bMod G x xs xb xm xf xu xg xw kn bl ft vh vm vs ln 2 sp pl wr br aS aB aM aO aU aG aW] H := hP
          have hD : wD A [bMod G x xs xb xm xf xu xg xw kn bl ft vh vm vs ln 2 sp pl wr br aS aB aM aO aU aG aW] := hD
          show W p l e rmX9_insert_2 s m args below meth c H locs 0 0 Q (F0 m 45 ls [.int (jz 0)])
          exact cret_i hx hb hr hlocks hS hP hD (Nat.le_of_ble_eq_true rfl) (Nat.le_of_ble_eq_true rfl) rfl dX9_insert_45 [0] (by decide) () rfl trivial (congrArg (fun z : Int => some (Value.int (jz z))) (show 0 = 0 from by first | rfl | omega | (split <;> first | rfl | omega | (exfalso; omega)))) hQ
      · exfalso; omega
  exact KH s.heap [] hP hD hS
abbrev rmX9_replace_2 : Room := { frames := 2, cells := 0, slots := 0, locals := 43 }
set_option maxHeartbeats 4000000 in
set_option maxRecDepth 100000 in
theorem mX9_replace_2 (l : Launch) (G : GG) (x : Nat) (xs : Nat) (xb : Nat) (xm : Nat) (xf : Nat) (xu : Nat) (xg : Nat) (xw : Nat) (kn : Int) (bl : Int) (ft : Int) (vh : Int) (vm : Int) (vs : Int) (ln : Int) (th : Int) (sp : Int) (pl : Int) (wr : Int) (br : Int) (aS : Int → Int) (aB : Int → Int) (aM : Int → Int) (aO : Int → Int) (aU : Int → Int) (aG : Int → Int) (aW : Int → Int) (z : Int) (i : Int) (v : Int) (hs0 : 0 ≤ aS 0 ∧ aS 0 ≤ 20) (hs1 : 0 ≤ aS 1 ∧ aS 1 ≤ 20) (hs2 : 2 ≤ aS 2 ∧ aS 2 ≤ 4) (hz : 0 ≤ z ∧ z ≤ 1) (hi : 0 ≤ i ∧ i ≤ aS z - 1) (hv : jr v) (hvb : ¬ (0 ≤ v ∧ v < aS 2)) : Ct l yX9_replace cX9_replace 5 (some .int) rmX9_replace_2 G [.ref x, .int (jz z), .int (jz i), .int (jz v)] [bMod G x xs xb xm xf xu xg xw kn bl ft vh vm vs ln th sp pl wr br aS aB aM aO aU aG aW] (fun uo : Unit => some (.int (jz 0))) (fun uo => True) (fun uo => [bMod G x xs xb xm xf xu xg xw kn bl ft vh vm vs ln 2 sp pl wr br aS aB aM aO aU aG aW]) := by
  refine cof (by decide) (Nat.le_of_ble_eq_true rfl) ?_
  intro p e s m args below meth c A ls hx hb hr hml hown hts hlocks hin hA hK hP hD hS hl Q hQ
  have hown : s.vm.findClass RX9 = some m.cls := hown
  have hl : lv_has ls 5 [(0, .ref x), (1, .int (jz z)), (2, .int (jz i)), (3, .int (jz v))] := hl
  have KH : ∀ (H : Heap) (locs : List Loc), wP G [bMod G x xs xb xm xf xu xg xw kn bl ft vh vm vs ln th sp pl wr br aS aB aM aO aU aG aW] H → wD A [bMod G x xs xb xm xf xu xg xw kn bl ft vh vm vs ln th sp pl wr br aS aB aM aO aU aG aW] → va_S A s.heap H locs → W p l e rmX9_replace_2 s m args below meth c H locs 0 0 Q (F0 m 0 ls []) := by
    intro H locs hP hD hS
    have hsz : 0 ≤ z → z ≤ 1 → 0 ≤ aS z ∧ aS z ≤ 20 := by intro q1 q2; rcases (show z = 0 ∨ z = 1 by omega) with e9 | e9 <;> rw [e9] <;> assumption
    have hsz9 := hsz hz.1 hz.2
    refine lv_aload_n hx hb dX9_replace_0 rfl (lv_at hl 0 rfl) ?_
    refine jv_iconst hx hb dX9_replace_1 ?_
    refine va_put (ci := 9) (v := .int (jz 0)) (ty := .int) (C := RX9) (T := TX9) (N := 19) hx hb hts wfX9 tyX9 tyX9_ok nmX9 hown hK.1 hP hD hS 0 rfl rfl 12 (by decide) (hts _ wm822) (fun _ h9 => h9) rfl (by decide +kernel) rfl rfl (Nat.le_of_ble_eq_true rfl) dX9_replace_2 (fun H locs hP hD hS => ?_)
    have hP : wP G [bMod G x xs xb xm xf xu xg xw kn bl ft vh vm vs ln 0 sp pl wr br aS aB aM aO aU aG aW] H := hP
    have hD : wD A [bMod G x xs xb xm xf xu xg xw kn bl ft vh vm vs ln 0 sp pl wr br aS aB aM aO aU aG aW] := hD
    refine lv_iload_n hx hb dX9_replace_5 rfl (lv_at hl 1 rfl) ?_
    refine kS ⟨hx, hb, hml, hown, hts⟩ hK hA hS hP hD [.int (jz z)] [] (mX9_isText_T l G z (by omega)) lkX9_109 [] [0] (br := [bMod G x xs xb xm xf xu xg xw kn bl ft vh vm vs ln 0 sp pl wr br aS aB aM aO aU aG aW]) rfl rfl (by decide) rfl rfl (Nat.le_of_ble_eq_true rfl) hl.1 dX9_replace_6 ⟨Nat.le_of_ble_eq_true rfl, Nat.le_of_ble_eq_true rfl⟩ ⟨Nat.le_of_ble_eq_true rfl, Nat.le_of_ble_eq_true rfl⟩ (fun u9 H locs hp9 hP hD hS => ?_)
    have hP : wP G [bMod G x xs xb xm xf xu xg xw kn bl ft vh vm vs ln 0 sp pl wr br aS aB aM aO aU aG aW] H := hP
    have hD : wD A [bMod G x xs xb xm xf xu xg xw kn bl ft vh vm vs ln 0 sp pl wr br aS aB aM aO aU aG aW] := hD
    show W p l e rmX9_replace_2 s m args below meth c H locs 0 0 Q (F0 m 9 ls [.int (jz 1)])
    refine jv_if_eq (tgt := 28) hx hb dX9_replace_9 (by decide) (by omega) (fun c_2 => ?_) (fun c_2 => ?_)
    · exfalso; omega
    · refine lv_iload_n hx hb dX9_replace_12 rfl (lv_at hl 2 rfl) ?_
      refine jv_iconst hx hb dX9_replace_13 ?_
      refine lv_aload_n hx hb dX9_replace_14 rfl (lv_at hl 0 rfl) ?_
      refine va_get (ci := 9) (v := .ref xs) (C := RX9) (T := TX9) (N := 19) hx hb hts wfX9 hown hK.1 hP 0 rfl rfl 0 (by decide) (hts _ wm810) (fun _ h9 => h9) rfl dX9_replace_15 ?_
      refine lv_iload_n hx hb dX9_replace_18 rfl (lv_at hl 1 rfl) ?_
      refine jv_iald hx hb hK.1 hP 1 (g := aS) rfl (by omega) (by omega) (by decide) dX9_replace_19 ?_
      refine jv_iconst hx hb dX9_replace_20 ?_
      refine jv_isub hx hb dX9_replace_21 ?_
      refine kS ⟨hx, hb, hml, hown, hts⟩ hK hA hS hP hD [.int (jz i), .int (jz 0), .int (jz ((aS z) - 1))] [] (mX9_in_T l G i 0 ((aS z) - 1) (by omega) (by omega) (by omega) (by omega)) lkX9_42 [] [0] (br := [bMod G x xs xb xm xf xu xg xw kn bl ft vh vm vs ln 0 sp pl wr br aS aB aM aO aU aG aW]) rfl rfl (by decide) rfl rfl (Nat.le_of_ble_eq_true rfl) hl.1 dX9_replace_22 ⟨Nat.le_of_ble_eq_true rfl, Nat.le_of_ble_eq_true rfl⟩ ⟨Nat.le_of_ble_eq_true rfl, Nat.le_of_ble_eq_true rfl⟩ (fun u9 H locs hp9 hP hD hS => ?_)
      have hP : wP G [bMod G x xs xb xm xf xu xg xw kn bl ft vh vm vs ln 0 sp pl wr br aS aB aM aO aU aG aW] H := hP
      have hD : wD A [bMod G x xs xb xm xf xu xg xw kn bl ft vh vm vs ln 0 sp pl wr br aS aB aM aO aU aG aW] := hD
      show W p l e rmX9_replace_2 s m args below meth c H locs 0 0 Q (F0 m 25 ls [.int (jz 1)])
      refine jv_if_ne (tgt := 34) hx hb dX9_replace_25 (by decide) (by omega) (fun c_4 => ?_) (fun c_4 => ?_)
      · refine lv_aload_n hx hb dX9_replace_34 rfl (lv_at hl 0 rfl) ?_
        refine lv_iload_n hx hb dX9_replace_35 rfl (lv_at hl 3 rfl) ?_
        refine kV ⟨hx, hb, hml, hown, hts⟩ hK hA hS hP hD [.int (jz v)] [] (mX9_isLetter_F l G x xs xb xm xf xu xg xw kn bl ft vh vm vs ln 0 sp pl wr br aS aB aM aO aU aG aW v (by omega) (by omega) (by omega)) lkX9_102 [0] [] (br := []) rfl rfl (by decide) 0 9 rfl rfl rfl rfl (Nat.le_of_ble_eq_true rfl) hl.1 dX9_replace_36 ⟨Nat.le_of_ble_eq_true rfl, Nat.le_of_ble_eq_true rfl⟩ ⟨Nat.le_of_ble_eq_true rfl, Nat.le_of_ble_eq_true rfl⟩ (fun u9 H locs hp9 hP hD hS => ?_)
        have hP : wP G [bMod G x xs xb xm xf xu xg xw kn bl ft vh vm vs ln 0 sp pl wr br aS aB aM aO aU aG aW] H := hP
        have hD : wD A [bMod G x xs xb xm xf xu xg xw kn bl ft vh vm vs ln 0 sp pl wr br aS aB aM aO aU aG aW] := hD
        show W p l e rmX9_replace_2 s m args below meth c H locs 0 0 Q (F0 m 39 ls [.int (jz 0)])
        refine jv_if_ne (tgt := 48) hx hb dX9_replace_39 (by decide) (by omega) (fun c_6 => ?_) (fun c_6 => ?_)
        · exfalso; omega
        · refine lv_aload_n hx hb dX9_replace_42 rfl (lv_at hl 0 rfl) ?_
          refine jv_iconst hx hb dX9_replace_43 ?_
          refine kV ⟨hx, hb, hml, hown, hts⟩ hK hA hS hP hD [.int (jz 2)] [] (mX9_throwing l G x xs xb xm xf xu xg xw kn bl ft vh vm vs ln 0 sp pl wr br aS aB aM aO aU aG aW 2 ) lkX9_98 [0] [] (br := []) rfl rfl (by decide) 0 9 rfl rfl rfl rfl (Nat.le_of_ble_eq_true rfl) hl.1 dX9_replace_44 ⟨Nat.le_of_ble_eq_true rfl, Nat.le_of_ble_eq_true rfl⟩ ⟨Nat.le_of_ble_eq_true rfl, Nat.le_of_ble_eq_true rfl⟩ (fun u9 H locs hp9 hP hD hS => ?_)
          have hP : wP G [bMod G x xs xb xm xf xu xg xw kn bl ft vh vm vs ln 2 sp pl wr br aS aB aM aO aU aG aW] H := hP
          have hD : wD A [bMod G x xs xb xm xf xu xg xw kn bl ft vh vm vs ln 2 sp pl wr br aS aB aM aO aU aG aW] := hD
          show W p l e rmX9_replace_2 s m args below meth c H locs 0 0 Q (F0 m 47 ls [.int (jz 0)])
          exact cret_i hx hb hr hlocks hS hP hD (Nat.le_of_ble_eq_true rfl) (Nat.le_of_ble_eq_true rfl) rfl dX9_replace_47 [0] (by decide) () rfl trivial (congrArg (fun z : Int => some (Value.int (jz z))) (show 0 = 0 from by first | rfl | omega | (split <;> first | rfl | omega | (exfalso; omega)))) hQ
      · exfalso; omega
  exact KH s.heap [] hP hD hS
abbrev rmX9_ifReplaced_2 : Room := { frames := 2, cells := 0, slots := 0, locals := 43 }
set_option maxHeartbeats 4000000 in
set_option maxRecDepth 100000 in
theorem mX9_ifReplaced_2 (l : Launch) (G : GG) (x : Nat) (xs : Nat) (xb : Nat) (xm : Nat) (xf : Nat) (xu : Nat) (xg : Nat) (xw : Nat) (kn : Int) (bl : Int) (ft : Int) (vh : Int) (vm : Int) (vs : Int) (ln : Int) (th : Int) (sp : Int) (pl : Int) (wr : Int) (br : Int) (aS : Int → Int) (aB : Int → Int) (aM : Int → Int) (aO : Int → Int) (aU : Int → Int) (aG : Int → Int) (aW : Int → Int) (z : Int) (i : Int) (v : Int) (hs0 : 0 ≤ aS 0 ∧ aS 0 ≤ 20) (hs1 : 0 ≤ aS 1 ∧ aS 1 ≤ 20) (hs2 : 2 ≤ aS 2 ∧ aS 2 ≤ 4) (hz : 0 ≤ z ∧ z ≤ 1) (hi : 0 ≤ i ∧ i ≤ aS z - 1) (hv : jr v) (hvb : ¬ (0 ≤ v ∧ v < aS 2)) : Ct l yX9_ifReplaced cX9_ifReplaced 4 (some .int) rmX9_ifReplaced_2 G [.ref x, .int (jz z), .int (jz i), .int (jz v)] [bMod G x xs xb xm xf xu xg xw kn bl ft vh vm vs ln th sp pl wr br aS aB aM aO aU aG aW] (fun uo : Unit => some (.int (jz 0))) (fun uo => True) (fun uo => [bMod G x xs xb xm xf xu xg xw kn bl ft vh vm vs ln 2 sp pl wr br aS aB aM aO aU aG aW]) := by
  refine cof (by decide) (Nat.le_of_ble_eq_true rfl) ?_
  intro p e s m args below meth c A ls hx hb hr hml hown hts hlocks hin hA hK hP hD hS hl Q hQ
  have hown : s.vm.findClass RX9 = some m.cls := hown
  have hl : lv_has ls 4 [(0, .ref x), (1, .int (jz z)), (2, .int (jz i)), (3, .int (jz v))] := hl
  have KH : ∀ (H : Heap) (locs : List Loc), wP G [bMod G x xs xb xm xf xu xg xw kn bl ft vh vm vs ln th sp pl wr br aS aB aM aO aU aG aW] H → wD A [bMod G x xs xb xm xf xu xg xw kn bl ft vh vm vs ln th sp pl wr br aS aB aM aO aU aG aW] → va_S A s.heap H locs → W p l e rmX9_ifReplaced_2 s m args below meth c H locs 0 0 Q (F0 m 0 ls []) := by
    intro H locs hP hD hS
    have hsz : 0 ≤ z → z ≤ 1 → 0 ≤ aS z ∧ aS z ≤ 20 := by intro q1 q2; rcases (show z = 0 ∨ z = 1 by omega) with e9 | e9 <;> rw [e9] <;> assumption
    have hsz9 := hsz hz.1 hz.2
    refine lv_aload_n hx hb dX9_ifReplaced_0 rfl (lv_at hl 0 rfl) ?_
    refine jv_iconst hx hb dX9_ifReplaced_1 ?_
    refine va_put (ci := 9) (v := .int (jz 0)) (ty := .int) (C := RX9) (T := TX9) (N := 19) hx hb hts wfX9 tyX9 tyX9_ok nmX9 hown hK.1 hP hD hS 0 rfl rfl 12 (by decide) (hts _ wm822) (fun _ h9 => h9) rfl (by decide +kernel) rfl rfl (Nat.le_of_ble_eq_true rfl) dX9_ifReplaced_2 (fun H locs hP hD hS => ?_)
    have hP : wP G [bMod G x xs xb xm xf xu xg xw kn bl ft vh vm vs ln 0 sp pl wr br aS aB aM aO aU aG aW] H := hP
    have hD : wD A [bMod G x xs xb xm xf xu xg xw kn bl ft vh vm vs ln 0 sp pl wr br aS aB aM aO aU aG aW] := hD
    refine lv_iload_n hx hb dX9_ifReplaced_5 rfl (lv_at hl 1 rfl) ?_
    refine kS ⟨hx, hb, hml, hown, hts⟩ hK hA hS hP hD [.int (jz z)] [] (mX9_isText_T l G z (by omega)) lkX9_109 [] [0] (br := [bMod G x xs xb xm xf xu xg xw kn bl ft vh vm vs ln 0 sp pl wr br aS aB aM aO aU aG aW]) rfl rfl (by decide) rfl rfl (Nat.le_of_ble_eq_true rfl) hl.1 dX9_ifReplaced_6 ⟨Nat.le_of_ble_eq_true rfl, Nat.le_of_ble_eq_true rfl⟩ ⟨Nat.le_of_ble_eq_true rfl, Nat.le_of_ble_eq_true rfl⟩ (fun u9 H locs hp9 hP hD hS => ?_)
    have hP : wP G [bMod G x xs xb xm xf xu xg xw kn bl ft vh vm vs ln 0 sp pl wr br aS aB aM aO aU aG aW] H := hP
    have hD : wD A [bMod G x xs xb xm xf xu xg xw kn bl ft vh vm vs ln 0 sp pl wr br aS aB aM aO aU aG aW] := hD
    show W p l e rmX9_ifReplaced_2 s m args below meth c H locs 0 0 Q (F0 m 9 ls [.int (jz 1)])
    refine jv_if_eq (tgt := 28) hx hb dX9_ifReplaced_9 (by decide) (by omega) (fun c_2 => ?_) (fun c_2 => ?_)
    · exfalso; omega
    · refine lv_iload_n hx hb dX9_ifReplaced_12 rfl (lv_at hl 2 rfl) ?_
      refine jv_iconst hx hb dX9_ifReplaced_13 ?_
      refine lv_aload_n hx hb dX9_ifReplaced_14 rfl (lv_at hl 0 rfl) ?_
      refine va_get (ci := 9) (v := .ref xs) (C := RX9) (T := TX9) (N := 19) hx hb hts wfX9 hown hK.1 hP 0 rfl rfl 0 (by decide) (hts _ wm810) (fun _ h9 => h9) rfl dX9_ifReplaced_15 ?_
      refine lv_iload_n hx hb dX9_ifReplaced_18 rfl (lv_at hl 1 rfl) ?_
      refine jv_iald hx hb hK.1 hP 1 (g := aS) rfl (by omega) (by omega) (by decide) dX9_ifReplaced_19 ?_
      refine jv_iconst hx hb dX9_ifReplaced_20 ?_
      refine jv_isub hx hb dX9_ifReplaced_21 ?_
      refine kS ⟨hx, hb, hml, hown, hts⟩ hK hA hS hP hD [.int (jz i), .int (jz 0), .int (jz ((aS z) - 1))] [] (mX9_in_T l G i 0 ((aS z) - 1) (by omega) (by omega) (by omega) (by omega)) lkX9_42 [] [0] (br := [bMod G x xs xb xm xf xu xg xw kn bl ft vh vm vs ln 0 sp pl wr br aS aB aM aO aU aG aW]) rfl rfl (by decide) rfl rfl (Nat.le_of_ble_eq_true rfl) hl.1 dX9_ifReplaced_22 ⟨Nat.le_of_ble_eq_true rfl, Nat.le_of_ble_eq_true rfl⟩ ⟨Nat.le_of_ble_eq_true rfl, Nat.le_of_ble_eq_true rfl⟩ (fun u9 H locs hp9 hP hD hS => ?_)
      have hP : wP G [bMod G x xs xb xm xf xu xg xw kn bl ft vh vm vs ln 0 sp pl wr br aS aB aM aO aU aG aW] H := hP
      have hD : wD A [bMod G x xs xb xm xf xu xg xw kn bl ft vh vm vs ln 0 sp pl wr br aS aB aM aO aU aG aW] := hD
      show W p l e rmX9_ifReplaced_2 s m args below meth c H locs 0 0 Q (F0 m 25 ls [.int (jz 1)])
      refine jv_if_ne (tgt := 34) hx hb dX9_ifReplaced_25 (by decide) (by omega) (fun c_4 => ?_) (fun c_4 => ?_)
      · refine lv_aload_n hx hb dX9_ifReplaced_34 rfl (lv_at hl 0 rfl) ?_
        refine lv_iload_n hx hb dX9_ifReplaced_35 rfl (lv_at hl 3 rfl) ?_
        refine kV ⟨hx, hb, hml, hown, hts⟩ hK hA hS hP hD [.int (jz v)] [] (mX9_isLetter_F l G x xs xb xm xf xu xg xw kn bl ft vh vm vs ln 0 sp pl wr br aS aB aM aO aU aG aW v (by omega) (by omega) (by omega)) lkX9_102 [0] [] (br := []) rfl rfl (by decide) 0 9 rfl rfl rfl rfl (Nat.le_of_ble_eq_true rfl) hl.1 dX9_ifReplaced_36 ⟨Nat.le_of_ble_eq_true rfl, Nat.le_of_ble_eq_true rfl⟩ ⟨Nat.le_of_ble_eq_true rfl, Nat.le_of_ble_eq_true rfl⟩ (fun u9 H locs hp9 hP hD hS => ?_)
        have hP : wP G [bMod G x xs xb xm xf xu xg xw kn bl ft vh vm vs ln 0 sp pl wr br aS aB aM aO aU aG aW] H := hP
        have hD : wD A [bMod G x xs xb xm xf xu xg xw kn bl ft vh vm vs ln 0 sp pl wr br aS aB aM aO aU aG aW] := hD
        show W p l e rmX9_ifReplaced_2 s m args below meth c H locs 0 0 Q (F0 m 39 ls [.int (jz 0)])
        refine jv_if_eq (tgt := 52) hx hb dX9_ifReplaced_39 (by decide) (by omega) (fun c_6 => ?_) (fun c_6 => ?_)
        · refine lv_aload_n hx hb dX9_ifReplaced_52 rfl (lv_at hl 0 rfl) ?_
          refine jv_iconst hx hb dX9_ifReplaced_53 ?_
          refine kV ⟨hx, hb, hml, hown, hts⟩ hK hA hS hP hD [.int (jz 2)] [] (mX9_throwing l G x xs xb xm xf xu xg xw kn bl ft vh vm vs ln 0 sp pl wr br aS aB aM aO aU aG aW 2 ) lkX9_98 [0] [] (br := []) rfl rfl (by decide) 0 9 rfl rfl rfl rfl (Nat.le_of_ble_eq_true rfl) hl.1 dX9_ifReplaced_54 ⟨Nat.le_of_ble_eq_true rfl, Nat.le_of_ble_eq_true rfl⟩ ⟨Nat.le_of_ble_eq_true rfl, Nat.le_of_ble_eq_true rfl⟩ (fun u9 H locs hp9 hP hD hS => ?_)
          have hP : wP G [bMod G x xs xb xm xf xu xg xw kn bl ft vh vm vs ln 2 sp pl wr br aS aB aM aO aU aG aW] H := hP
          have hD : wD A [bMod G x xs xb xm xf xu xg xw kn bl ft vh vm vs ln 2 sp pl wr br aS aB aM aO aU aG aW] := hD
          show W p l e rmX9_ifReplaced_2 s m args below meth c H locs 0 0 Q (F0 m 57 ls [.int (jz 0)])
          exact cret_i hx hb hr hlocks hS hP hD (Nat.le_of_ble_eq_true rfl) (Nat.le_of_ble_eq_true rfl) rfl dX9_ifReplaced_57 [0] (by decide) () rfl trivial (congrArg (fun z : Int => some (Value.int (jz z))) (show 0 = 0 from by first | rfl | omega | (split <;> first | rfl | omega | (exfalso; omega)))) hQ
        · exfalso; omega
      · exfalso; omega
  exact KH s.heap [] hP hD hS
abbrev rmX9_insert_3 : Room := { frames := 2, cells := 0, slots := 0, locals := 43 }
set_option maxHeartbeats 4000000 in
set_option maxRecDepth 100000 in
theorem mX9_insert_3 (l : Launch) (G : GG) (x : Nat) (xs : Nat) (xb : Nat) (xm : Nat) (xf : Nat) (xu : Nat) (xg : Nat) (xw : Nat) (kn : Int) (bl : Int) (ft : Int) (vh : Int) (vm : Int) (vs : Int) (ln : Int) (th : Int) (sp : Int) (pl : Int) (wr : Int) (br : Int) (aS : Int → Int) (aB : Int → Int) (aM : Int → Int) (aO : Int → Int) (aU : Int → Int) (aG : Int → Int) (aW : Int → Int) (z : Int) (i : Int) (v : Int) (hs0 : 0 ≤ aS 0 ∧ aS 0 ≤ 20) (hs1 : 0 ≤ aS 1 ∧ aS 1 ≤ 20) (hs2 : 2 ≤ aS 2 ∧ aS 2 ≤ 4) (hz : 0 ≤ z ∧ z ≤ 1) (hi : 0 ≤ i ∧ i ≤ aS z) (hv : 0 ≤ v ∧ v < aS 2) (hfull : aS z = 20) : Ct l yX9_insert cX9_insert 5 (some .int) rmX9_insert_3 G [.ref x, .int (jz z), .int (jz i), .int (jz v)] [bMod G x xs xb xm xf xu xg xw kn bl ft vh vm vs ln th sp pl wr br aS aB aM aO aU aG aW] (fun uo : Unit => some (.int (jz 0))) (fun uo => True) (fun uo => [bMod G x xs xb xm xf xu xg xw kn bl ft vh vm vs ln 3 sp pl wr br aS aB aM aO aU aG aW]) := by
  refine cof (by decide) (Nat.le_of_ble_eq_true rfl) ?_
  intro p e s m args below meth c A ls hx hb hr hml hown hts hlocks hin hA hK hP hD hS hl Q hQ
  have hown : s.vm.findClass RX9 = some m.cls := hown
  have hl : lv_has ls 5 [(0, .ref x), (1, .int (jz z)), (2, .int (jz i)), (3, .int (jz v))] := hl
  have KH : ∀ (H : Heap) (locs : List Loc), wP G [bMod G x xs xb xm xf xu xg xw kn bl ft vh vm vs ln th sp pl wr br aS aB aM aO aU aG aW] H → wD A [bMod G x xs xb xm xf xu xg xw kn bl ft vh vm vs ln th sp pl wr br aS aB aM aO aU aG aW] → va_S A s.heap H locs → W p l e rmX9_insert_3 s m args below meth c H locs 0 0 Q (F0 m 0 ls []) := by
    intro H locs hP hD hS
    have hsz : 0 ≤ z → z ≤ 1 → 0 ≤ aS z ∧ aS z ≤ 20 := by intro q1 q2; rcases (show z = 0 ∨ z = 1 by omega) with e9 | e9 <;> rw [e9] <;> assumption
    have hsz9 := hsz hz.1 hz.2
    refine lv_aload_n hx hb dX9_insert_0 rfl (lv_at hl 0 rfl) ?_
    refine jv_iconst hx hb dX9_insert_1 ?_
    refine va_put (ci := 9) (v := .int (jz 0)) (ty := .int) (C := RX9) (T := TX9) (N := 19) hx hb hts wfX9 tyX9 tyX9_ok nmX9 hown hK.1 hP hD hS 0 rfl rfl 12 (by decide) (hts _ wm822) (fun _ h9 => h9) rfl (by decide +kernel) rfl rfl (Nat.le_of_ble_eq_true rfl) dX9_insert_2 (fun H locs hP hD hS => ?_)
    have hP : wP G [bMod G x xs xb xm xf xu xg xw kn bl ft vh vm vs ln 0 sp pl wr br aS aB aM aO aU aG aW] H := hP
    have hD : wD A [bMod G x xs xb xm xf xu xg xw kn bl ft vh vm vs ln 0 sp pl wr br aS aB aM aO aU aG aW] := hD
    refine lv_iload_n hx hb dX9_insert_5 rfl (lv_at hl 1 rfl) ?_
    refine kS ⟨hx, hb, hml, hown, hts⟩ hK hA hS hP hD [.int (jz z)] [] (mX9_isText_T l G z (by omega)) lkX9_109 [] [0] (br := [bMod G x xs xb xm xf xu xg xw kn bl ft vh vm vs ln 0 sp pl wr br aS aB aM aO aU aG aW]) rfl rfl (by decide) rfl rfl (Nat.le_of_ble_eq_true rfl) hl.1 dX9_insert_6 ⟨Nat.le_of_ble_eq_true rfl, Nat.le_of_ble_eq_true rfl⟩ ⟨Nat.le_of_ble_eq_true rfl, Nat.le_of_ble_eq_true rfl⟩ (fun u9 H locs hp9 hP hD hS => ?_)
    have hP : wP G [bMod G x xs xb xm xf xu xg xw kn bl ft vh vm vs ln 0 sp pl wr br aS aB aM aO aU aG aW] H := hP
    have hD : wD A [bMod G x xs xb xm xf xu xg xw kn bl ft vh vm vs ln 0 sp pl wr br aS aB aM aO aU aG aW] := hD
    show W p l e rmX9_insert_3 s m args below meth c H locs 0 0 Q (F0 m 9 ls [.int (jz 1)])
    refine jv_if_eq (tgt := 26) hx hb dX9_insert_9 (by decide) (by omega) (fun c_2 => ?_) (fun c_2 => ?_)
    · exfalso; omega
    · refine lv_iload_n hx hb dX9_insert_12 rfl (lv_at hl 2 rfl) ?_
      refine jv_iconst hx hb dX9_insert_13 ?_
      refine lv_aload_n hx hb dX9_insert_14 rfl (lv_at hl 0 rfl) ?_
      refine va_get (ci := 9) (v := .ref xs) (C := RX9) (T := TX9) (N := 19) hx hb hts wfX9 hown hK.1 hP 0 rfl rfl 0 (by decide) (hts _ wm810) (fun _ h9 => h9) rfl dX9_insert_15 ?_
      refine lv_iload_n hx hb dX9_insert_18 rfl (lv_at hl 1 rfl) ?_
      refine jv_iald hx hb hK.1 hP 1 (g := aS) rfl (by omega) (by omega) (by decide) dX9_insert_19 ?_
      refine kS ⟨hx, hb, hml, hown, hts⟩ hK hA hS hP hD [.int (jz i), .int (jz 0), .int (jz (aS z))] [] (mX9_in_T l G i 0 (aS z) (by omega) (by omega) (by omega) (by omega)) lkX9_42 [] [0] (br := [bMod G x xs xb xm xf xu xg xw kn bl ft vh vm vs ln 0 sp pl wr br aS aB aM aO aU aG aW]) rfl rfl (by decide) rfl rfl (Nat.le_of_ble_eq_true rfl) hl.1 dX9_insert_20 ⟨Nat.le_of_ble_eq_true rfl, Nat.le_of_ble_eq_true rfl⟩ ⟨Nat.le_of_ble_eq_true rfl, Nat.le_of_ble_eq_true rfl⟩ (fun u9 H locs hp9 hP hD hS => ?_)
      have hP : wP G [bMod G x xs xb xm xf xu xg xw kn bl ft vh vm vs ln 0 sp pl wr br aS aB aM aO aU aG aW] H := hP
      have hD : wD A [bMod G x xs xb xm xf xu xg xw kn bl ft vh vm vs ln 0 sp pl wr br aS aB aM aO aU aG aW] := hD
      show W p l e rmX9_insert_3 s m args below meth c H locs 0 0 Q (F0 m 23 ls [.int (jz 1)])
      refine jv_if_ne (tgt := 32) hx hb dX9_insert_23 (by decide) (by omega) (fun c_4 => ?_) (fun c_4 => ?_)
      · refine lv_aload_n hx hb dX9_insert_32 rfl (lv_at hl 0 rfl) ?_
        refine lv_iload_n hx hb dX9_insert_33 rfl (lv_at hl 3 rfl) ?_
        refine kV ⟨hx, hb, hml, hown, hts⟩ hK hA hS hP hD [.int (jz v)] [] (mX9_isLetter_T l G x xs xb xm xf xu xg xw kn bl ft vh vm vs ln 0 sp pl wr br aS aB aM aO aU aG aW v (by omega) (by omega)) lkX9_102 [0] [] (br := []) rfl rfl (by decide) 0 9 rfl rfl rfl rfl (Nat.le_of_ble_eq_true rfl) hl.1 dX9_insert_34 ⟨Nat.le_of_ble_eq_true rfl, Nat.le_of_ble_eq_true rfl⟩ ⟨Nat.le_of_ble_eq_true rfl, Nat.le_of_ble_eq_true rfl⟩ (fun u9 H locs hp9 hP hD hS => ?_)
        have hP : wP G [bMod G x xs xb xm xf xu xg xw kn bl ft vh vm vs ln 0 sp pl wr br aS aB aM aO aU aG aW] H := hP
        have hD : wD A [bMod G x xs xb xm xf xu xg xw kn bl ft vh vm vs ln 0 sp pl wr br aS aB aM aO aU aG aW] := hD
        show W p l e rmX9_insert_3 s m args below meth c H locs 0 0 Q (F0 m 37 ls [.int (jz 1)])
        refine jv_if_ne (tgt := 46) hx hb dX9_insert_37 (by decide) (by omega) (fun c_6 => ?_) (fun c_6 => ?_)
        · refine lv_aload_n hx hb dX9_insert_46 rfl (lv_at hl 0 rfl) ?_
          refine va_get (ci := 9) (v := .ref xs) (C := RX9) (T := TX9) (N := 19) hx hb hts wfX9 hown hK.1 hP 0 rfl rfl 0 (by decide) (hts _ wm810) (fun _ h9 => h9) rfl dX9_insert_47 ?_
          refine lv_iload_n hx hb dX9_insert_50 rfl (lv_at hl 1 rfl) ?_
          refine jv_iald hx hb hK.1 hP 1 (g := aS) rfl (by omega) (by omega) (by decide) dX9_insert_51 ?_
          refine jv_bipush hx hb dX9_insert_52 (by decide) ?_
          refine jv_icmp_ne (tgt := 63) hx hb dX9_insert_54 (by decide) (by omega) (by omega) (fun c_7 => ?_) (fun c_7 => ?_)
          · exfalso; omega
          · refine lv_aload_n hx hb dX9_insert_57 rfl (lv_at hl 0 rfl) ?_
            refine jv_iconst hx hb dX9_insert_58 ?_
            refine kV ⟨hx, hb, hml, hown, hts⟩ hK hA hS hP hD [.int (jz 3)] [] (mX9_throwing l G x xs xb xm xf xu xg xw kn bl ft vh vm vs ln 0 sp pl wr br aS aB aM aO aU aG aW 3 ) lkX9_98 [0] [] (br := []) rfl rfl (by decide) 0 9 rfl rfl rfl rfl (Nat.le_of_ble_eq_true rfl) hl.1 dX9_insert_59 ⟨Nat.le_of_ble_eq_true rfl, Nat.le_of_ble_eq_true rfl⟩ ⟨Nat.le_of_ble_eq_true rfl, Nat.le_of_ble_eq_true rfl⟩ (fun u9 H locs hp9 hP hD hS => ?_)
            have hP : wP G [bMod G x xs xb xm xf xu xg xw kn bl ft vh vm vs ln 3 sp pl wr br aS aB aM aO aU aG aW] H := hP
            have hD : wD A [bMod G x xs xb xm xf xu xg xw kn bl ft vh vm vs ln 3 sp pl wr br aS aB aM aO aU aG aW] := hD
            show W p l e rmX9_insert_3 s m args below meth c H locs 0 0 Q (F0 m 62 ls [.int (jz 0)])
            exact cret_i hx hb hr hlocks hS hP hD (Nat.le_of_ble_eq_true rfl) (Nat.le_of_ble_eq_true rfl) rfl dX9_insert_62 [0] (by decide) () rfl trivial (congrArg (fun z : Int => some (Value.int (jz z))) (show 0 = 0 from by first | rfl | omega | (split <;> first | rfl | omega | (exfalso; omega)))) hQ
        · exfalso; omega
      · exfalso; omega
  exact KH s.heap [] hP hD hS
abbrev rmX9_replace : Room := { frames := 2, cells := 0, slots := 0, locals := 43 }
set_option maxHeartbeats 4000000 in
set_option maxRecDepth 100000 in
theorem mX9_replace (l : Launch) (G : GG) (x : Nat) (xs : Nat) (xb : Nat) (xm : Nat) (xf : Nat) (xu : Nat) (xg : Nat) (xw : Nat) (kn : Int) (bl : Int) (ft : Int) (vh : Int) (vm : Int) (vs : Int) (ln : Int) (th : Int) (sp : Int) (pl : Int) (wr : Int) (br : Int) (aS : Int → Int) (aB : Int → Int) (aM : Int → Int) (aO : Int → Int) (aU : Int → Int) (aG : Int → Int) (aW : Int → Int) (z : Int) (i : Int) (v : Int) (hs0 : 0 ≤ aS 0 ∧ aS 0 ≤ 20) (hs1 : 0 ≤ aS 1 ∧ aS 1 ≤ 20) (hs2 : 2 ≤ aS 2 ∧ aS 2 ≤ 4) (hz : 0 ≤ z ∧ z ≤ 1) (hi : 0 ≤ i ∧ i ≤ aS z - 1) (hv : 0 ≤ v ∧ v < aS 2) (hkn : 0 ≤ kn ∧ kn ≤ 6) : Ct l yX9_replace cX9_replace 5 (some .int) rmX9_replace G [.ref x, .int (jz z), .int (jz i), .int (jz v)] [bMod G x xs xb xm xf xu xg xw kn bl ft vh vm vs ln th sp pl wr br aS aB aM aO aU aG aW] (fun uo : Int × (Int → Int) × (Int → Int) => some (.int (jz (T9 aS z i)))) (fun uo => ((uo.1 = min (kn + 1) 6) ∧ (∀ k : Int, 0 ≤ k → k < 43 * (uo.1 - 1) → uo.2.1 k = aB (k + 43 * (kn + 1 - uo.1))) ∧ (∀ k : Int, 0 ≤ k → k < 43 → uo.2.1 (43 * (uo.1 - 1) + k) = aS k)) ∧ (∀ q : Int, 0 ≤ q → q < 20 → T9 uo.2.2 z q = (up (T9 aS z) i v) q) ∧ (∀ q : Int, 0 ≤ q → q < 20 → T9 uo.2.2 (1 - z) q = T9 aS (1 - z) q) ∧ (uo.2.2 z = aS z ∧ uo.2.2 (1 - z) = aS (1 - z) ∧ uo.2.2 2 = aS 2)) (fun uo => [bMod G x xs xb xm xf xu xg xw uo.1 bl ft vh vm vs ln 0 sp pl wr br uo.2.2 uo.2.1 aM aO aU aG aW]) := by
  refine cof (by decide) (Nat.le_of_ble_eq_true rfl) ?_
  intro p e s m args below meth c A ls hx hb hr hml hown hts hlocks hin hA hK hP hD hS hl Q hQ
  have hown : s.vm.findClass RX9 = some m.cls := hown
  have hl : lv_has ls 5 [(0, .ref x), (1, .int (jz z)), (2, .int (jz i)), (3, .int (jz v))] := hl
  have KH : ∀ (H : Heap) (locs : List Loc), wP G [bMod G x xs xb xm xf xu xg xw kn bl ft vh vm vs ln th sp pl wr br aS aB aM aO aU aG aW] H → wD A [bMod G x xs xb xm xf xu xg xw kn bl ft vh vm vs ln th sp pl wr br aS aB aM aO aU aG aW] → va_S A s.heap H locs → W p l e rmX9_replace s m args below meth c H locs 0 0 Q (F0 m 0 ls []) := by
    intro H locs hP hD hS
    have hsz : 0 ≤ z → z ≤ 1 → 0 ≤ aS z ∧ aS z ≤ 20 := by intro q1 q2; rcases (show z = 0 ∨ z = 1 by omega) with e9 | e9 <;> rw [e9] <;> assumption
    have hsz9 := hsz hz.1 hz.2
    refine lv_aload_n hx hb dX9_replace_0 rfl (lv_at hl 0 rfl) ?_
    refine jv_iconst hx hb dX9_replace_1 ?_
    refine va_put (ci := 9) (v := .int (jz 0)) (ty := .int) (C := RX9) (T := TX9) (N := 19) hx hb hts wfX9 tyX9 tyX9_ok nmX9 hown hK.1 hP hD hS 0 rfl rfl 12 (by decide) (hts _ wm822) (fun _ h9 => h9) rfl (by decide +kernel) rfl rfl (Nat.le_of_ble_eq_true rfl) dX9_replace_2 (fun H locs hP hD hS => ?_)
    have hP : wP G [bMod G x xs xb xm xf xu xg xw kn bl ft vh vm vs ln 0 sp pl wr br aS aB aM aO aU aG aW] H := hP
    have hD : wD A [bMod G x xs xb xm xf xu xg xw kn bl ft vh vm vs ln 0 sp pl wr br aS aB aM aO aU aG aW] := hD
    refine lv_iload_n hx hb dX9_replace_5 rfl (lv_at hl 1 rfl) ?_
    refine kS ⟨hx, hb, hml, hown, hts⟩ hK hA hS hP hD [.int (jz z)] [] (mX9_isText_T l G z (by omega)) lkX9_109 [] [0] (br := [bMod G x xs xb xm xf xu xg xw kn bl ft vh vm vs ln 0 sp pl wr br aS aB aM aO aU aG aW]) rfl rfl (by decide) rfl rfl (Nat.le_of_ble_eq_true rfl) hl.1 dX9_replace_6 ⟨Nat.le_of_ble_eq_true rfl, Nat.le_of_ble_eq_true rfl⟩ ⟨Nat.le_of_ble_eq_true rfl, Nat.le_of_ble_eq_true rfl⟩ (fun u9 H locs hp9 hP hD hS => ?_)
    have hP : wP G [bMod G x xs xb xm xf xu xg xw kn bl ft vh vm vs ln 0 sp pl wr br aS aB aM aO aU aG aW] H := hP
    have hD : wD A [bMod G x xs xb xm xf xu xg xw kn bl ft vh vm vs ln 0 sp pl wr br aS aB aM aO aU aG aW] := hD
    show W p l e rmX9_replace s m args below meth c H locs 0 0 Q (F0 m 9 ls [.int (jz 1)])
    refine jv_if_eq (tgt := 28) hx hb dX9_replace_9 (by decide) (by omega) (fun c_2 => ?_) (fun c_2 => ?_)
    · exfalso; omega
    · refine lv_iload_n hx hb dX9_replace_12 rfl (lv_at hl 2 rfl) ?_
      refine jv_iconst hx hb dX9_replace_13 ?_
      refine lv_aload_n hx hb dX9_replace_14 rfl (lv_at hl 0 rfl) ?_
      refine va_get (ci := 9) (v := .ref xs) (C := RX9) (T := TX9) (N := 19) hx hb hts wfX9 hown hK.1 hP 0 rfl rfl 0 (by decide) (hts _ wm810) (fun _ h9 => h9) rfl dX9_replace_15 ?_
      refine lv_iload_n hx hb dX9_replace_18 rfl (lv_at hl 1 rfl) ?_
      refine jv_iald hx hb hK.1 hP 1 (g := aS) rfl (by omega) (by omega) (by decide) dX9_replace_19 ?_
      refine jv_iconst hx hb dX9_replace_20 ?_
      refine jv_isub hx hb dX9_replace_21 ?_
      refine kS ⟨hx, hb, hml, hown, hts⟩ hK hA hS hP hD [.int (jz i), .int (jz 0), .int (jz ((aS z) - 1))] [] (mX9_in_T l G i 0 ((aS z) - 1) (by omega) (by omega) (by omega) (by omega)) lkX9_42 [] [0] (br := [bMod G x xs xb xm xf xu xg xw kn bl ft vh vm vs ln 0 sp pl wr br aS aB aM aO aU aG aW]) rfl rfl (by decide) rfl rfl (Nat.le_of_ble_eq_true rfl) hl.1 dX9_replace_22 ⟨Nat.le_of_ble_eq_true rfl, Nat.le_of_ble_eq_true rfl⟩ ⟨Nat.le_of_ble_eq_true rfl, Nat.le_of_ble_eq_true rfl⟩ (fun u9 H locs hp9 hP hD hS => ?_)
      have hP : wP G [bMod G x xs xb xm xf xu xg xw kn bl ft vh vm vs ln 0 sp pl wr br aS aB aM aO aU aG aW] H := hP
      have hD : wD A [bMod G x xs xb xm xf xu xg xw kn bl ft vh vm vs ln 0 sp pl wr br aS aB aM aO aU aG aW] := hD
      show W p l e rmX9_replace s m args below meth c H locs 0 0 Q (F0 m 25 ls [.int (jz 1)])
      refine jv_if_ne (tgt := 34) hx hb dX9_replace_25 (by decide) (by omega) (fun c_4 => ?_) (fun c_4 => ?_)
      · refine lv_aload_n hx hb dX9_replace_34 rfl (lv_at hl 0 rfl) ?_
        refine lv_iload_n hx hb dX9_replace_35 rfl (lv_at hl 3 rfl) ?_
        refine kV ⟨hx, hb, hml, hown, hts⟩ hK hA hS hP hD [.int (jz v)] [] (mX9_isLetter_T l G x xs xb xm xf xu xg xw kn bl ft vh vm vs ln 0 sp pl wr br aS aB aM aO aU aG aW v (by omega) (by omega)) lkX9_102 [0] [] (br := []) rfl rfl (by decide) 0 9 rfl rfl rfl rfl (Nat.le_of_ble_eq_true rfl) hl.1 dX9_replace_36 ⟨Nat.le_of_ble_eq_true rfl, Nat.le_of_ble_eq_true rfl⟩ ⟨Nat.le_of_ble_eq_true rfl, Nat.le_of_ble_eq_true rfl⟩ (fun u9 H locs hp9 hP hD hS => ?_)
        have hP : wP G [bMod G x xs xb xm xf xu xg xw kn bl ft vh vm vs ln 0 sp pl wr br aS aB aM aO aU aG aW] H := hP
        have hD : wD A [bMod G x xs xb xm xf xu xg xw kn bl ft vh vm vs ln 0 sp pl wr br aS aB aM aO aU aG aW] := hD
        show W p l e rmX9_replace s m args below meth c H locs 0 0 Q (F0 m 39 ls [.int (jz 1)])
        refine jv_if_ne (tgt := 48) hx hb dX9_replace_39 (by decide) (by omega) (fun c_6 => ?_) (fun c_6 => ?_)
        · refine lv_aload_n hx hb dX9_replace_48 rfl (lv_at hl 0 rfl) ?_
          refine kV ⟨hx, hb, hml, hown, hts⟩ hK hA hS hP hD [] [] (mX9_save l G x xs xb xm xf xu xg xw kn bl ft vh vm vs ln 0 sp pl wr br aS aB aM aO aU aG aW (by omega)) lkX9_106 [0] [] (br := []) rfl rfl (by decide) 0 9 rfl rfl rfl rfl (Nat.le_of_ble_eq_true rfl) hl.1 dX9_replace_49 ⟨Nat.le_of_ble_eq_true rfl, Nat.le_of_ble_eq_true rfl⟩ ⟨Nat.le_of_ble_eq_true rfl, Nat.le_of_ble_eq_true rfl⟩ (fun u9 H locs hp9 hP hD hS => ?_)
          obtain ⟨u_7, u_8⟩ := u9
          have hc_9 : u_7 = min (kn + 1) 6 := hp9.1
          have hd_10 : ∀ k : Int, 0 ≤ k → k < 43 * (u_7 - 1) → u_8 k = aB (k + 43 * (kn + 1 - u_7)) := hp9.2.1
          have hf_11 : ∀ k : Int, 0 ≤ k → k < 43 → u_8 (43 * (u_7 - 1) + k) = aS k := hp9.2.2
          have hP : wP G [bMod G x xs xb xm xf xu xg xw u_7 bl ft vh vm vs ln 0 sp pl wr br aS u_8 aM aO aU aG aW] H := hP
          have hD : wD A [bMod G x xs xb xm xf xu xg xw u_7 bl ft vh vm vs ln 0 sp pl wr br aS u_8 aM aO aU aG aW] := hD
          show W p l e rmX9_replace s m args below meth c H locs 0 0 Q (F0 m 52 ls [])
          have hsvp := And.intro hc_9 (And.intro hd_10 hf_11)
          refine lv_aload_n hx hb dX9_replace_52 rfl (lv_at hl 0 rfl) ?_
          refine lv_iload_n hx hb dX9_replace_53 rfl (lv_at hl 1 rfl) ?_
          refine lv_iload_n hx hb dX9_replace_54 rfl (lv_at hl 2 rfl) ?_
          refine kV ⟨hx, hb, hml, hown, hts⟩ hK hA hS hP hD [.int (jz z), .int (jz i)] [] (mX9_of l G x xs xb xm xf xu xg xw u_7 bl ft vh vm vs ln 0 sp pl wr br aS u_8 aM aO aU aG aW z i (by omega) (by omega)) lkX9_46 [0] [] (br := []) rfl rfl (by decide) 0 9 rfl rfl rfl rfl (Nat.le_of_ble_eq_true rfl) hl.1 dX9_replace_55 ⟨Nat.le_of_ble_eq_true rfl, Nat.le_of_ble_eq_true rfl⟩ ⟨Nat.le_of_ble_eq_true rfl, Nat.le_of_ble_eq_true rfl⟩ (fun u9 H locs hp9 hP hD hS => ?_)
          have hP : wP G [bMod G x xs xb xm xf xu xg xw u_7 bl ft vh vm vs ln 0 sp pl wr br aS u_8 aM aO aU aG aW] H := hP
          have hD : wD A [bMod G x xs xb xm xf xu xg xw u_7 bl ft vh vm vs ln 0 sp pl wr br aS u_8 aM aO aU aG aW] := hD
          show W p l e rmX9_replace s m args below meth c H locs 0 0 Q (F0 m 58 ls [.int (jz (T9 aS z i))])
          refine lv_istore (lv' := [(4, .int (jz (T9 aS z i))), (0, .ref x), (1, .int (jz z)), (2, .int (jz i)), (3, .int (jz v))]) hx hb dX9_replace_58 hl (by decide) rfl (fun ls hl => ?_)
          refine lv_aload_n hx hb dX9_replace_60 rfl (lv_at hl 1 rfl) ?_
          refine va_get (ci := 9) (v := .ref xs) (C := RX9) (T := TX9) (N := 19) hx hb hts wfX9 hown hK.1 hP 0 rfl rfl 0 (by decide) (hts _ wm810) (fun _ h9 => h9) rfl dX9_replace_61 ?_
          refine jv_iconst hx hb dX9_replace_64 ?_
          refine jv_bipush hx hb dX9_replace_65 (by decide) ?_
          refine lv_iload_n hx hb dX9_replace_67 rfl (lv_at hl 2 rfl) ?_
          refine jv_imul hx hb dX9_replace_68 ?_
          refine jv_iadd hx hb dX9_replace_69 ?_
          refine lv_iload_n hx hb dX9_replace_70 rfl (lv_at hl 3 rfl) ?_
          refine jv_iadd hx hb dX9_replace_71 ?_
          refine lv_iload_n hx hb dX9_replace_72 rfl (lv_at hl 4 rfl) ?_
          refine jv_iast hx hb hK.1 hP hD hS 1 (g := aS) rfl (by omega) (by omega) (by decide) dX9_replace_73 (fun H locs hP hD hS => ?_)
          have hP : wP G [bMod G x xs xb xm xf xu xg xw u_7 bl ft vh vm vs ln 0 sp pl wr br (up aS ((3 + (20 * z)) + i) v) u_8 aM aO aU aG aW] H := hP
          have hD : wD A [bMod G x xs xb xm xf xu xg xw u_7 bl ft vh vm vs ln 0 sp pl wr br (up aS ((3 + (20 * z)) + i) v) u_8 aM aO aU aG aW] := hD
          refine lv_iload hx hb dX9_replace_74 (lv_at hl 0 rfl) ?_
          exact cret_i hx hb hr hlocks hS hP hD (Nat.le_of_ble_eq_true rfl) (Nat.le_of_ble_eq_true rfl) rfl dX9_replace_76 [0] (by decide) ⟨u_7, u_8, up aS ((3 + (20 * z)) + i) v⟩ rfl ⟨(show (u_7 = min (kn + 1) 6) ∧ (∀ k : Int, 0 ≤ k → k < 43 * (u_7 - 1) → u_8 k = aB (k + 43 * (kn + 1 - u_7))) ∧ (∀ k : Int, 0 ≤ k → k < 43 → u_8 (43 * (u_7 - 1) + k) = aS k) from by exact hsvp), (show ∀ q : Int, 0 ≤ q → q < 20 → T9 (up aS ((3 + (20 * z)) + i) v) z q = (up (T9 aS z) i v) q from by intro q q1 q2; exact t9_up), (show ∀ q : Int, 0 ≤ q → q < 20 → T9 (up aS ((3 + (20 * z)) + i) v) (1 - z) q = T9 aS (1 - z) q from by intro q q1 q2; exact t9_o hz (by omega) q1 q2), (show (up aS ((3 + (20 * z)) + i) v) z = aS z ∧ (up aS ((3 + (20 * z)) + i) v) (1 - z) = aS (1 - z) ∧ (up aS ((3 + (20 * z)) + i) v) 2 = aS 2 from by exact ⟨up_low (by omega) (by omega), up_low (by omega) (by omega), up_low (by omega) (by omega)⟩)⟩ (congrArg (fun z : Int => some (Value.int (jz z))) (show (T9 aS z i) = T9 aS z i from by first | rfl | omega | (split <;> first | rfl | omega | (exfalso; omega)))) hQ
        · exfalso; omega
      · exfalso; omega
  exact KH s.heap [] hP hD hS
abbrev rmX9_insert : Room := { frames := 2, cells := 0, slots := 0, locals := 43 }
set_option maxHeartbeats 4000000 in
set_option maxRecDepth 100000 in
theorem mX9_insert (l : Launch) (G : GG) (x : Nat) (xs : Nat) (xb : Nat) (xm : Nat) (xf : Nat) (xu : Nat) (xg : Nat) (xw : Nat) (kn : Int) (bl : Int) (ft : Int) (vh : Int) (vm : Int) (vs : Int) (ln : Int) (th : Int) (sp : Int) (pl : Int) (wr : Int) (br : Int) (aS : Int → Int) (aB : Int → Int) (aM : Int → Int) (aO : Int → Int) (aU : Int → Int) (aG : Int → Int) (aW : Int → Int) (z : Int) (i : Int) (v : Int) (hs0 : 0 ≤ aS 0 ∧ aS 0 ≤ 20) (hs1 : 0 ≤ aS 1 ∧ aS 1 ≤ 20) (hs2 : 2 ≤ aS 2 ∧ aS 2 ≤ 4) (hz : 0 ≤ z ∧ z ≤ 1) (hi : 0 ≤ i ∧ i ≤ aS z) (hv : 0 ≤ v ∧ v < aS 2) (hkn : 0 ≤ kn ∧ kn ≤ 6) (hroom : aS z < 20) : Ct l yX9_insert cX9_insert 5 (some .int) rmX9_insert G [.ref x, .int (jz z), .int (jz i), .int (jz v)] [bMod G x xs xb xm xf xu xg xw kn bl ft vh vm vs ln th sp pl wr br aS aB aM aO aU aG aW] (fun uo : Int × (Int → Int) × (Int → Int) => some (.int (jz (aS z + 1)))) (fun uo => ((uo.1 = min (kn + 1) 6) ∧ (∀ k : Int, 0 ≤ k → k < 43 * (uo.1 - 1) → uo.2.1 k = aB (k + 43 * (kn + 1 - uo.1))) ∧ (∀ k : Int, 0 ≤ k → k < 43 → uo.2.1 (43 * (uo.1 - 1) + k) = aS k)) ∧ (∀ q : Int, 0 ≤ q → q < 20 → T9 uo.2.2 z q = insF (T9 aS z) i (aS z) v q) ∧ (∀ q : Int, 0 ≤ q → q < 20 → T9 uo.2.2 (1 - z) q = T9 aS (1 - z) q) ∧ (uo.2.2 z = aS z + 1 ∧ uo.2.2 (1 - z) = aS (1 - z) ∧ uo.2.2 2 = aS 2)) (fun uo => [bMod G x xs xb xm xf xu xg xw uo.1 bl ft vh vm vs ln 0 sp pl wr br uo.2.2 uo.2.1 aM aO aU aG aW]) := by
  refine cof (by decide) (Nat.le_of_ble_eq_true rfl) ?_
  intro p e s m args below meth c A ls hx hb hr hml hown hts hlocks hin hA hK hP hD hS hl Q hQ
  have hown : s.vm.findClass RX9 = some m.cls := hown
  have hl : lv_has ls 5 [(0, .ref x), (1, .int (jz z)), (2, .int (jz i)), (3, .int (jz v))] := hl
  have KH : ∀ (H : Heap) (locs : List Loc), wP G [bMod G x xs xb xm xf xu xg xw kn bl ft vh vm vs ln th sp pl wr br aS aB aM aO aU aG aW] H → wD A [bMod G x xs xb xm xf xu xg xw kn bl ft vh vm vs ln th sp pl wr br aS aB aM aO aU aG aW] → va_S A s.heap H locs → W p l e rmX9_insert s m args below meth c H locs 0 0 Q (F0 m 0 ls []) := by
    intro H locs hP hD hS
    have hsz : 0 ≤ z → z ≤ 1 → 0 ≤ aS z ∧ aS z ≤ 20 := by intro q1 q2; rcases (show z = 0 ∨ z = 1 by omega) with e9 | e9 <;> rw [e9] <;> assumption
    have hsz9 := hsz hz.1 hz.2
    refine lv_aload_n hx hb dX9_insert_0 rfl (lv_at hl 0 rfl) ?_
    refine jv_iconst hx hb dX9_insert_1 ?_
    refine va_put (ci := 9) (v := .int (jz 0)) (ty := .int) (C := RX9) (T := TX9) (N := 19) hx hb hts wfX9 tyX9 tyX9_ok nmX9 hown hK.1 hP hD hS 0 rfl rfl 12 (by decide) (hts _ wm822) (fun _ h9 => h9) rfl (by decide +kernel) rfl rfl (Nat.le_of_ble_eq_true rfl) dX9_insert_2 (fun H locs hP hD hS => ?_)
    have hP : wP G [bMod G x xs xb xm xf xu xg xw kn bl ft vh vm vs ln 0 sp pl wr br aS aB aM aO aU aG aW] H := hP
    have hD : wD A [bMod G x xs xb xm xf xu xg xw kn bl ft vh vm vs ln 0 sp pl wr br aS aB aM aO aU aG aW] := hD
    refine lv_iload_n hx hb dX9_insert_5 rfl (lv_at hl 1 rfl) ?_
    refine kS ⟨hx, hb, hml, hown, hts⟩ hK hA hS hP hD [.int (jz z)] [] (mX9_isText_T l G z (by omega)) lkX9_109 [] [0] (br := [bMod G x xs xb xm xf xu xg xw kn bl ft vh vm vs ln 0 sp pl wr br aS aB aM aO aU aG aW]) rfl rfl (by decide) rfl rfl (Nat.le_of_ble_eq_true rfl) hl.1 dX9_insert_6 ⟨Nat.le_of_ble_eq_true rfl, Nat.le_of_ble_eq_true rfl⟩ ⟨Nat.le_of_ble_eq_true rfl, Nat.le_of_ble_eq_true rfl⟩ (fun u9 H locs hp9 hP hD hS => ?_)
    have hP : wP G [bMod G x xs xb xm xf xu xg xw kn bl ft vh vm vs ln 0 sp pl wr br aS aB aM aO aU aG aW] H := hP
    have hD : wD A [bMod G x xs xb xm xf xu xg xw kn bl ft vh vm vs ln 0 sp pl wr br aS aB aM aO aU aG aW] := hD
    show W p l e rmX9_insert s m args below meth c H locs 0 0 Q (F0 m 9 ls [.int (jz 1)])
    refine jv_if_eq (tgt := 26) hx hb dX9_insert_9 (by decide) (by omega) (fun c_2 => ?_) (fun c_2 => ?_)
    · exfalso; omega
    · refine lv_iload_n hx hb dX9_insert_12 rfl (lv_at hl 2 rfl) ?_
      refine jv_iconst hx hb dX9_insert_13 ?_
      refine lv_aload_n hx hb dX9_insert_14 rfl (lv_at hl 0 rfl) ?_
      refine va_get (ci := 9) (v := .ref xs) (C := RX9) (T := TX9) (N := 19) hx hb hts wfX9 hown hK.1 hP 0 rfl rfl 0 (by decide) (hts _ wm810) (fun _ h9 => h9) rfl dX9_insert_15 ?_
      refine lv_iload_n hx hb dX9_insert_18 rfl (lv_at hl 1 rfl) ?_
      refine jv_iald hx hb hK.1 hP 1 (g := aS) rfl (by omega) (by omega) (by decide) dX9_insert_19 ?_
      refine kS ⟨hx, hb, hml, hown, hts⟩ hK hA hS hP hD [.int (jz i), .int (jz 0), .int (jz (aS z))] [] (mX9_in_T l G i 0 (aS z) (by omega) (by omega) (by omega) (by omega)) lkX9_42 [] [0] (br := [bMod G x xs xb xm xf xu xg xw kn bl ft vh vm vs ln 0 sp pl wr br aS aB aM aO aU aG aW]) rfl rfl (by decide) rfl rfl (Nat.le_of_ble_eq_true rfl) hl.1 dX9_insert_20 ⟨Nat.le_of_ble_eq_true rfl, Nat.le_of_ble_eq_true rfl⟩ ⟨Nat.le_of_ble_eq_true rfl, Nat.le_of_ble_eq_true rfl⟩ (fun u9 H locs hp9 hP hD hS => ?_)
      have hP : wP G [bMod G x xs xb xm xf xu xg xw kn bl ft vh vm vs ln 0 sp pl wr br aS aB aM aO aU aG aW] H := hP
      have hD : wD A [bMod G x xs xb xm xf xu xg xw kn bl ft vh vm vs ln 0 sp pl wr br aS aB aM aO aU aG aW] := hD
      show W p l e rmX9_insert s m args below meth c H locs 0 0 Q (F0 m 23 ls [.int (jz 1)])
      refine jv_if_ne (tgt := 32) hx hb dX9_insert_23 (by decide) (by omega) (fun c_4 => ?_) (fun c_4 => ?_)
      · refine lv_aload_n hx hb dX9_insert_32 rfl (lv_at hl 0 rfl) ?_
        refine lv_iload_n hx hb dX9_insert_33 rfl (lv_at hl 3 rfl) ?_
        refine kV ⟨hx, hb, hml, hown, hts⟩ hK hA hS hP hD [.int (jz v)] [] (mX9_isLetter_T l G x xs xb xm xf xu xg xw kn bl ft vh vm vs ln 0 sp pl wr br aS aB aM aO aU aG aW v (by omega) (by omega)) lkX9_102 [0] [] (br := []) rfl rfl (by decide) 0 9 rfl rfl rfl rfl (Nat.le_of_ble_eq_true rfl) hl.1 dX9_insert_34 ⟨Nat.le_of_ble_eq_true rfl, Nat.le_of_ble_eq_true rfl⟩ ⟨Nat.le_of_ble_eq_true rfl, Nat.le_of_ble_eq_true rfl⟩ (fun u9 H locs hp9 hP hD hS => ?_)
        have hP : wP G [bMod G x xs xb xm xf xu xg xw kn bl ft vh vm vs ln 0 sp pl wr br aS aB aM aO aU aG aW] H := hP
        have hD : wD A [bMod G x xs xb xm xf xu xg xw kn bl ft vh vm vs ln 0 sp pl wr br aS aB aM aO aU aG aW] := hD
        show W p l e rmX9_insert s m args below meth c H locs 0 0 Q (F0 m 37 ls [.int (jz 1)])
        refine jv_if_ne (tgt := 46) hx hb dX9_insert_37 (by decide) (by omega) (fun c_6 => ?_) (fun c_6 => ?_)
        · refine lv_aload_n hx hb dX9_insert_46 rfl (lv_at hl 0 rfl) ?_
          refine va_get (ci := 9) (v := .ref xs) (C := RX9) (T := TX9) (N := 19) hx hb hts wfX9 hown hK.1 hP 0 rfl rfl 0 (by decide) (hts _ wm810) (fun _ h9 => h9) rfl dX9_insert_47 ?_
          refine lv_iload_n hx hb dX9_insert_50 rfl (lv_at hl 1 rfl) ?_
          refine jv_iald hx hb hK.1 hP 1 (g := aS) rfl (by omega) (by omega) (by decide) dX9_insert_51 ?_
          refine jv_bipush hx hb dX9_insert_52 (by decide) ?_
          refine jv_icmp_ne (tgt := 63) hx hb dX9_insert_54 (by decide) (by omega) (by omega) (fun c_7 => ?_) (fun c_7 => ?_)
          · refine lv_aload_n hx hb dX9_insert_63 rfl (lv_at hl 0 rfl) ?_
            refine kV ⟨hx, hb, hml, hown, hts⟩ hK hA hS hP hD [] [] (mX9_save l G x xs xb xm xf xu xg xw kn bl ft vh vm vs ln 0 sp pl wr br aS aB aM aO aU aG aW (by omega)) lkX9_106 [0] [] (br := []) rfl rfl (by decide) 0 9 rfl rfl rfl rfl (Nat.le_of_ble_eq_true rfl) hl.1 dX9_insert_64 ⟨Nat.le_of_ble_eq_true rfl, Nat.le_of_ble_eq_true rfl⟩ ⟨Nat.le_of_ble_eq_true rfl, Nat.le_of_ble_eq_true rfl⟩ (fun u9 H locs hp9 hP hD hS => ?_)
            obtain ⟨u_8, u_9⟩ := u9
            have hc_10 : u_8 = min (kn + 1) 6 := hp9.1
            have hd_11 : ∀ k : Int, 0 ≤ k → k < 43 * (u_8 - 1) → u_9 k = aB (k + 43 * (kn + 1 - u_8)) := hp9.2.1
            have hf_12 : ∀ k : Int, 0 ≤ k → k < 43 → u_9 (43 * (u_8 - 1) + k) = aS k := hp9.2.2
            have hP : wP G [bMod G x xs xb xm xf xu xg xw u_8 bl ft vh vm vs ln 0 sp pl wr br aS u_9 aM aO aU aG aW] H := hP
            have hD : wD A [bMod G x xs xb xm xf xu xg xw u_8 bl ft vh vm vs ln 0 sp pl wr br aS u_9 aM aO aU aG aW] := hD
            show W p l e rmX9_insert s m args below meth c H locs 0 0 Q (F0 m 67 ls [])
            have hsvp := And.intro hc_10 (And.intro hd_11 hf_12)
            refine lv_aload_n hx hb dX9_insert_67 rfl (lv_at hl 0 rfl) ?_
            refine va_get (ci := 9) (v := .ref xs) (C := RX9) (T := TX9) (N := 19) hx hb hts wfX9 hown hK.1 hP 0 rfl rfl 0 (by decide) (hts _ wm810) (fun _ h9 => h9) rfl dX9_insert_68 ?_
            refine lv_iload_n hx hb dX9_insert_71 rfl (lv_at hl 1 rfl) ?_
            refine jv_iald hx hb hK.1 hP 1 (g := aS) rfl (by omega) (by omega) (by decide) dX9_insert_72 ?_
            refine lv_istore (lv' := [(4, .int (jz (aS z))), (0, .ref x), (1, .int (jz z)), (2, .int (jz i)), (3, .int (jz v))]) hx hb dX9_insert_73 hl (by decide) rfl (fun ls hl => ?_)
            have K75 : ∀ (n9 : Nat) (j : Int) (f : Int → Int) (kk : Int) (bb : Int → Int) , ((j - i).toNat) < n9 → (i ≤ j ∧ j ≤ aS z) → ((kk = min (kn + 1) 6) ∧ (∀ k : Int, 0 ≤ k → k < 43 * (kk - 1) → bb k = aB (k + 43 * (kn + 1 - kk))) ∧ (∀ k : Int, 0 ≤ k → k < 43 → bb (43 * (kk - 1) + k) = aS k)) → (shR f aS (3 + 20 * z) j (aS z)) → ∀ (H : Heap) (locs : List Loc) (ls : Array Slot), wP G [bMod G x xs xb xm xf xu xg xw kk bl ft vh vm vs ln 0 sp pl wr br f bb aM aO aU aG aW] H → wD A [bMod G x xs xb xm xf xu xg xw kk bl ft vh vm vs ln 0 sp pl wr br f bb aM aO aU aG aW] → va_S A s.heap H locs → lv_has ls 5 [(0, .ref x), (1, .int (jz z)), (2, .int (jz i)), (3, .int (jz v)), (4, .int (jz j))] → W p l e rmX9_insert s m args below meth c H locs 0 0 Q (F0 m 75 ls []) := by
              intro n9
              induction n9 with
              | zero => intro j f kk bb hm9; exact absurd hm9 (Nat.not_lt_zero _)
              | succ n9 ih75 =>
                intro j f kk bb hm9 hj hsv hf H locs ls hP hD hS hl
                refine lv_iload hx hb dX9_insert_75 (lv_at hl 4 rfl) ?_
                refine lv_iload_n hx hb dX9_insert_77 rfl (lv_at hl 2 rfl) ?_
                refine jv_icmp_le (tgt := 110) hx hb dX9_insert_78 (by decide) (by omega) (by omega) (fun c_13 => ?_) (fun c_13 => ?_)
                · have hfi : shR f aS (3 + 20 * z) i (aS z) := by rw [show i = j by omega]; exact hf
                  refine lv_aload_n hx hb dX9_insert_110 rfl (lv_at hl 0 rfl) ?_
                  refine va_get (ci := 9) (v := .ref xs) (C := RX9) (T := TX9) (N := 19) hx hb hts wfX9 hown hK.1 hP 0 rfl rfl 0 (by decide) (hts _ wm810) (fun _ h9 => h9) rfl dX9_insert_111 ?_
                  refine jv_iconst hx hb dX9_insert_114 ?_
                  refine jv_bipush hx hb dX9_insert_115 (by decide) ?_
                  refine lv_iload_n hx hb dX9_insert_117 rfl (lv_at hl 1 rfl) ?_
                  refine jv_imul hx hb dX9_insert_118 ?_
                  refine jv_iadd hx hb dX9_insert_119 ?_
                  refine lv_iload_n hx hb dX9_insert_120 rfl (lv_at hl 2 rfl) ?_
                  refine jv_iadd hx hb dX9_insert_121 ?_
                  refine lv_iload_n hx hb dX9_insert_122 rfl (lv_at hl 3 rfl) ?_
                  refine jv_iast hx hb hK.1 hP hD hS 1 (g := f) rfl (by omega) (by omega) (by decide) dX9_insert_123 (fun H locs hP hD hS => ?_)
                  have hP : wP G [bMod G x xs xb xm xf xu xg xw kk bl ft vh vm vs ln 0 sp pl wr br (up f ((3 + (20 * z)) + i) v) bb aM aO aU aG aW] H := hP
                  have hD : wD A [bMod G x xs xb xm xf xu xg xw kk bl ft vh vm vs ln 0 sp pl wr br (up f ((3 + (20 * z)) + i) v) bb aM aO aU aG aW] := hD
                  refine lv_aload_n hx hb dX9_insert_124 rfl (lv_at hl 0 rfl) ?_
                  refine va_get (ci := 9) (v := .ref xs) (C := RX9) (T := TX9) (N := 19) hx hb hts wfX9 hown hK.1 hP 0 rfl rfl 0 (by decide) (hts _ wm810) (fun _ h9 => h9) rfl dX9_insert_125 ?_
                  refine lv_iload_n hx hb dX9_insert_128 rfl (lv_at hl 1 rfl) ?_
                  refine lv_dup2_11 hx hb dX9_insert_129 rfl rfl ?_
                  refine jv_iald hx hb hK.1 hP 1 (g := up f ((3 + (20 * z)) + i) v) rfl (by omega) (by omega) (by decide) dX9_insert_130 ?_
                  refine jv_iconst hx hb dX9_insert_131 ?_
                  refine jv_iadd hx hb dX9_insert_132 ?_
                  refine jv_iast hx hb hK.1 hP hD hS 1 (g := up f ((3 + (20 * z)) + i) v) rfl (by omega) (by omega) (by decide) dX9_insert_133 (fun H locs hP hD hS => ?_)
                  have hP : wP G [bMod G x xs xb xm xf xu xg xw kk bl ft vh vm vs ln 0 sp pl wr br (up (up f ((3 + (20 * z)) + i) v) z (((up f ((3 + (20 * z)) + i) v) z) + 1)) bb aM aO aU aG aW] H := hP
                  have hD : wD A [bMod G x xs xb xm xf xu xg xw kk bl ft vh vm vs ln 0 sp pl wr br (up (up f ((3 + (20 * z)) + i) v) z (((up f ((3 + (20 * z)) + i) v) z) + 1)) bb aM aO aU aG aW] := hD
                  refine lv_aload_n hx hb dX9_insert_134 rfl (lv_at hl 0 rfl) ?_
                  refine va_get (ci := 9) (v := .ref xs) (C := RX9) (T := TX9) (N := 19) hx hb hts wfX9 hown hK.1 hP 0 rfl rfl 0 (by decide) (hts _ wm810) (fun _ h9 => h9) rfl dX9_insert_135 ?_
                  refine lv_iload_n hx hb dX9_insert_138 rfl (lv_at hl 1 rfl) ?_
                  refine jv_iald hx hb hK.1 hP 1 (g := up (up f ((3 + (20 * z)) + i) v) z (((up f ((3 + (20 * z)) + i) v) z) + 1)) rfl (by omega) (by omega) (by decide) dX9_insert_139 ?_
                  exact cret_i hx hb hr hlocks hS hP hD (Nat.le_of_ble_eq_true rfl) (Nat.le_of_ble_eq_true rfl) rfl dX9_insert_140 [0] (by decide) ⟨kk, bb, up (up f ((3 + (20 * z)) + i) v) z (((up f ((3 + (20 * z)) + i) v) z) + 1)⟩ rfl ⟨(show (kk = min (kn + 1) 6) ∧ (∀ k : Int, 0 ≤ k → k < 43 * (kk - 1) → bb k = aB (k + 43 * (kn + 1 - kk))) ∧ (∀ k : Int, 0 ≤ k → k < 43 → bb (43 * (kk - 1) + k) = aS k) from by exact hsv), (show ∀ q : Int, 0 ≤ q → q < 20 → T9 (up (up f ((3 + (20 * z)) + i) v) z (((up f ((3 + (20 * z)) + i) v) z) + 1)) z q = insF (T9 aS z) i (aS z) v q from by intro q q1 q2; exact (t9_n (by omega) (by omega) q1).trans (shR_f hfi)), (show ∀ q : Int, 0 ≤ q → q < 20 → T9 (up (up f ((3 + (20 * z)) + i) v) z (((up f ((3 + (20 * z)) + i) v) z) + 1)) (1 - z) q = T9 aS (1 - z) q from by intro q q1 q2; exact (t9_n (by omega) (by omega) q1).trans ((t9_o hz (by omega) q1 q2).trans (shR_o (f := f) (g := aS) (q := 3 + 20 * (1 - z) + q) hfi (by omega)))), (show (up (up f ((3 + (20 * z)) + i) v) z (((up f ((3 + (20 * z)) + i) v) z) + 1)) z = aS z + 1 ∧ (up (up f ((3 + (20 * z)) + i) v) z (((up f ((3 + (20 * z)) + i) v) z) + 1)) (1 - z) = aS (1 - z) ∧ (up (up f ((3 + (20 * z)) + i) v) z (((up f ((3 + (20 * z)) + i) v) z) + 1)) 2 = aS 2 from by refine ⟨?_, ?_, ?_⟩; (rw [u9eq, up_low (by omega) (by omega), shR_o hfi (by omega)]); (rw [u9ne (by omega), up_low (by omega) (by omega), shR_o hfi (by omega)]); (rw [u9ne (by omega), up_low (by omega) (by omega), shR_o hfi (by omega)]))⟩ (congrArg (fun z : Int => some (Value.int (jz z))) (show ((up (up f ((3 + (20 * z)) + i) v) z (((up f ((3 + (20 * z)) + i) v) z) + 1)) z) = aS z + 1 from by rw [u9eq, up_low (by omega) (by omega), shR_o hfi (by omega)])) hQ
                · refine lv_aload_n hx hb dX9_insert_81 rfl (lv_at hl 0 rfl) ?_
                  refine va_get (ci := 9) (v := .ref xs) (C := RX9) (T := TX9) (N := 19) hx hb hts wfX9 hown hK.1 hP 0 rfl rfl 0 (by decide) (hts _ wm810) (fun _ h9 => h9) rfl dX9_insert_82 ?_
                  refine jv_iconst hx hb dX9_insert_85 ?_
                  refine jv_bipush hx hb dX9_insert_86 (by decide) ?_
                  refine lv_iload_n hx hb dX9_insert_88 rfl (lv_at hl 1 rfl) ?_
                  refine jv_imul hx hb dX9_insert_89 ?_
                  refine jv_iadd hx hb dX9_insert_90 ?_
                  refine lv_iload hx hb dX9_insert_91 (lv_at hl 4 rfl) ?_
                  refine jv_iadd hx hb dX9_insert_93 ?_
                  refine lv_aload_n hx hb dX9_insert_94 rfl (lv_at hl 0 rfl) ?_
                  refine lv_iload_n hx hb dX9_insert_95 rfl (lv_at hl 1 rfl) ?_
                  refine lv_iload hx hb dX9_insert_96 (lv_at hl 4 rfl) ?_
                  refine jv_iconst hx hb dX9_insert_98 ?_
                  refine jv_isub hx hb dX9_insert_99 ?_
                  refine kV ⟨hx, hb, hml, hown, hts⟩ hK hA hS hP hD [.int (jz z), .int (jz (j - 1))] [.int (jz ((3 + (20 * z)) + j)), .ref xs] (mX9_of l G x xs xb xm xf xu xg xw kk bl ft vh vm vs ln 0 sp pl wr br f bb aM aO aU aG aW z (j - 1) (by omega) (by omega)) lkX9_46 [0] [] (br := []) rfl rfl (by decide) 0 9 rfl rfl rfl rfl (Nat.le_of_ble_eq_true rfl) hl.1 dX9_insert_100 ⟨Nat.le_of_ble_eq_true rfl, Nat.le_of_ble_eq_true rfl⟩ ⟨Nat.le_of_ble_eq_true rfl, Nat.le_of_ble_eq_true rfl⟩ (fun u9 H locs hp9 hP hD hS => ?_)
                  have hP : wP G [bMod G x xs xb xm xf xu xg xw kk bl ft vh vm vs ln 0 sp pl wr br f bb aM aO aU aG aW] H := hP
                  have hD : wD A [bMod G x xs xb xm xf xu xg xw kk bl ft vh vm vs ln 0 sp pl wr br f bb aM aO aU aG aW] := hD
                  show W p l e rmX9_insert s m args below meth c H locs 0 0 Q (F0 m 103 ls [.int (jz (T9 f z (j - 1))), .int (jz ((3 + (20 * z)) + j)), .ref xs])
                  refine jv_iast hx hb hK.1 hP hD hS 1 (g := f) rfl (by omega) (by omega) (by decide) dX9_insert_103 (fun H locs hP hD hS => ?_)
                  have hP : wP G [bMod G x xs xb xm xf xu xg xw kk bl ft vh vm vs ln 0 sp pl wr br (up f ((3 + (20 * z)) + j) (T9 f z (j - 1))) bb aM aO aU aG aW] H := hP
                  have hD : wD A [bMod G x xs xb xm xf xu xg xw kk bl ft vh vm vs ln 0 sp pl wr br (up f ((3 + (20 * z)) + j) (T9 f z (j - 1))) bb aM aO aU aG aW] := hD
                  refine jv_iinc (lv' := [(4, .int (jz (j + (-1)))), (0, .ref x), (1, .int (jz z)), (2, .int (jz i)), (3, .int (jz v))]) (k := 4) hx hb dX9_insert_104 hl rfl (by decide) rfl (fun ls hl => ?_)
                  refine lv_goto (tgt := 75) hx hb dX9_insert_107 (by decide) ?_
                  exact ih75 (j + (-1)) (up f ((3 + (20 * z)) + j) (T9 f z (j - 1))) kk bb (by omega) (by omega) (by exact hsv) (by exact shR_s hf (by omega) (by omega) rfl) H _ _ hP hD hS (lv_sub hl [1, 2, 3, 4, 0] rfl)
            exact K75 ((((aS z) - i).toNat) + 1) (aS z) aS u_8 u_9 (Nat.lt_succ_self _) (by omega) (by exact hsvp) (by exact shR_0 _ _ _) H _ _ hP hD hS (lv_sub hl [1, 2, 3, 4, 0] rfl)
          · exfalso; omega
        · exfalso; omega
      · exfalso; omega
  exact KH s.heap [] hP hD hS
abbrev rmX9_remove : Room := { frames := 2, cells := 0, slots := 0, locals := 42 }
set_option maxHeartbeats 4000000 in
set_option maxRecDepth 100000 in
theorem mX9_remove (l : Launch) (G : GG) (x : Nat) (xs : Nat) (xb : Nat) (xm : Nat) (xf : Nat) (xu : Nat) (xg : Nat) (xw : Nat) (kn : Int) (bl : Int) (ft : Int) (vh : Int) (vm : Int) (vs : Int) (ln : Int) (th : Int) (sp : Int) (pl : Int) (wr : Int) (br : Int) (aS : Int → Int) (aB : Int → Int) (aM : Int → Int) (aO : Int → Int) (aU : Int → Int) (aG : Int → Int) (aW : Int → Int) (z : Int) (i : Int) (hs0 : 0 ≤ aS 0 ∧ aS 0 ≤ 20) (hs1 : 0 ≤ aS 1 ∧ aS 1 ≤ 20) (hs2 : 2 ≤ aS 2 ∧ aS 2 ≤ 4) (hz : 0 ≤ z ∧ z ≤ 1) (hi : 0 ≤ i ∧ i ≤ aS z - 1) (hkn : 0 ≤ kn ∧ kn ≤ 6) : Ct l yX9_remove cX9_remove 5 (some .int) rmX9_remove G [.ref x, .int (jz z), .int (jz i)] [bMod G x xs xb xm xf xu xg xw kn bl ft vh vm vs ln th sp pl wr br aS aB aM aO aU aG aW] (fun uo : Int × (Int → Int) × (Int → Int) => some (.int (jz (T9 aS z i)))) (fun uo => ((uo.1 = min (kn + 1) 6) ∧ (∀ k : Int, 0 ≤ k → k < 43 * (uo.1 - 1) → uo.2.1 k = aB (k + 43 * (kn + 1 - uo.1))) ∧ (∀ k : Int, 0 ≤ k → k < 43 → uo.2.1 (43 * (uo.1 - 1) + k) = aS k)) ∧ (∀ q : Int, 0 ≤ q → q < aS z - 1 → T9 uo.2.2 z q = delF (T9 aS z) i (aS z) q) ∧ (∀ q : Int, 0 ≤ q → q < 20 → T9 uo.2.2 (1 - z) q = T9 aS (1 - z) q) ∧ (uo.2.2 z = aS z - 1 ∧ uo.2.2 (1 - z) = aS (1 - z) ∧ uo.2.2 2 = aS 2)) (fun uo => [bMod G x xs xb xm xf xu xg xw uo.1 bl ft vh vm vs ln 0 sp pl wr br uo.2.2 uo.2.1 aM aO aU aG aW]) := by
  refine cof (by decide) (Nat.le_of_ble_eq_true rfl) ?_
  intro p e s m args below meth c A ls hx hb hr hml hown hts hlocks hin hA hK hP hD hS hl Q hQ
  have hown : s.vm.findClass RX9 = some m.cls := hown
  have hl : lv_has ls 5 [(0, .ref x), (1, .int (jz z)), (2, .int (jz i))] := hl
  have KH : ∀ (H : Heap) (locs : List Loc), wP G [bMod G x xs xb xm xf xu xg xw kn bl ft vh vm vs ln th sp pl wr br aS aB aM aO aU aG aW] H → wD A [bMod G x xs xb xm xf xu xg xw kn bl ft vh vm vs ln th sp pl wr br aS aB aM aO aU aG aW] → va_S A s.heap H locs → W p l e rmX9_remove s m args below meth c H locs 0 0 Q (F0 m 0 ls []) := by
    intro H locs hP hD hS
    have hsz : 0 ≤ z → z ≤ 1 → 0 ≤ aS z ∧ aS z ≤ 20 := by intro q1 q2; rcases (show z = 0 ∨ z = 1 by omega) with e9 | e9 <;> rw [e9] <;> assumption
    have hsz9 := hsz hz.1 hz.2
    refine lv_aload_n hx hb dX9_remove_0 rfl (lv_at hl 0 rfl) ?_
    refine jv_iconst hx hb dX9_remove_1 ?_
    refine va_put (ci := 9) (v := .int (jz 0)) (ty := .int) (C := RX9) (T := TX9) (N := 19) hx hb hts wfX9 tyX9 tyX9_ok nmX9 hown hK.1 hP hD hS 0 rfl rfl 12 (by decide) (hts _ wm822) (fun _ h9 => h9) rfl (by decide +kernel) rfl rfl (Nat.le_of_ble_eq_true rfl) dX9_remove_2 (fun H locs hP hD hS => ?_)
    have hP : wP G [bMod G x xs xb xm xf xu xg xw kn bl ft vh vm vs ln 0 sp pl wr br aS aB aM aO aU aG aW] H := hP
    have hD : wD A [bMod G x xs xb xm xf xu xg xw kn bl ft vh vm vs ln 0 sp pl wr br aS aB aM aO aU aG aW] := hD
    refine lv_iload_n hx hb dX9_remove_5 rfl (lv_at hl 1 rfl) ?_
    refine kS ⟨hx, hb, hml, hown, hts⟩ hK hA hS hP hD [.int (jz z)] [] (mX9_isText_T l G z (by omega)) lkX9_109 [] [0] (br := [bMod G x xs xb xm xf xu xg xw kn bl ft vh vm vs ln 0 sp pl wr br aS aB aM aO aU aG aW]) rfl rfl (by decide) rfl rfl (Nat.le_of_ble_eq_true rfl) hl.1 dX9_remove_6 ⟨Nat.le_of_ble_eq_true rfl, Nat.le_of_ble_eq_true rfl⟩ ⟨Nat.le_of_ble_eq_true rfl, Nat.le_of_ble_eq_true rfl⟩ (fun u9 H locs hp9 hP hD hS => ?_)
    have hP : wP G [bMod G x xs xb xm xf xu xg xw kn bl ft vh vm vs ln 0 sp pl wr br aS aB aM aO aU aG aW] H := hP
    have hD : wD A [bMod G x xs xb xm xf xu xg xw kn bl ft vh vm vs ln 0 sp pl wr br aS aB aM aO aU aG aW] := hD
    show W p l e rmX9_remove s m args below meth c H locs 0 0 Q (F0 m 9 ls [.int (jz 1)])
    refine jv_if_eq (tgt := 28) hx hb dX9_remove_9 (by decide) (by omega) (fun c_2 => ?_) (fun c_2 => ?_)
    · exfalso; omega
    · refine lv_iload_n hx hb dX9_remove_12 rfl (lv_at hl 2 rfl) ?_
      refine jv_iconst hx hb dX9_remove_13 ?_
      refine lv_aload_n hx hb dX9_remove_14 rfl (lv_at hl 0 rfl) ?_
      refine va_get (ci := 9) (v := .ref xs) (C := RX9) (T := TX9) (N := 19) hx hb hts wfX9 hown hK.1 hP 0 rfl rfl 0 (by decide) (hts _ wm810) (fun _ h9 => h9) rfl dX9_remove_15 ?_
      refine lv_iload_n hx hb dX9_remove_18 rfl (lv_at hl 1 rfl) ?_
      refine jv_iald hx hb hK.1 hP 1 (g := aS) rfl (by omega) (by omega) (by decide) dX9_remove_19 ?_
      refine jv_iconst hx hb dX9_remove_20 ?_
      refine jv_isub hx hb dX9_remove_21 ?_
      refine kS ⟨hx, hb, hml, hown, hts⟩ hK hA hS hP hD [.int (jz i), .int (jz 0), .int (jz ((aS z) - 1))] [] (mX9_in_T l G i 0 ((aS z) - 1) (by omega) (by omega) (by omega) (by omega)) lkX9_42 [] [0] (br := [bMod G x xs xb xm xf xu xg xw kn bl ft vh vm vs ln 0 sp pl wr br aS aB aM aO aU aG aW]) rfl rfl (by decide) rfl rfl (Nat.le_of_ble_eq_true rfl) hl.1 dX9_remove_22 ⟨Nat.le_of_ble_eq_true rfl, Nat.le_of_ble_eq_true rfl⟩ ⟨Nat.le_of_ble_eq_true rfl, Nat.le_of_ble_eq_true rfl⟩ (fun u9 H locs hp9 hP hD hS => ?_)
      have hP : wP G [bMod G x xs xb xm xf xu xg xw kn bl ft vh vm vs ln 0 sp pl wr br aS aB aM aO aU aG aW] H := hP
      have hD : wD A [bMod G x xs xb xm xf xu xg xw kn bl ft vh vm vs ln 0 sp pl wr br aS aB aM aO aU aG aW] := hD
      show W p l e rmX9_remove s m args below meth c H locs 0 0 Q (F0 m 25 ls [.int (jz 1)])
      refine jv_if_ne (tgt := 34) hx hb dX9_remove_25 (by decide) (by omega) (fun c_4 => ?_) (fun c_4 => ?_)
      · refine lv_aload_n hx hb dX9_remove_34 rfl (lv_at hl 0 rfl) ?_
        refine kV ⟨hx, hb, hml, hown, hts⟩ hK hA hS hP hD [] [] (mX9_save l G x xs xb xm xf xu xg xw kn bl ft vh vm vs ln 0 sp pl wr br aS aB aM aO aU aG aW (by omega)) lkX9_106 [0] [] (br := []) rfl rfl (by decide) 0 9 rfl rfl rfl rfl (Nat.le_of_ble_eq_true rfl) hl.1 dX9_remove_35 ⟨Nat.le_of_ble_eq_true rfl, Nat.le_of_ble_eq_true rfl⟩ ⟨Nat.le_of_ble_eq_true rfl, Nat.le_of_ble_eq_true rfl⟩ (fun u9 H locs hp9 hP hD hS => ?_)
        obtain ⟨u_5, u_6⟩ := u9
        have hc_7 : u_5 = min (kn + 1) 6 := hp9.1
        have hd_8 : ∀ k : Int, 0 ≤ k → k < 43 * (u_5 - 1) → u_6 k = aB (k + 43 * (kn + 1 - u_5)) := hp9.2.1
        have hf_9 : ∀ k : Int, 0 ≤ k → k < 43 → u_6 (43 * (u_5 - 1) + k) = aS k := hp9.2.2
        have hP : wP G [bMod G x xs xb xm xf xu xg xw u_5 bl ft vh vm vs ln 0 sp pl wr br aS u_6 aM aO aU aG aW] H := hP
        have hD : wD A [bMod G x xs xb xm xf xu xg xw u_5 bl ft vh vm vs ln 0 sp pl wr br aS u_6 aM aO aU aG aW] := hD
        show W p l e rmX9_remove s m args below meth c H locs 0 0 Q (F0 m 38 ls [])
        have hsvp := And.intro hc_7 (And.intro hd_8 hf_9)
        refine lv_aload_n hx hb dX9_remove_38 rfl (lv_at hl 0 rfl) ?_
        refine lv_iload_n hx hb dX9_remove_39 rfl (lv_at hl 1 rfl) ?_
        refine lv_iload_n hx hb dX9_remove_40 rfl (lv_at hl 2 rfl) ?_
        refine kV ⟨hx, hb, hml, hown, hts⟩ hK hA hS hP hD [.int (jz z), .int (jz i)] [] (mX9_of l G x xs xb xm xf xu xg xw u_5 bl ft vh vm vs ln 0 sp pl wr br aS u_6 aM aO aU aG aW z i (by omega) (by omega)) lkX9_46 [0] [] (br := []) rfl rfl (by decide) 0 9 rfl rfl rfl rfl (Nat.le_of_ble_eq_true rfl) hl.1 dX9_remove_41 ⟨Nat.le_of_ble_eq_true rfl, Nat.le_of_ble_eq_true rfl⟩ ⟨Nat.le_of_ble_eq_true rfl, Nat.le_of_ble_eq_true rfl⟩ (fun u9 H locs hp9 hP hD hS => ?_)
        have hP : wP G [bMod G x xs xb xm xf xu xg xw u_5 bl ft vh vm vs ln 0 sp pl wr br aS u_6 aM aO aU aG aW] H := hP
        have hD : wD A [bMod G x xs xb xm xf xu xg xw u_5 bl ft vh vm vs ln 0 sp pl wr br aS u_6 aM aO aU aG aW] := hD
        show W p l e rmX9_remove s m args below meth c H locs 0 0 Q (F0 m 44 ls [.int (jz (T9 aS z i))])
        refine lv_istore_n (lv' := [(3, .int (jz (T9 aS z i))), (0, .ref x), (1, .int (jz z)), (2, .int (jz i))]) hx hb dX9_remove_44 rfl hl (by decide) rfl (fun ls hl => ?_)
        refine lv_aload_n hx hb dX9_remove_45 rfl (lv_at hl 1 rfl) ?_
        refine va_get (ci := 9) (v := .ref xs) (C := RX9) (T := TX9) (N := 19) hx hb hts wfX9 hown hK.1 hP 0 rfl rfl 0 (by decide) (hts _ wm810) (fun _ h9 => h9) rfl dX9_remove_46 ?_
        refine lv_iload_n hx hb dX9_remove_49 rfl (lv_at hl 2 rfl) ?_
        refine lv_dup2_11 hx hb dX9_remove_50 rfl rfl ?_
        refine jv_iald hx hb hK.1 hP 1 (g := aS) rfl (by omega) (by omega) (by decide) dX9_remove_51 ?_
        refine jv_iconst hx hb dX9_remove_52 ?_
        refine jv_isub hx hb dX9_remove_53 ?_
        refine jv_iast hx hb hK.1 hP hD hS 1 (g := aS) rfl (by omega) (by omega) (by decide) dX9_remove_54 (fun H locs hP hD hS => ?_)
        have hP : wP G [bMod G x xs xb xm xf xu xg xw u_5 bl ft vh vm vs ln 0 sp pl wr br (up aS z ((aS z) - 1)) u_6 aM aO aU aG aW] H := hP
        have hD : wD A [bMod G x xs xb xm xf xu xg xw u_5 bl ft vh vm vs ln 0 sp pl wr br (up aS z ((aS z) - 1)) u_6 aM aO aU aG aW] := hD
        refine lv_iload_n hx hb dX9_remove_55 rfl (lv_at hl 3 rfl) ?_
        refine lv_istore (lv' := [(4, .int (jz i)), (3, .int (jz (T9 aS z i))), (0, .ref x), (1, .int (jz z)), (2, .int (jz i))]) hx hb dX9_remove_56 hl (by decide) rfl (fun ls hl => ?_)
        have K58 : ∀ (n9 : Nat) (j : Int) (f : Int → Int) (kk : Int) (bb : Int → Int) , ((aS z - j).toNat) < n9 → (i ≤ j ∧ j ≤ aS z - 1) → ((kk = min (kn + 1) 6) ∧ (∀ k : Int, 0 ≤ k → k < 43 * (kk - 1) → bb k = aB (k + 43 * (kn + 1 - kk))) ∧ (∀ k : Int, 0 ≤ k → k < 43 → bb (43 * (kk - 1) + k) = aS k)) → (shL f (up aS z (aS z - 1)) (3 + 20 * z) i j) → (f z = aS z - 1) → ∀ (H : Heap) (locs : List Loc) (ls : Array Slot), wP G [bMod G x xs xb xm xf xu xg xw kk bl ft vh vm vs ln 0 sp pl wr br f bb aM aO aU aG aW] H → wD A [bMod G x xs xb xm xf xu xg xw kk bl ft vh vm vs ln 0 sp pl wr br f bb aM aO aU aG aW] → va_S A s.heap H locs → lv_has ls 5 [(0, .ref x), (1, .int (jz z)), (2, .int (jz i)), (3, .int (jz (T9 aS z i))), (4, .int (jz j))] → W p l e rmX9_remove s m args below meth c H locs 0 0 Q (F0 m 58 ls []) := by
          intro n9
          induction n9 with
          | zero => intro j f kk bb hm9; exact absurd hm9 (Nat.not_lt_zero _)
          | succ n9 ih58 =>
            intro j f kk bb hm9 hj hsv hf hfz H locs ls hP hD hS hl
            refine lv_iload hx hb dX9_remove_58 (lv_at hl 4 rfl) ?_
            refine lv_aload_n hx hb dX9_remove_60 rfl (lv_at hl 0 rfl) ?_
            refine va_get (ci := 9) (v := .ref xs) (C := RX9) (T := TX9) (N := 19) hx hb hts wfX9 hown hK.1 hP 0 rfl rfl 0 (by decide) (hts _ wm810) (fun _ h9 => h9) rfl dX9_remove_61 ?_
            refine lv_iload_n hx hb dX9_remove_64 rfl (lv_at hl 1 rfl) ?_
            refine jv_iald hx hb hK.1 hP 1 (g := f) rfl (by omega) (by omega) (by decide) dX9_remove_65 ?_
            refine jv_icmp_ge (tgt := 98) hx hb dX9_remove_66 (by decide) (by omega) (by omega) (fun c_11 => ?_) (fun c_11 => ?_)
            · have hfi : shL f (up aS z (aS z - 1)) (3 + 20 * z) i (aS z - 1) := (show j = aS z - 1 by omega) ▸ hf
              refine lv_aload_n hx hb dX9_remove_98 rfl (lv_at hl 0 rfl) ?_
              refine va_get (ci := 9) (v := .ref xs) (C := RX9) (T := TX9) (N := 19) hx hb hts wfX9 hown hK.1 hP 0 rfl rfl 0 (by decide) (hts _ wm810) (fun _ h9 => h9) rfl dX9_remove_99 ?_
              refine jv_iconst hx hb dX9_remove_102 ?_
              refine jv_bipush hx hb dX9_remove_103 (by decide) ?_
              refine lv_iload_n hx hb dX9_remove_105 rfl (lv_at hl 1 rfl) ?_
              refine jv_imul hx hb dX9_remove_106 ?_
              refine jv_iadd hx hb dX9_remove_107 ?_
              refine lv_aload_n hx hb dX9_remove_108 rfl (lv_at hl 0 rfl) ?_
              refine va_get (ci := 9) (v := .ref xs) (C := RX9) (T := TX9) (N := 19) hx hb hts wfX9 hown hK.1 hP 0 rfl rfl 0 (by decide) (hts _ wm810) (fun _ h9 => h9) rfl dX9_remove_109 ?_
              refine lv_iload_n hx hb dX9_remove_112 rfl (lv_at hl 1 rfl) ?_
              refine jv_iald hx hb hK.1 hP 1 (g := f) rfl (by omega) (by omega) (by decide) dX9_remove_113 ?_
              refine jv_iadd hx hb dX9_remove_114 ?_
              refine jv_iconst hx hb dX9_remove_115 ?_
              refine jv_iast hx hb hK.1 hP hD hS 1 (g := f) rfl (by omega) (by omega) (by decide) dX9_remove_116 (fun H locs hP hD hS => ?_)
              have hP : wP G [bMod G x xs xb xm xf xu xg xw kk bl ft vh vm vs ln 0 sp pl wr br (up f ((3 + (20 * z)) + (f z)) 0) bb aM aO aU aG aW] H := hP
              have hD : wD A [bMod G x xs xb xm xf xu xg xw kk bl ft vh vm vs ln 0 sp pl wr br (up f ((3 + (20 * z)) + (f z)) 0) bb aM aO aU aG aW] := hD
              refine lv_iload_n hx hb dX9_remove_117 rfl (lv_at hl 3 rfl) ?_
              exact cret_i hx hb hr hlocks hS hP hD (Nat.le_of_ble_eq_true rfl) (Nat.le_of_ble_eq_true rfl) rfl dX9_remove_118 [0] (by decide) ⟨kk, bb, up f ((3 + (20 * z)) + (f z)) 0⟩ rfl ⟨(show (kk = min (kn + 1) 6) ∧ (∀ k : Int, 0 ≤ k → k < 43 * (kk - 1) → bb k = aB (k + 43 * (kn + 1 - kk))) ∧ (∀ k : Int, 0 ≤ k → k < 43 → bb (43 * (kk - 1) + k) = aS k) from by exact hsv), (show ∀ q : Int, 0 ≤ q → q < aS z - 1 → T9 (up f ((3 + (20 * z)) + (f z)) 0) z q = delF (T9 aS z) i (aS z) q from by intro q q1 q2; rw [hfz]; exact shL_d hz hfi q1 q2), (show ∀ q : Int, 0 ≤ q → q < 20 → T9 (up f ((3 + (20 * z)) + (f z)) 0) (1 - z) q = T9 aS (1 - z) q from by intro q q1 q2; exact (t9_o hz (by omega) q1 q2).trans ((shL_o hfi (by omega)).trans (u9ne (by omega)))), (show (up f ((3 + (20 * z)) + (f z)) 0) z = aS z - 1 ∧ (up f ((3 + (20 * z)) + (f z)) 0) (1 - z) = aS (1 - z) ∧ (up f ((3 + (20 * z)) + (f z)) 0) 2 = aS 2 from by refine ⟨?_, ?_, ?_⟩; (rw [up_low (by omega) (by omega)]; exact hfz); (rw [up_low (by omega) (by omega), shL_o hfi (by omega), u9ne (by omega)]); (rw [up_low (by omega) (by omega), shL_o hfi (by omega), u9ne (by omega)]))⟩ (congrArg (fun z : Int => some (Value.int (jz z))) (show (T9 aS z i) = T9 aS z i from by first | rfl | omega | (split <;> first | rfl | omega | (exfalso; omega)))) hQ
            · refine lv_aload_n hx hb dX9_remove_69 rfl (lv_at hl 0 rfl) ?_
              refine va_get (ci := 9) (v := .ref xs) (C := RX9) (T := TX9) (N := 19) hx hb hts wfX9 hown hK.1 hP 0 rfl rfl 0 (by decide) (hts _ wm810) (fun _ h9 => h9) rfl dX9_remove_70 ?_
              refine jv_iconst hx hb dX9_remove_73 ?_
              refine jv_bipush hx hb dX9_remove_74 (by decide) ?_
              refine lv_iload_n hx hb dX9_remove_76 rfl (lv_at hl 1 rfl) ?_
              refine jv_imul hx hb dX9_remove_77 ?_
              refine jv_iadd hx hb dX9_remove_78 ?_
              refine lv_iload hx hb dX9_remove_79 (lv_at hl 4 rfl) ?_
              refine jv_iadd hx hb dX9_remove_81 ?_
              refine lv_aload_n hx hb dX9_remove_82 rfl (lv_at hl 0 rfl) ?_
              refine lv_iload_n hx hb dX9_remove_83 rfl (lv_at hl 1 rfl) ?_
              refine lv_iload hx hb dX9_remove_84 (lv_at hl 4 rfl) ?_
              refine jv_iconst hx hb dX9_remove_86 ?_
              refine jv_iadd hx hb dX9_remove_87 ?_
              refine kV ⟨hx, hb, hml, hown, hts⟩ hK hA hS hP hD [.int (jz z), .int (jz (j + 1))] [.int (jz ((3 + (20 * z)) + j)), .ref xs] (mX9_of l G x xs xb xm xf xu xg xw kk bl ft vh vm vs ln 0 sp pl wr br f bb aM aO aU aG aW z (j + 1) (by omega) (by omega)) lkX9_46 [0] [] (br := []) rfl rfl (by decide) 0 9 rfl rfl rfl rfl (Nat.le_of_ble_eq_true rfl) hl.1 dX9_remove_88 ⟨Nat.le_of_ble_eq_true rfl, Nat.le_of_ble_eq_true rfl⟩ ⟨Nat.le_of_ble_eq_true rfl, Nat.le_of_ble_eq_true rfl⟩ (fun u9 H locs hp9 hP hD hS => ?_)
              have hP : wP G [bMod G x xs xb xm xf xu xg xw kk bl ft vh vm vs ln 0 sp pl wr br f bb aM aO aU aG aW] H := hP
              have hD : wD A [bMod G x xs xb xm xf xu xg xw kk bl ft vh vm vs ln 0 sp pl wr br f bb aM aO aU aG aW] := hD
              show W p l e rmX9_remove s m args below meth c H locs 0 0 Q (F0 m 91 ls [.int (jz (T9 f z (j + 1))), .int (jz ((3 + (20 * z)) + j)), .ref xs])
              refine jv_iast hx hb hK.1 hP hD hS 1 (g := f) rfl (by omega) (by omega) (by decide) dX9_remove_91 (fun H locs hP hD hS => ?_)
              have hP : wP G [bMod G x xs xb xm xf xu xg xw kk bl ft vh vm vs ln 0 sp pl wr br (up f ((3 + (20 * z)) + j) (T9 f z (j + 1))) bb aM aO aU aG aW] H := hP
              have hD : wD A [bMod G x xs xb xm xf xu xg xw kk bl ft vh vm vs ln 0 sp pl wr br (up f ((3 + (20 * z)) + j) (T9 f z (j + 1))) bb aM aO aU aG aW] := hD
              refine jv_iinc (lv' := [(4, .int (jz (j + 1))), (0, .ref x), (1, .int (jz z)), (2, .int (jz i)), (3, .int (jz (T9 aS z i)))]) (k := 4) hx hb dX9_remove_92 hl rfl (by decide) rfl (fun ls hl => ?_)
              refine lv_goto (tgt := 58) hx hb dX9_remove_95 (by decide) ?_
              exact ih58 (j + 1) (up f ((3 + (20 * z)) + j) (T9 f z (j + 1))) kk bb (by omega) (by omega) (by exact hsv) (by exact shL_s hf (by omega) rfl) (by rw [up_low (by omega) (by omega)]; exact hfz) H _ _ hP hD hS (lv_sub hl [1, 2, 3, 4, 0] rfl)
        exact K58 (((aS z - i).toNat) + 1) i (up aS z ((aS z) - 1)) u_5 u_6 (Nat.lt_succ_self _) (by omega) (by exact hsvp) (by exact shL_0 _ _ _) (by exact u9eq _ _ _) H _ _ hP hD hS (lv_sub hl [2, 3, 4, 1, 0] rfl)
      · exfalso; omega
  exact KH s.heap [] hP hD hS
abbrev rmX9_exchange : Room := { frames := 1, cells := 0, slots := 0, locals := 22 }
set_option maxHeartbeats 4000000 in
set_option maxRecDepth 100000 in
theorem mX9_exchange (l : Launch) (G : GG) (x : Nat) (xs : Nat) (xb : Nat) (xm : Nat) (xf : Nat) (xu : Nat) (xg : Nat) (xw : Nat) (kn : Int) (bl : Int) (ft : Int) (vh : Int) (vm : Int) (vs : Int) (ln : Int) (th : Int) (sp : Int) (pl : Int) (wr : Int) (br : Int) (aS : Int → Int) (aB : Int → Int) (aM : Int → Int) (aO : Int → Int) (aU : Int → Int) (aG : Int → Int) (aW : Int → Int) (hkn : 0 ≤ kn ∧ kn ≤ 6) : Ct l yX9_exchange cX9_exchange 4 (some .int) rmX9_exchange G [.ref x] [bMod G x xs xb xm xf xu xg xw kn bl ft vh vm vs ln th sp pl wr br aS aB aM aO aU aG aW] (fun uo : Int × (Int → Int) × (Int → Int) => some (.int (jz (aS 1)))) (fun uo => ((uo.1 = min (kn + 1) 6) ∧ (∀ k : Int, 0 ≤ k → k < 43 * (uo.1 - 1) → uo.2.1 k = aB (k + 43 * (kn + 1 - uo.1))) ∧ (∀ k : Int, 0 ≤ k → k < 43 → uo.2.1 (43 * (uo.1 - 1) + k) = aS k)) ∧ (∀ q : Int, 0 ≤ q → q < 20 → T9 uo.2.2 0 q = T9 aS 1 q ∧ T9 uo.2.2 1 q = T9 aS 0 q) ∧ (uo.2.2 0 = aS 1 ∧ uo.2.2 1 = aS 0 ∧ uo.2.2 2 = aS 2)) (fun uo => [bMod G x xs xb xm xf xu xg xw uo.1 bl ft vh vm vs ln 0 sp pl wr br uo.2.2 uo.2.1 aM aO aU aG aW]) := by
  refine cof (by decide) (Nat.le_of_ble_eq_true rfl) ?_
  intro p e s m args below meth c A ls hx hb hr hml hown hts hlocks hin hA hK hP hD hS hl Q hQ
  have hown : s.vm.findClass RX9 = some m.cls := hown
  have hl : lv_has ls 4 [(0, .ref x)] := hl
  have KH : ∀ (H : Heap) (locs : List Loc), wP G [bMod G x xs xb xm xf xu xg xw kn bl ft vh vm vs ln th sp pl wr br aS aB aM aO aU aG aW] H → wD A [bMod G x xs xb xm xf xu xg xw kn bl ft vh vm vs ln th sp pl wr br aS aB aM aO aU aG aW] → va_S A s.heap H locs → W p l e rmX9_exchange s m args below meth c H locs 0 0 Q (F0 m 0 ls []) := by
    intro H locs hP hD hS
    refine lv_aload_n hx hb dX9_exchange_0 rfl (lv_at hl 0 rfl) ?_
    refine jv_iconst hx hb dX9_exchange_1 ?_
    refine va_put (ci := 9) (v := .int (jz 0)) (ty := .int) (C := RX9) (T := TX9) (N := 19) hx hb hts wfX9 tyX9 tyX9_ok nmX9 hown hK.1 hP hD hS 0 rfl rfl 12 (by decide) (hts _ wm822) (fun _ h9 => h9) rfl (by decide +kernel) rfl rfl (Nat.le_of_ble_eq_true rfl) dX9_exchange_2 (fun H locs hP hD hS => ?_)
    have hP : wP G [bMod G x xs xb xm xf xu xg xw kn bl ft vh vm vs ln 0 sp pl wr br aS aB aM aO aU aG aW] H := hP
    have hD : wD A [bMod G x xs xb xm xf xu xg xw kn bl ft vh vm vs ln 0 sp pl wr br aS aB aM aO aU aG aW] := hD
    refine lv_aload_n hx hb dX9_exchange_5 rfl (lv_at hl 0 rfl) ?_
    refine kV ⟨hx, hb, hml, hown, hts⟩ hK hA hS hP hD [] [] (mX9_save l G x xs xb xm xf xu xg xw kn bl ft vh vm vs ln 0 sp pl wr br aS aB aM aO aU aG aW (by omega)) lkX9_106 [0] [] (br := []) rfl rfl (by decide) 0 9 rfl rfl rfl rfl (Nat.le_of_ble_eq_true rfl) hl.1 dX9_exchange_6 ⟨Nat.le_of_ble_eq_true rfl, Nat.le_of_ble_eq_true rfl⟩ ⟨Nat.le_of_ble_eq_true rfl, Nat.le_of_ble_eq_true rfl⟩ (fun u9 H locs hp9 hP hD hS => ?_)
    obtain ⟨u_1, u_2⟩ := u9
    have hc_3 : u_1 = min (kn + 1) 6 := hp9.1
    have hd_4 : ∀ k : Int, 0 ≤ k → k < 43 * (u_1 - 1) → u_2 k = aB (k + 43 * (kn + 1 - u_1)) := hp9.2.1
    have hf_5 : ∀ k : Int, 0 ≤ k → k < 43 → u_2 (43 * (u_1 - 1) + k) = aS k := hp9.2.2
    have hP : wP G [bMod G x xs xb xm xf xu xg xw u_1 bl ft vh vm vs ln 0 sp pl wr br aS u_2 aM aO aU aG aW] H := hP
    have hD : wD A [bMod G x xs xb xm xf xu xg xw u_1 bl ft vh vm vs ln 0 sp pl wr br aS u_2 aM aO aU aG aW] := hD
    show W p l e rmX9_exchange s m args below meth c H locs 0 0 Q (F0 m 9 ls [])
    have hsvp := And.intro hc_3 (And.intro hd_4 hf_5)
    refine lv_aload_n hx hb dX9_exchange_9 rfl (lv_at hl 0 rfl) ?_
    refine va_get (ci := 9) (v := .ref xs) (C := RX9) (T := TX9) (N := 19) hx hb hts wfX9 hown hK.1 hP 0 rfl rfl 0 (by decide) (hts _ wm810) (fun _ h9 => h9) rfl dX9_exchange_10 ?_
    refine jv_iconst hx hb dX9_exchange_13 ?_
    refine jv_iald hx hb hK.1 hP 1 (g := aS) rfl (by omega) (by omega) (by decide) dX9_exchange_14 ?_
    refine lv_istore_n (lv' := [(1, .int (jz (aS 0))), (0, .ref x)]) hx hb dX9_exchange_15 rfl hl (by decide) rfl (fun ls hl => ?_)
    refine lv_aload_n hx hb dX9_exchange_16 rfl (lv_at hl 1 rfl) ?_
    refine va_get (ci := 9) (v := .ref xs) (C := RX9) (T := TX9) (N := 19) hx hb hts wfX9 hown hK.1 hP 0 rfl rfl 0 (by decide) (hts _ wm810) (fun _ h9 => h9) rfl dX9_exchange_17 ?_
    refine jv_iconst hx hb dX9_exchange_20 ?_
    refine lv_aload_n hx hb dX9_exchange_21 rfl (lv_at hl 1 rfl) ?_
    refine va_get (ci := 9) (v := .ref xs) (C := RX9) (T := TX9) (N := 19) hx hb hts wfX9 hown hK.1 hP 0 rfl rfl 0 (by decide) (hts _ wm810) (fun _ h9 => h9) rfl dX9_exchange_22 ?_
    refine jv_iconst hx hb dX9_exchange_25 ?_
    refine jv_iald hx hb hK.1 hP 1 (g := aS) rfl (by omega) (by omega) (by decide) dX9_exchange_26 ?_
    refine jv_iast hx hb hK.1 hP hD hS 1 (g := aS) rfl (by omega) (by omega) (by decide) dX9_exchange_27 (fun H locs hP hD hS => ?_)
    have hP : wP G [bMod G x xs xb xm xf xu xg xw u_1 bl ft vh vm vs ln 0 sp pl wr br (up aS 0 (aS 1)) u_2 aM aO aU aG aW] H := hP
    have hD : wD A [bMod G x xs xb xm xf xu xg xw u_1 bl ft vh vm vs ln 0 sp pl wr br (up aS 0 (aS 1)) u_2 aM aO aU aG aW] := hD
    refine lv_aload_n hx hb dX9_exchange_28 rfl (lv_at hl 1 rfl) ?_
    refine va_get (ci := 9) (v := .ref xs) (C := RX9) (T := TX9) (N := 19) hx hb hts wfX9 hown hK.1 hP 0 rfl rfl 0 (by decide) (hts _ wm810) (fun _ h9 => h9) rfl dX9_exchange_29 ?_
    refine jv_iconst hx hb dX9_exchange_32 ?_
    refine lv_iload_n hx hb dX9_exchange_33 rfl (lv_at hl 0 rfl) ?_
    refine jv_iast hx hb hK.1 hP hD hS 1 (g := up aS 0 (aS 1)) rfl (by omega) (by omega) (by decide) dX9_exchange_34 (fun H locs hP hD hS => ?_)
    have hP : wP G [bMod G x xs xb xm xf xu xg xw u_1 bl ft vh vm vs ln 0 sp pl wr br (up (up aS 0 (aS 1)) 1 (aS 0)) u_2 aM aO aU aG aW] H := hP
    have hD : wD A [bMod G x xs xb xm xf xu xg xw u_1 bl ft vh vm vs ln 0 sp pl wr br (up (up aS 0 (aS 1)) 1 (aS 0)) u_2 aM aO aU aG aW] := hD
    refine jv_iconst hx hb dX9_exchange_35 ?_
    refine lv_istore_n (lv' := [(2, .int (jz 0)), (1, .int (jz (aS 0))), (0, .ref x)]) hx hb dX9_exchange_36 rfl hl (by decide) rfl (fun ls hl => ?_)
    have K37 : ∀ (n9 : Nat) (j : Int) (f : Int → Int) (kk : Int) (bb : Int → Int) , (((20 : Int) - j).toNat) < n9 → (0 ≤ j ∧ j ≤ 20) → ((kk = min (kn + 1) 6) ∧ (∀ k : Int, 0 ≤ k → k < 43 * (kk - 1) → bb k = aB (k + 43 * (kn + 1 - kk))) ∧ (∀ k : Int, 0 ≤ k → k < 43 → bb (43 * (kk - 1) + k) = aS k)) → (exR f aS j) → (f 0 = aS 1 ∧ f 1 = aS 0 ∧ f 2 = aS 2) → ∀ (H : Heap) (locs : List Loc) (ls : Array Slot), wP G [bMod G x xs xb xm xf xu xg xw kk bl ft vh vm vs ln 0 sp pl wr br f bb aM aO aU aG aW] H → wD A [bMod G x xs xb xm xf xu xg xw kk bl ft vh vm vs ln 0 sp pl wr br f bb aM aO aU aG aW] → va_S A s.heap H locs → lv_has ls 4 [(0, .ref x), (2, .int (jz j))] → W p l e rmX9_exchange s m args below meth c H locs 0 0 Q (F0 m 37 ls []) := by
      intro n9
      induction n9 with
      | zero => intro j f kk bb hm9; exact absurd hm9 (Nat.not_lt_zero _)
      | succ n9 ih37 =>
        intro j f kk bb hm9 hj hsv hf hf3 H locs ls hP hD hS hl
        refine lv_iload_n hx hb dX9_exchange_37 rfl (lv_at hl 1 rfl) ?_
        refine jv_bipush hx hb dX9_exchange_38 (by decide) ?_
        refine jv_icmp_ge (tgt := 80) hx hb dX9_exchange_40 (by decide) (by omega) (by omega) (fun c_6 => ?_) (fun c_6 => ?_)
        · refine lv_aload_n hx hb dX9_exchange_80 rfl (lv_at hl 0 rfl) ?_
          refine va_get (ci := 9) (v := .ref xs) (C := RX9) (T := TX9) (N := 19) hx hb hts wfX9 hown hK.1 hP 0 rfl rfl 0 (by decide) (hts _ wm810) (fun _ h9 => h9) rfl dX9_exchange_81 ?_
          refine jv_iconst hx hb dX9_exchange_84 ?_
          refine jv_iald hx hb hK.1 hP 1 (g := f) rfl (by omega) (by omega) (by decide) dX9_exchange_85 ?_
          exact cret_i hx hb hr hlocks hS hP hD (Nat.le_of_ble_eq_true rfl) (Nat.le_of_ble_eq_true rfl) rfl dX9_exchange_86 [0] (by decide) ⟨kk, bb, f⟩ rfl ⟨(show (kk = min (kn + 1) 6) ∧ (∀ k : Int, 0 ≤ k → k < 43 * (kk - 1) → bb k = aB (k + 43 * (kn + 1 - kk))) ∧ (∀ k : Int, 0 ≤ k → k < 43 → bb (43 * (kk - 1) + k) = aS k) from by exact hsv), (show ∀ q : Int, 0 ≤ q → q < 20 → T9 f 0 q = T9 aS 1 q ∧ T9 f 1 q = T9 aS 0 q from by intro q q1 q2; have q3 := hf q q1 q2; rw [if_pos (by omega), if_pos (by omega)] at q3; exact q3), (show f 0 = aS 1 ∧ f 1 = aS 0 ∧ f 2 = aS 2 from by exact hf3)⟩ (congrArg (fun z : Int => some (Value.int (jz z))) (show (f 0) = aS 1 from by exact hf3.1)) hQ
        · refine lv_aload_n hx hb dX9_exchange_43 rfl (lv_at hl 0 rfl) ?_
          refine jv_iconst hx hb dX9_exchange_44 ?_
          refine lv_iload_n hx hb dX9_exchange_45 rfl (lv_at hl 1 rfl) ?_
          refine kV ⟨hx, hb, hml, hown, hts⟩ hK hA hS hP hD [.int (jz 0), .int (jz j)] [] (mX9_of l G x xs xb xm xf xu xg xw kk bl ft vh vm vs ln 0 sp pl wr br f bb aM aO aU aG aW 0 j (by omega) (by omega)) lkX9_46 [0] [] (br := []) rfl rfl (by decide) 0 9 rfl rfl rfl rfl (Nat.le_of_ble_eq_true rfl) hl.1 dX9_exchange_46 ⟨Nat.le_of_ble_eq_true rfl, Nat.le_of_ble_eq_true rfl⟩ ⟨Nat.le_of_ble_eq_true rfl, Nat.le_of_ble_eq_true rfl⟩ (fun u9 H locs hp9 hP hD hS => ?_)
          have hP : wP G [bMod G x xs xb xm xf xu xg xw kk bl ft vh vm vs ln 0 sp pl wr br f bb aM aO aU aG aW] H := hP
          have hD : wD A [bMod G x xs xb xm xf xu xg xw kk bl ft vh vm vs ln 0 sp pl wr br f bb aM aO aU aG aW] := hD
          show W p l e rmX9_exchange s m args below meth c H locs 0 0 Q (F0 m 49 ls [.int (jz (T9 f 0 j))])
          refine lv_istore_n (lv' := [(3, .int (jz (T9 f 0 j))), (0, .ref x), (2, .int (jz j))]) hx hb dX9_exchange_49 rfl hl (by decide) rfl (fun ls hl => ?_)
          refine lv_aload_n hx hb dX9_exchange_50 rfl (lv_at hl 1 rfl) ?_
          refine va_get (ci := 9) (v := .ref xs) (C := RX9) (T := TX9) (N := 19) hx hb hts wfX9 hown hK.1 hP 0 rfl rfl 0 (by decide) (hts _ wm810) (fun _ h9 => h9) rfl dX9_exchange_51 ?_
          refine jv_iconst hx hb dX9_exchange_54 ?_
          refine lv_iload_n hx hb dX9_exchange_55 rfl (lv_at hl 2 rfl) ?_
          refine jv_iadd hx hb dX9_exchange_56 ?_
          refine lv_aload_n hx hb dX9_exchange_57 rfl (lv_at hl 1 rfl) ?_
          refine jv_iconst hx hb dX9_exchange_58 ?_
          refine lv_iload_n hx hb dX9_exchange_59 rfl (lv_at hl 2 rfl) ?_
          refine kV ⟨hx, hb, hml, hown, hts⟩ hK hA hS hP hD [.int (jz 1), .int (jz j)] [.int (jz (3 + j)), .ref xs] (mX9_of l G x xs xb xm xf xu xg xw kk bl ft vh vm vs ln 0 sp pl wr br f bb aM aO aU aG aW 1 j (by omega) (by omega)) lkX9_46 [0] [] (br := []) rfl rfl (by decide) 0 9 rfl rfl rfl rfl (Nat.le_of_ble_eq_true rfl) hl.1 dX9_exchange_60 ⟨Nat.le_of_ble_eq_true rfl, Nat.le_of_ble_eq_true rfl⟩ ⟨Nat.le_of_ble_eq_true rfl, Nat.le_of_ble_eq_true rfl⟩ (fun u9 H locs hp9 hP hD hS => ?_)
          have hP : wP G [bMod G x xs xb xm xf xu xg xw kk bl ft vh vm vs ln 0 sp pl wr br f bb aM aO aU aG aW] H := hP
          have hD : wD A [bMod G x xs xb xm xf xu xg xw kk bl ft vh vm vs ln 0 sp pl wr br f bb aM aO aU aG aW] := hD
          show W p l e rmX9_exchange s m args below meth c H locs 0 0 Q (F0 m 63 ls [.int (jz (T9 f 1 j)), .int (jz (3 + j)), .ref xs])
          refine jv_iast hx hb hK.1 hP hD hS 1 (g := f) rfl (by omega) (by omega) (by decide) dX9_exchange_63 (fun H locs hP hD hS => ?_)
          have hP : wP G [bMod G x xs xb xm xf xu xg xw kk bl ft vh vm vs ln 0 sp pl wr br (up f (3 + j) (T9 f 1 j)) bb aM aO aU aG aW] H := hP
          have hD : wD A [bMod G x xs xb xm xf xu xg xw kk bl ft vh vm vs ln 0 sp pl wr br (up f (3 + j) (T9 f 1 j)) bb aM aO aU aG aW] := hD
          refine lv_aload_n hx hb dX9_exchange_64 rfl (lv_at hl 1 rfl) ?_
          refine va_get (ci := 9) (v := .ref xs) (C := RX9) (T := TX9) (N := 19) hx hb hts wfX9 hown hK.1 hP 0 rfl rfl 0 (by decide) (hts _ wm810) (fun _ h9 => h9) rfl dX9_exchange_65 ?_
          refine jv_bipush hx hb dX9_exchange_68 (by decide) ?_
          refine lv_iload_n hx hb dX9_exchange_70 rfl (lv_at hl 2 rfl) ?_
          refine jv_iadd hx hb dX9_exchange_71 ?_
          refine lv_iload_n hx hb dX9_exchange_72 rfl (lv_at hl 0 rfl) ?_
          refine jv_iast hx hb hK.1 hP hD hS 1 (g := up f (3 + j) (T9 f 1 j)) rfl (by omega) (by omega) (by decide) dX9_exchange_73 (fun H locs hP hD hS => ?_)
          have hP : wP G [bMod G x xs xb xm xf xu xg xw kk bl ft vh vm vs ln 0 sp pl wr br (up (up f (3 + j) (T9 f 1 j)) (23 + j) (T9 f 0 j)) bb aM aO aU aG aW] H := hP
          have hD : wD A [bMod G x xs xb xm xf xu xg xw kk bl ft vh vm vs ln 0 sp pl wr br (up (up f (3 + j) (T9 f 1 j)) (23 + j) (T9 f 0 j)) bb aM aO aU aG aW] := hD
          refine jv_iinc (lv' := [(2, .int (jz (j + 1))), (3, .int (jz (T9 f 0 j))), (0, .ref x)]) (k := 2) hx hb dX9_exchange_74 hl rfl (by decide) rfl (fun ls hl => ?_)
          refine lv_goto (tgt := 37) hx hb dX9_exchange_77 (by decide) ?_
          exact ih37 (j + 1) (up (up f (3 + j) (T9 f 1 j)) (23 + j) (T9 f 0 j)) kk bb (by omega) (by omega) (by exact hsv) (by exact exR_s hf (by omega) (by omega)) (by exact ⟨(up_low (by omega) (by omega)).trans ((up_low (by omega) (by omega)).trans hf3.1), (up_low (by omega) (by omega)).trans ((up_low (by omega) (by omega)).trans hf3.2.1), (up_low (by omega) (by omega)).trans ((up_low (by omega) (by omega)).trans hf3.2.2)⟩) H _ _ hP hD hS (lv_sub hl [2, 0] rfl)
    exact K37 ((((20 : Int) - 0).toNat) + 1) 0 (up (up aS 0 (aS 1)) 1 (aS 0)) u_1 u_2 (Nat.lt_succ_self _) (by omega) (by exact hsvp) (by exact exR_0) (by exact ⟨(u9ne (by omega)).trans (u9eq _ _ _), u9eq _ _ _, (u9ne (by omega)).trans (u9ne (by omega))⟩) H _ _ hP hD hS (lv_sub hl [2, 0] rfl)
  exact KH s.heap [] hP hD hS
