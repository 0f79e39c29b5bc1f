abbrev rmX9_length : Room := { frames := 2, cells := 0, slots := 0, locals := 42 }
set_option maxHeartbeats 4000000 in
set_option maxRecDepth 100000 in
theorem mX9_length (l : Launch) (G : GG) (x : Nat) (xs : Nat) (xb : Nat) (xm : Nat) (xf : Nat) (xu : Nat) (xg : Nat) (xw : Nat) (kn : Int) (bl : Int) (ft : Int) (vh : Int) (vm : Int) (vs : Int) (ln : Int) (th : Int) (sp : Int) (pl : Int) (wr : Int) (br : Int) (aS : Int → Int) (aB : Int → Int) (aM : Int → Int) (aO : Int → Int) (aU : Int → Int) (aG : Int → Int) (aW : Int → Int) (z : Int) (hz : 0 ≤ z ∧ z ≤ 1) : Ct l yX9_length cX9_length 2 (some .int) rmX9_length G [.ref x, .int (jz z)] [bMod G x xs xb xm xf xu xg xw kn bl ft vh vm vs ln th sp pl wr br aS aB aM aO aU aG aW] (fun uo : Unit => some (.int (jz (aS z)))) (fun uo => True) (fun uo => [bMod G x xs xb xm xf xu xg xw kn bl ft vh vm vs ln 0 sp pl wr br aS aB aM aO aU aG aW]) := by
  refine cof (by decide) (Nat.le_of_ble_eq_true rfl) ?_
  intro p e s m args below meth c A ls hx hb hr hml hown hts hlocks hin hA hK hP hD hS hl Q hQ
  have hown : s.vm.findClass RX9 = some m.cls := hown
  have hl : lv_has ls 2 [(0, .ref x), (1, .int (jz z))] := hl
  have KH : ∀ (H : Heap) (locs : List Loc), wP G [bMod G x xs xb xm xf xu xg xw kn bl ft vh vm vs ln th sp pl wr br aS aB aM aO aU aG aW] H → wD A [bMod G x xs xb xm xf xu xg xw kn bl ft vh vm vs ln th sp pl wr br aS aB aM aO aU aG aW] → va_S A s.heap H locs → W p l e rmX9_length s m args below meth c H locs 0 0 Q (F0 m 0 ls []) := by
    intro H locs hP hD hS
    refine lv_aload_n hx hb dX9_length_0 rfl (lv_at hl 0 rfl) ?_
    refine jv_iconst hx hb dX9_length_1 ?_
    refine va_put (ci := 9) (v := .int (jz 0)) (ty := .int) (C := RX9) (T := TX9) (N := 19) hx hb hts wfX9 tyX9 tyX9_ok nmX9 hown hK.1 hP hD hS 0 rfl rfl 12 (by decide) (hts _ wm822) (fun _ h9 => h9) rfl (by decide +kernel) rfl rfl (Nat.le_of_ble_eq_true rfl) dX9_length_2 (fun H locs hP hD hS => ?_)
    have hP : wP G [bMod G x xs xb xm xf xu xg xw kn bl ft vh vm vs ln 0 sp pl wr br aS aB aM aO aU aG aW] H := hP
    have hD : wD A [bMod G x xs xb xm xf xu xg xw kn bl ft vh vm vs ln 0 sp pl wr br aS aB aM aO aU aG aW] := hD
    refine lv_iload_n hx hb dX9_length_5 rfl (lv_at hl 1 rfl) ?_
    refine kS ⟨hx, hb, hml, hown, hts⟩ hK hA hS hP hD [.int (jz z)] [] (mX9_isText_T l G z (by omega)) lkX9_109 [] [0] (br := [bMod G x xs xb xm xf xu xg xw kn bl ft vh vm vs ln 0 sp pl wr br aS aB aM aO aU aG aW]) rfl rfl (by decide) rfl rfl (Nat.le_of_ble_eq_true rfl) hl.1 dX9_length_6 ⟨Nat.le_of_ble_eq_true rfl, Nat.le_of_ble_eq_true rfl⟩ ⟨Nat.le_of_ble_eq_true rfl, Nat.le_of_ble_eq_true rfl⟩ (fun u9 H locs hp9 hP hD hS => ?_)
    have hP : wP G [bMod G x xs xb xm xf xu xg xw kn bl ft vh vm vs ln 0 sp pl wr br aS aB aM aO aU aG aW] H := hP
    have hD : wD A [bMod G x xs xb xm xf xu xg xw kn bl ft vh vm vs ln 0 sp pl wr br aS aB aM aO aU aG aW] := hD
    show W p l e rmX9_length s m args below meth c H locs 0 0 Q (F0 m 9 ls [.int (jz 1)])
    refine jv_if_eq (tgt := 21) hx hb dX9_length_9 (by decide) (by omega) (fun c_2 => ?_) (fun c_2 => ?_)
    · exfalso; omega
    · refine lv_aload_n hx hb dX9_length_12 rfl (lv_at hl 0 rfl) ?_
      refine va_get (ci := 9) (v := .ref xs) (C := RX9) (T := TX9) (N := 19) hx hb hts wfX9 hown hK.1 hP 0 rfl rfl 0 (by decide) (hts _ wm810) (fun _ h9 => h9) rfl dX9_length_13 ?_
      refine lv_iload_n hx hb dX9_length_16 rfl (lv_at hl 1 rfl) ?_
      refine jv_iald hx hb hK.1 hP 1 (g := aS) rfl (by omega) (by omega) (by decide) dX9_length_17 ?_
      refine lv_goto (tgt := 26) hx hb dX9_length_18 (by decide) ?_
      exact cret_i hx hb hr hlocks hS hP hD (Nat.le_of_ble_eq_true rfl) (Nat.le_of_ble_eq_true rfl) rfl dX9_length_26 [0] (by decide) () rfl trivial (congrArg (fun z : Int => some (Value.int (jz z))) (show (aS z) = aS z from by first | rfl | omega | (split <;> first | rfl | omega | (exfalso; omega)))) hQ
  exact KH s.heap [] hP hD hS
abbrev rmX9_length_1 : Room := { frames := 2, cells := 0, slots := 0, locals := 42 }
set_option maxHeartbeats 4000000 in
set_option maxRecDepth 100000 in
theorem mX9_length_1 (l : Launch) (G : GG) (x : Nat) (xs : Nat) (xb : Nat) (xm : Nat) (xf : Nat) (xu : Nat) (xg : Nat) (xw : Nat) (kn : Int) (bl : Int) (ft : Int) (vh : Int) (vm : Int) (vs : Int) (ln : Int) (th : Int) (sp : Int) (pl : Int) (wr : Int) (br : Int) (aS : Int → Int) (aB : Int → Int) (aM : Int → Int) (aO : Int → Int) (aU : Int → Int) (aG : Int → Int) (aW : Int → Int) (z : Int) (hzj : jr z) (hz : ¬ (0 ≤ z ∧ z ≤ 1)) : Ct l yX9_length cX9_length 2 (some .int) rmX9_length_1 G [.ref x, .int (jz z)] [bMod G x xs xb xm xf xu xg xw kn bl ft vh vm vs ln th sp pl wr br aS aB aM aO aU aG aW] (fun uo : Unit => some (.int (jz 0))) (fun uo => True) (fun uo => [bMod G x xs xb xm xf xu xg xw kn bl ft vh vm vs ln 1 sp pl wr br aS aB aM aO aU aG aW]) := by
  refine cof (by decide) (Nat.le_of_ble_eq_true rfl) ?_
  intro p e s m args below meth c A ls hx hb hr hml hown hts hlocks hin hA hK hP hD hS hl Q hQ
  have hown : s.vm.findClass RX9 = some m.cls := hown
  have hl : lv_has ls 2 [(0, .ref x), (1, .int (jz z))] := hl
  have KH : ∀ (H : Heap) (locs : List Loc), wP G [bMod G x xs xb xm xf xu xg xw kn bl ft vh vm vs ln th sp pl wr br aS aB aM aO aU aG aW] H → wD A [bMod G x xs xb xm xf xu xg xw kn bl ft vh vm vs ln th sp pl wr br aS aB aM aO aU aG aW] → va_S A s.heap H locs → W p l e rmX9_length_1 s m args below meth c H locs 0 0 Q (F0 m 0 ls []) := by
    intro H locs hP hD hS
    refine lv_aload_n hx hb dX9_length_0 rfl (lv_at hl 0 rfl) ?_
    refine jv_iconst hx hb dX9_length_1 ?_
    refine va_put (ci := 9) (v := .int (jz 0)) (ty := .int) (C := RX9) (T := TX9) (N := 19) hx hb hts wfX9 tyX9 tyX9_ok nmX9 hown hK.1 hP hD hS 0 rfl rfl 12 (by decide) (hts _ wm822) (fun _ h9 => h9) rfl (by decide +kernel) rfl rfl (Nat.le_of_ble_eq_true rfl) dX9_length_2 (fun H locs hP hD hS => ?_)
    have hP : wP G [bMod G x xs xb xm xf xu xg xw kn bl ft vh vm vs ln 0 sp pl wr br aS aB aM aO aU aG aW] H := hP
    have hD : wD A [bMod G x xs xb xm xf xu xg xw kn bl ft vh vm vs ln 0 sp pl wr br aS aB aM aO aU aG aW] := hD
    refine lv_iload_n hx hb dX9_length_5 rfl (lv_at hl 1 rfl) ?_
    refine kS ⟨hx, hb, hml, hown, hts⟩ hK hA hS hP hD [.int (jz z)] [] (mX9_isText_F l G z (by omega) (by omega)) lkX9_109 [] [0] (br := [bMod G x xs xb xm xf xu xg xw kn bl ft vh vm vs ln 0 sp pl wr br aS aB aM aO aU aG aW]) rfl rfl (by decide) rfl rfl (Nat.le_of_ble_eq_true rfl) hl.1 dX9_length_6 ⟨Nat.le_of_ble_eq_true rfl, Nat.le_of_ble_eq_true rfl⟩ ⟨Nat.le_of_ble_eq_true rfl, Nat.le_of_ble_eq_true rfl⟩ (fun u9 H locs hp9 hP hD hS => ?_)
    have hP : wP G [bMod G x xs xb xm xf xu xg xw kn bl ft vh vm vs ln 0 sp pl wr br aS aB aM aO aU aG aW] H := hP
    have hD : wD A [bMod G x xs xb xm xf xu xg xw kn bl ft vh vm vs ln 0 sp pl wr br aS aB aM aO aU aG aW] := hD
    show W p l e rmX9_length_1 s m args below meth c H locs 0 0 Q (F0 m 9 ls [.int (jz 0)])
    refine jv_if_eq (tgt := 21) hx hb dX9_length_9 (by decide) (by omega) (fun c_2 => ?_) (fun c_2 => ?_)
    · refine lv_aload_n hx hb dX9_length_21 rfl (lv_at hl 0 rfl) ?_
      refine jv_iconst hx hb dX9_length_22 ?_
      refine kV ⟨hx, hb, hml, hown, hts⟩ hK hA hS hP hD [.int (jz 1)] [] (mX9_throwing l G x xs xb xm xf xu xg xw kn bl ft vh vm vs ln 0 sp pl wr br aS aB aM aO aU aG aW 1 ) lkX9_98 [0] [] (br := []) rfl rfl (by decide) 0 9 rfl rfl rfl rfl (Nat.le_of_ble_eq_true rfl) hl.1 dX9_length_23 ⟨Nat.le_of_ble_eq_true rfl, Nat.le_of_ble_eq_true rfl⟩ ⟨Nat.le_of_ble_eq_true rfl, Nat.le_of_ble_eq_true rfl⟩ (fun u9 H locs hp9 hP hD hS => ?_)
      have hP : wP G [bMod G x xs xb xm xf xu xg xw kn bl ft vh vm vs ln 1 sp pl wr br aS aB aM aO aU aG aW] H := hP
      have hD : wD A [bMod G x xs xb xm xf xu xg xw kn bl ft vh vm vs ln 1 sp pl wr br aS aB aM aO aU aG aW] := hD
      show W p l e rmX9_length_1 s m args below meth c H locs 0 0 Q (F0 m 26 ls [.int (jz 0)])
      exact cret_i hx hb hr hlocks hS hP hD (Nat.le_of_ble_eq_true rfl) (Nat.le_of_ble_eq_true rfl) rfl dX9_length_26 [0] (by decide) () rfl trivial (congrArg (fun z : Int => some (Value.int (jz z))) (show 0 = 0 from by first | rfl | omega | (split <;> first | rfl | omega | (exfalso; omega)))) hQ
    · exfalso; omega
  exact KH s.heap [] hP hD hS
abbrev rmX9_letter : Room := { frames := 2, cells := 0, slots := 0, locals := 42 }
set_option maxHeartbeats 4000000 in
set_option maxRecDepth 100000 in
theorem mX9_letter (l : Launch) (G : GG) (x : Nat) (xs : Nat) (xb : Nat) (xm : Nat) (xf : Nat) (xu : Nat) (xg : Nat) (xw : Nat) (kn : Int) (bl : Int) (ft : Int) (vh : Int) (vm : Int) (vs : Int) (ln : Int) (th : Int) (sp : Int) (pl : Int) (wr : Int) (br : Int) (aS : Int → Int) (aB : Int → Int) (aM : Int → Int) (aO : Int → Int) (aU : Int → Int) (aG : Int → Int) (aW : Int → Int) (z : Int) (i : Int) (hs0 : 0 ≤ aS 0 ∧ aS 0 ≤ 20) (hs1 : 0 ≤ aS 1 ∧ aS 1 ≤ 20) (hz : 0 ≤ z ∧ z ≤ 1) (hi : 0 ≤ i ∧ i ≤ aS z - 1) : Ct l yX9_letter cX9_letter 3 (some .int) rmX9_letter G [.ref x, .int (jz z), .int (jz i)] [bMod G x xs xb xm xf xu xg xw kn bl ft vh vm vs ln th sp pl wr br aS aB aM aO aU aG aW] (fun uo : Unit => some (.int (jz (T9 aS z i)))) (fun uo => True) (fun uo => [bMod G x xs xb xm xf xu xg xw kn bl ft vh vm vs ln 0 sp pl wr br aS aB aM aO aU aG aW]) := by
  refine cof (by decide) (Nat.le_of_ble_eq_true rfl) ?_
  intro p e s m args below meth c A ls hx hb hr hml hown hts hlocks hin hA hK hP hD hS hl Q hQ
  have hown : s.vm.findClass RX9 = some m.cls := hown
  have hl : lv_has ls 3 [(0, .ref x), (1, .int (jz z)), (2, .int (jz i))] := hl
  have KH : ∀ (H : Heap) (locs : List Loc), wP G [bMod G x xs xb xm xf xu xg xw kn bl ft vh vm vs ln th sp pl wr br aS aB aM aO aU aG aW] H → wD A [bMod G x xs xb xm xf xu xg xw kn bl ft vh vm vs ln th sp pl wr br aS aB aM aO aU aG aW] → va_S A s.heap H locs → W p l e rmX9_letter s m args below meth c H locs 0 0 Q (F0 m 0 ls []) := by
    intro H locs hP hD hS
    have hsz : 0 ≤ z → z ≤ 1 → 0 ≤ aS z ∧ aS z ≤ 20 := by intro q1 q2; rcases (show z = 0 ∨ z = 1 by omega) with e9 | e9 <;> rw [e9] <;> assumption
    have hsz9 := hsz hz.1 hz.2
    refine lv_aload_n hx hb dX9_letter_0 rfl (lv_at hl 0 rfl) ?_
    refine jv_iconst hx hb dX9_letter_1 ?_
    refine va_put (ci := 9) (v := .int (jz 0)) (ty := .int) (C := RX9) (T := TX9) (N := 19) hx hb hts wfX9 tyX9 tyX9_ok nmX9 hown hK.1 hP hD hS 0 rfl rfl 12 (by decide) (hts _ wm822) (fun _ h9 => h9) rfl (by decide +kernel) rfl rfl (Nat.le_of_ble_eq_true rfl) dX9_letter_2 (fun H locs hP hD hS => ?_)
    have hP : wP G [bMod G x xs xb xm xf xu xg xw kn bl ft vh vm vs ln 0 sp pl wr br aS aB aM aO aU aG aW] H := hP
    have hD : wD A [bMod G x xs xb xm xf xu xg xw kn bl ft vh vm vs ln 0 sp pl wr br aS aB aM aO aU aG aW] := hD
    refine lv_iload_n hx hb dX9_letter_5 rfl (lv_at hl 1 rfl) ?_
    refine kS ⟨hx, hb, hml, hown, hts⟩ hK hA hS hP hD [.int (jz z)] [] (mX9_isText_T l G z (by omega)) lkX9_109 [] [0] (br := [bMod G x xs xb xm xf xu xg xw kn bl ft vh vm vs ln 0 sp pl wr br aS aB aM aO aU aG aW]) rfl rfl (by decide) rfl rfl (Nat.le_of_ble_eq_true rfl) hl.1 dX9_letter_6 ⟨Nat.le_of_ble_eq_true rfl, Nat.le_of_ble_eq_true rfl⟩ ⟨Nat.le_of_ble_eq_true rfl, Nat.le_of_ble_eq_true rfl⟩ (fun u9 H locs hp9 hP hD hS => ?_)
    have hP : wP G [bMod G x xs xb xm xf xu xg xw kn bl ft vh vm vs ln 0 sp pl wr br aS aB aM aO aU aG aW] H := hP
    have hD : wD A [bMod G x xs xb xm xf xu xg xw kn bl ft vh vm vs ln 0 sp pl wr br aS aB aM aO aU aG aW] := hD
    show W p l e rmX9_letter s m args below meth c H locs 0 0 Q (F0 m 9 ls [.int (jz 1)])
    refine jv_if_eq (tgt := 37) hx hb dX9_letter_9 (by decide) (by omega) (fun c_2 => ?_) (fun c_2 => ?_)
    · exfalso; omega
    · refine lv_iload_n hx hb dX9_letter_12 rfl (lv_at hl 2 rfl) ?_
      refine jv_iconst hx hb dX9_letter_13 ?_
      refine lv_aload_n hx hb dX9_letter_14 rfl (lv_at hl 0 rfl) ?_
      refine va_get (ci := 9) (v := .ref xs) (C := RX9) (T := TX9) (N := 19) hx hb hts wfX9 hown hK.1 hP 0 rfl rfl 0 (by decide) (hts _ wm810) (fun _ h9 => h9) rfl dX9_letter_15 ?_
      refine lv_iload_n hx hb dX9_letter_18 rfl (lv_at hl 1 rfl) ?_
      refine jv_iald hx hb hK.1 hP 1 (g := aS) rfl (by omega) (by omega) (by decide) dX9_letter_19 ?_
      refine jv_iconst hx hb dX9_letter_20 ?_
      refine jv_isub hx hb dX9_letter_21 ?_
      refine kS ⟨hx, hb, hml, hown, hts⟩ hK hA hS hP hD [.int (jz i), .int (jz 0), .int (jz ((aS z) - 1))] [] (mX9_in_T l G i 0 ((aS z) - 1) (by omega) (by omega) (by omega) (by omega)) lkX9_42 [] [0] (br := [bMod G x xs xb xm xf xu xg xw kn bl ft vh vm vs ln 0 sp pl wr br aS aB aM aO aU aG aW]) rfl rfl (by decide) rfl rfl (Nat.le_of_ble_eq_true rfl) hl.1 dX9_letter_22 ⟨Nat.le_of_ble_eq_true rfl, Nat.le_of_ble_eq_true rfl⟩ ⟨Nat.le_of_ble_eq_true rfl, Nat.le_of_ble_eq_true rfl⟩ (fun u9 H locs hp9 hP hD hS => ?_)
      have hP : wP G [bMod G x xs xb xm xf xu xg xw kn bl ft vh vm vs ln 0 sp pl wr br aS aB aM aO aU aG aW] H := hP
      have hD : wD A [bMod G x xs xb xm xf xu xg xw kn bl ft vh vm vs ln 0 sp pl wr br aS aB aM aO aU aG aW] := hD
      show W p l e rmX9_letter s m args below meth c H locs 0 0 Q (F0 m 25 ls [.int (jz 1)])
      refine jv_if_eq (tgt := 37) hx hb dX9_letter_25 (by decide) (by omega) (fun c_4 => ?_) (fun c_4 => ?_)
      · exfalso; omega
      · refine lv_aload_n hx hb dX9_letter_28 rfl (lv_at hl 0 rfl) ?_
        refine lv_iload_n hx hb dX9_letter_29 rfl (lv_at hl 1 rfl) ?_
        refine lv_iload_n hx hb dX9_letter_30 rfl (lv_at hl 2 rfl) ?_
        refine kV ⟨hx, hb, hml, hown, hts⟩ hK hA hS hP hD [.int (jz z), .int (jz i)] [] (mX9_of l G x xs xb xm xf xu xg xw kn bl ft vh vm vs ln 0 sp pl wr br aS aB aM aO aU aG aW z i (by omega) (by omega)) lkX9_46 [0] [] (br := []) rfl rfl (by decide) 0 9 rfl rfl rfl rfl (Nat.le_of_ble_eq_true rfl) hl.1 dX9_letter_31 ⟨Nat.le_of_ble_eq_true rfl, Nat.le_of_ble_eq_true rfl⟩ ⟨Nat.le_of_ble_eq_true rfl, Nat.le_of_ble_eq_true rfl⟩ (fun u9 H locs hp9 hP hD hS => ?_)
        have hP : wP G [bMod G x xs xb xm xf xu xg xw kn bl ft vh vm vs ln 0 sp pl wr br aS aB aM aO aU aG aW] H := hP
        have hD : wD A [bMod G x xs xb xm xf xu xg xw kn bl ft vh vm vs ln 0 sp pl wr br aS aB aM aO aU aG aW] := hD
        show W p l e rmX9_letter s m args below meth c H locs 0 0 Q (F0 m 34 ls [.int (jz (T9 aS z i))])
        refine lv_goto (tgt := 42) hx hb dX9_letter_34 (by decide) ?_
        exact cret_i hx hb hr hlocks hS hP hD (Nat.le_of_ble_eq_true rfl) (Nat.le_of_ble_eq_true rfl) rfl dX9_letter_42 [0] (by decide) () rfl trivial (congrArg (fun z : Int => some (Value.int (jz z))) (show (T9 aS z i) = T9 aS z i from by first | rfl | omega | (split <;> first | rfl | omega | (exfalso; omega)))) hQ
  exact KH s.heap [] hP hD hS
abbrev rmX9_distance : Room := { frames := 4, cells := 0, slots := 0, locals := 87 }
set_option maxHeartbeats 4000000 in
set_option maxRecDepth 100000 in
theorem mX9_distance (l : Launch) (G : GG) (x : Nat) (xs : Nat) (xb : Nat) (xm : Nat) (xf : Nat) (xu : Nat) (xg : Nat) (xw : Nat) (kn : Int) (bl : Int) (ft : Int) (vh : Int) (vm : Int) (vs : Int) (ln : Int) (th : Int) (sp : Int) (pl : Int) (wr : Int) (br : Int) (aS : Int → Int) (aB : Int → Int) (aM : Int → Int) (aO : Int → Int) (aU : Int → Int) (aG : Int → Int) (aW : Int → Int) (hs0 : 0 ≤ aS 0 ∧ aS 0 ≤ 20) (hs1 : 0 ≤ aS 1 ∧ aS 1 ≤ 20) (hg0 : ∀ j : Int, 0 ≤ j → j < aS 0 → 0 ≤ T9 aS 0 j ∧ T9 aS 0 j < 4) (hg1 : ∀ j : Int, 0 ≤ j → j < aS 1 → 0 ≤ T9 aS 1 j ∧ T9 aS 1 j < 4) : Ct l yX9_distance cX9_distance 1 (some .int) rmX9_distance G [.ref x] [bMod G x xs xb xm xf xu xg xw kn bl ft vh vm vs ln th sp pl wr br aS aB aM aO aU aG aW] (fun uo : (Int → Int) => some (.int (jz (D 1 (T9 aS 0) (T9 aS 1) (aS 0) (aS 1))))) (fun uo => True) (fun uo => [bMod G x xs xb xm xf xu xg xw kn bl ft vh vm vs ln 0 sp pl wr br aS aB aM aO aU uo aW]) := by
  refine cof (by decide) (Nat.le_of_ble_eq_true rfl) ?_
  intro p e s m args below meth c A ls hx hb hr hml hown hts hlocks hin hA hK hP hD hS hl Q hQ
  have hown : s.vm.findClass RX9 = some m.cls := hown
  have hl : lv_has ls 1 [(0, .ref x)] := hl
  have KH : ∀ (H : Heap) (locs : List Loc), wP G [bMod G x xs xb xm xf xu xg xw kn bl ft vh vm vs ln th sp pl wr br aS aB aM aO aU aG aW] H → wD A [bMod G x xs xb xm xf xu xg xw kn bl ft vh vm vs ln th sp pl wr br aS aB aM aO aU aG aW] → va_S A s.heap H locs → W p l e rmX9_distance s m args below meth c H locs 0 0 Q (F0 m 0 ls []) := by
    intro H locs hP hD hS
    refine lv_aload_n hx hb dX9_distance_0 rfl (lv_at hl 0 rfl) ?_
    refine jv_iconst hx hb dX9_distance_1 ?_
    refine va_put (ci := 9) (v := .int (jz 0)) (ty := .int) (C := RX9) (T := TX9) (N := 19) hx hb hts wfX9 tyX9 tyX9_ok nmX9 hown hK.1 hP hD hS 0 rfl rfl 12 (by decide) (hts _ wm822) (fun _ h9 => h9) rfl (by decide +kernel) rfl rfl (Nat.le_of_ble_eq_true rfl) dX9_distance_2 (fun H locs hP hD hS => ?_)
    have hP : wP G [bMod G x xs xb xm xf xu xg xw kn bl ft vh vm vs ln 0 sp pl wr br aS aB aM aO aU aG aW] H := hP
    have hD : wD A [bMod G x xs xb xm xf xu xg xw kn bl ft vh vm vs ln 0 sp pl wr br aS aB aM aO aU aG aW] := hD
    refine lv_aload_n hx hb dX9_distance_5 rfl (lv_at hl 0 rfl) ?_
    refine kV ⟨hx, hb, hml, hown, hts⟩ hK hA hS hP hD [] [] (mX9_whole l G x xs xb xm xf xu xg xw kn bl ft vh vm vs ln 0 sp pl wr br aS aB aM aO aU aG aW (by omega) (by omega) (by exact hg0) (by exact hg1)) lkX9_112 [0] [] (br := []) rfl rfl (by decide) 0 9 rfl rfl rfl rfl (Nat.le_of_ble_eq_true rfl) hl.1 dX9_distance_6 ⟨Nat.le_of_ble_eq_true rfl, Nat.le_of_ble_eq_true rfl⟩ ⟨Nat.le_of_ble_eq_true rfl, Nat.le_of_ble_eq_true rfl⟩ (fun u9 H locs hp9 hP hD hS => ?_)
    obtain ⟨u_1, rfl⟩ : ∃ z, z = u9 := ⟨_, rfl⟩
    have hP : wP G [bMod G x xs xb xm xf xu xg xw kn bl ft vh vm vs ln 0 sp pl wr br aS aB aM aO aU u_1 aW] H := hP
    have hD : wD A [bMod G x xs xb xm xf xu xg xw kn bl ft vh vm vs ln 0 sp pl wr br aS aB aM aO aU u_1 aW] := hD
    show W p l e rmX9_distance s m args below meth c H locs 0 0 Q (F0 m 9 ls [.int (jz (D 1 (T9 aS 0) (T9 aS 1) (aS 0) (aS 1)))])
    exact cret_i hx hb hr hlocks hS hP hD (Nat.le_of_ble_eq_true rfl) (Nat.le_of_ble_eq_true rfl) rfl dX9_distance_9 [0] (by decide) u_1 rfl trivial (congrArg (fun z : Int => some (Value.int (jz z))) (show (D 1 (T9 aS 0) (T9 aS 1) (aS 0) (aS 1)) = D 1 (T9 aS 0) (T9 aS 1) (aS 0) (aS 1) from by first | rfl | omega | (split <;> first | rfl | omega | (exfalso; omega)))) hQ
  exact KH s.heap [] hP hD hS
abbrev rmX9_prefix : Room := { frames := 3, cells := 0, slots := 0, locals := 67 }
set_option maxHeartbeats 4000000 in
set_option maxRecDepth 100000 in
theorem mX9_prefix (l : Launch) (G : GG) (x : Nat) (xs : Nat) (xb : Nat) (xm : Nat) (xf : Nat) (xu : Nat) (xg : Nat) (xw : Nat) (kn : Int) (bl : Int) (ft : Int) (vh : Int) (vm : Int) (vs : Int) (ln : Int) (th : Int) (sp : Int) (pl : Int) (wr : Int) (br : Int) (aS : Int → Int) (aB : Int → Int) (aM : Int → Int) (aO : Int → Int) (aU : Int → Int) (aG : Int → Int) (aW : Int → Int) (i : Int) (j : Int) (hs0 : 0 ≤ aS 0 ∧ aS 0 ≤ 20) (hs1 : 0 ≤ aS 1 ∧ aS 1 ≤ 20) (hg0 : ∀ j : Int, 0 ≤ j → j < aS 0 → 0 ≤ T9 aS 0 j ∧ T9 aS 0 j < 4) (hg1 : ∀ j : Int, 0 ≤ j → j < aS 1 → 0 ≤ T9 aS 1 j ∧ T9 aS 1 j < 4) (hi : 0 ≤ i ∧ i ≤ aS 0) (hj : 0 ≤ j ∧ j ≤ aS 1) : Ct l yX9_prefix cX9_prefix 3 (some .int) rmX9_prefix G [.ref x, .int (jz i), .int (jz j)] [bMod G x xs xb xm xf xu xg xw kn bl ft vh vm vs ln th sp pl wr br aS aB aM aO aU aG aW] (fun uo : (Int → Int) => some (.int (jz (D 1 (T9 aS 0) (T9 aS 1) i j)))) (fun uo => True) (fun uo => [bMod G x xs xb xm xf xu xg xw kn bl ft vh vm vs ln 0 sp pl wr br aS aB aM aO aU uo aW]) := by
  refine cof (by decide) (Nat.le_of_ble_eq_true rfl) ?_
  intro p e s m args below meth c A ls hx hb hr hml hown hts hlocks hin hA hK hP hD hS hl Q hQ
  have hown : s.vm.findClass RX9 = some m.cls := hown
  have hl : lv_has ls 3 [(0, .ref x), (1, .int (jz i)), (2, .int (jz j))] := hl
  have KH : ∀ (H : Heap) (locs : List Loc), wP G [bMod G x xs xb xm xf xu xg xw kn bl ft vh vm vs ln th sp pl wr br aS aB aM aO aU aG aW] H → wD A [bMod G x xs xb xm xf xu xg xw kn bl ft vh vm vs ln th sp pl wr br aS aB aM aO aU aG aW] → va_S A s.heap H locs → W p l e rmX9_prefix s m args below meth c H locs 0 0 Q (F0 m 0 ls []) := by
    intro H locs hP hD hS
    refine lv_aload_n hx hb dX9_prefix_0 rfl (lv_at hl 0 rfl) ?_
    refine jv_iconst hx hb dX9_prefix_1 ?_
    refine va_put (ci := 9) (v := .int (jz 0)) (ty := .int) (C := RX9) (T := TX9) (N := 19) hx hb hts wfX9 tyX9 tyX9_ok nmX9 hown hK.1 hP hD hS 0 rfl rfl 12 (by decide) (hts _ wm822) (fun _ h9 => h9) rfl (by decide +kernel) rfl rfl (Nat.le_of_ble_eq_true rfl) dX9_prefix_2 (fun H locs hP hD hS => ?_)
    have hP : wP G [bMod G x xs xb xm xf xu xg xw kn bl ft vh vm vs ln 0 sp pl wr br aS aB aM aO aU aG aW] H := hP
    have hD : wD A [bMod G x xs xb xm xf xu xg xw kn bl ft vh vm vs ln 0 sp pl wr br aS aB aM aO aU aG aW] := hD
    refine lv_aload_n hx hb dX9_prefix_5 rfl (lv_at hl 0 rfl) ?_
    refine jv_iconst hx hb dX9_prefix_6 ?_
    refine kV ⟨hx, hb, hml, hown, hts⟩ hK hA hS hP hD [.int (jz 0)] [] (mX9_lay l G x xs xb xm xf xu xg xw kn bl ft vh vm vs ln 0 sp pl wr br aS aB aM aO aU aG aW 0 1 (by omega) (by omega) (by exact hg0) (by exact hg1) (by omega) (by omega)) lkX9_60 [0] [] (br := []) rfl rfl (by decide) 0 9 rfl rfl rfl rfl (Nat.le_of_ble_eq_true rfl) hl.1 dX9_prefix_7 ⟨Nat.le_of_ble_eq_true rfl, Nat.le_of_ble_eq_true rfl⟩ ⟨Nat.le_of_ble_eq_true rfl, Nat.le_of_ble_eq_true rfl⟩ (fun u9 H locs hp9 hP hD hS => ?_)
    obtain ⟨u_1, rfl⟩ : ∃ z, z = u9 := ⟨_, rfl⟩
    have hc_2 : ∀ x y : Int, 0 ≤ x → x ≤ aS 0 → 0 ≤ y → y ≤ aS 1 → u_1 (21 * x + y) = D 1 (T9 aS 0) (T9 aS 1) x y := hp9
    have hP : wP G [bMod G x xs xb xm xf xu xg xw kn bl ft vh vm vs ln 0 sp pl wr br aS aB aM aO aU u_1 aW] H := hP
    have hD : wD A [bMod G x xs xb xm xf xu xg xw kn bl ft vh vm vs ln 0 sp pl wr br aS aB aM aO aU u_1 aW] := hD
    show W p l e rmX9_prefix s m args below meth c H locs 0 0 Q (F0 m 10 ls [])
    have hc1 := hc_2
    refine lv_iload_n hx hb dX9_prefix_10 rfl (lv_at hl 1 rfl) ?_
    refine jv_iconst hx hb dX9_prefix_11 ?_
    refine lv_aload_n hx hb dX9_prefix_12 rfl (lv_at hl 0 rfl) ?_
    refine va_get (ci := 9) (v := .ref xs) (C := RX9) (T := TX9) (N := 19) hx hb hts wfX9 hown hK.1 hP 0 rfl rfl 0 (by decide) (hts _ wm810) (fun _ h9 => h9) rfl dX9_prefix_13 ?_
    refine jv_iconst hx hb dX9_prefix_16 ?_
    refine jv_iald hx hb hK.1 hP 1 (g := aS) rfl (by omega) (by omega) (by decide) dX9_prefix_17 ?_
    refine kS ⟨hx, hb, hml, hown, hts⟩ hK hA hS hP hD [.int (jz i), .int (jz 0), .int (jz (aS 0))] [] (mX9_in_T l G i 0 (aS 0) (by omega) (by omega) (by omega) (by omega)) lkX9_42 [] [0] (br := [bMod G x xs xb xm xf xu xg xw kn bl ft vh vm vs ln 0 sp pl wr br aS aB aM aO aU u_1 aW]) rfl rfl (by decide) rfl rfl (Nat.le_of_ble_eq_true rfl) hl.1 dX9_prefix_18 ⟨Nat.le_of_ble_eq_true rfl, Nat.le_of_ble_eq_true rfl⟩ ⟨Nat.le_of_ble_eq_true rfl, Nat.le_of_ble_eq_true rfl⟩ (fun u9 H locs hp9 hP hD hS => ?_)
    have hP : wP G [bMod G x xs xb xm xf xu xg xw kn bl ft vh vm vs ln 0 sp pl wr br aS aB aM aO aU u_1 aW] H := hP
    have hD : wD A [bMod G x xs xb xm xf xu xg xw kn bl ft vh vm vs ln 0 sp pl wr br aS aB aM aO aU u_1 aW] := hD
    show W p l e rmX9_prefix s m args below meth c H locs 0 0 Q (F0 m 21 ls [.int (jz 1)])
    refine jv_if_eq (tgt := 47) hx hb dX9_prefix_21 (by decide) (by omega) (fun c_4 => ?_) (fun c_4 => ?_)
    · exfalso; omega
    · refine lv_iload_n hx hb dX9_prefix_24 rfl (lv_at hl 2 rfl) ?_
      refine jv_iconst hx hb dX9_prefix_25 ?_
      refine lv_aload_n hx hb dX9_prefix_26 rfl (lv_at hl 0 rfl) ?_
      refine va_get (ci := 9) (v := .ref xs) (C := RX9) (T := TX9) (N := 19) hx hb hts wfX9 hown hK.1 hP 0 rfl rfl 0 (by decide) (hts _ wm810) (fun _ h9 => h9) rfl dX9_prefix_27 ?_
      refine jv_iconst hx hb dX9_prefix_30 ?_
      refine jv_iald hx hb hK.1 hP 1 (g := aS) rfl (by omega) (by omega) (by decide) dX9_prefix_31 ?_
      refine kS ⟨hx, hb, hml, hown, hts⟩ hK hA hS hP hD [.int (jz j), .int (jz 0), .int (jz (aS 1))] [] (mX9_in_T l G j 0 (aS 1) (by omega) (by omega) (by omega) (by omega)) lkX9_42 [] [0] (br := [bMod G x xs xb xm xf xu xg xw kn bl ft vh vm vs ln 0 sp pl wr br aS aB aM aO aU u_1 aW]) rfl rfl (by decide) rfl rfl (Nat.le_of_ble_eq_true rfl) hl.1 dX9_prefix_32 ⟨Nat.le_of_ble_eq_true rfl, Nat.le_of_ble_eq_true rfl⟩ ⟨Nat.le_of_ble_eq_true rfl, Nat.le_of_ble_eq_true rfl⟩ (fun u9 H locs hp9 hP hD hS => ?_)
      have hP : wP G [bMod G x xs xb xm xf xu xg xw kn bl ft vh vm vs ln 0 sp pl wr br aS aB aM aO aU u_1 aW] H := hP
      have hD : wD A [bMod G x xs xb xm xf xu xg xw kn bl ft vh vm vs ln 0 sp pl wr br aS aB aM aO aU u_1 aW] := hD
      show W p l e rmX9_prefix s m args below meth c H locs 0 0 Q (F0 m 35 ls [.int (jz 1)])
      refine jv_if_eq (tgt := 47) hx hb dX9_prefix_35 (by decide) (by omega) (fun c_6 => ?_) (fun c_6 => ?_)
      · exfalso; omega
      · refine lv_aload_n hx hb dX9_prefix_38 rfl (lv_at hl 0 rfl) ?_
        refine lv_iload_n hx hb dX9_prefix_39 rfl (lv_at hl 1 rfl) ?_
        refine lv_iload_n hx hb dX9_prefix_40 rfl (lv_at hl 2 rfl) ?_
        refine kV ⟨hx, hb, hml, hown, hts⟩ hK hA hS hP hD [.int (jz i), .int (jz j)] [] (mX9_d l G x xs xb xm xf xu xg xw kn bl ft vh vm vs ln 0 sp pl wr br aS aB aM aO aU u_1 aW i j (by omega) (by omega)) lkX9_50 [0] [] (br := []) rfl rfl (by decide) 0 9 rfl rfl rfl rfl (Nat.le_of_ble_eq_true rfl) hl.1 dX9_prefix_41 ⟨Nat.le_of_ble_eq_true rfl, Nat.le_of_ble_eq_true rfl⟩ ⟨Nat.le_of_ble_eq_true rfl, Nat.le_of_ble_eq_true rfl⟩ (fun u9 H locs hp9 hP hD hS => ?_)
        have hP : wP G [bMod G x xs xb xm xf xu xg xw kn bl ft vh vm vs ln 0 sp pl wr br aS aB aM aO aU u_1 aW] H := hP
        have hD : wD A [bMod G x xs xb xm xf xu xg xw kn bl ft vh vm vs ln 0 sp pl wr br aS aB aM aO aU u_1 aW] := hD
        show W p l e rmX9_prefix s m args below meth c H locs 0 0 Q (F0 m 44 ls [.int (jz (u_1 (21 * i + j)))])
        refine lv_goto (tgt := 52) hx hb dX9_prefix_44 (by decide) ?_
        exact cret_i hx hb hr hlocks hS hP hD (Nat.le_of_ble_eq_true rfl) (Nat.le_of_ble_eq_true rfl) rfl dX9_prefix_52 [0] (by decide) u_1 rfl trivial (congrArg (fun z : Int => some (Value.int (jz z))) (show (u_1 (21 * i + j)) = D 1 (T9 aS 0) (T9 aS 1) i j from by exact hc1 _ _ (by omega) (by omega) (by omega) (by omega))) hQ
  exact KH s.heap [] hP hD hS
abbrev rmX9_prefix_1 : Room := { frames := 3, cells := 0, slots := 0, locals := 67 }
set_option maxHeartbeats 4000000 in
set_option maxRecDepth 100000 in
theorem mX9_prefix_1 (l : Launch) (G : GG) (x : Nat) (xs : Nat) (xb : Nat) (xm : Nat) (xf : Nat) (xu : Nat) (xg : Nat) (xw : Nat) (kn : Int) (bl : Int) (ft : Int) (vh : Int) (vm : Int) (vs : Int) (ln : Int) (th : Int) (sp : Int) (pl : Int) (wr : Int) (br : Int) (aS : Int → Int) (aB : Int → Int) (aM : Int → Int) (aO : Int → Int) (aU : Int → Int) (aG : Int → Int) (aW : Int → Int) (i : Int) (j : Int) (hs0 : 0 ≤ aS 0 ∧ aS 0 ≤ 20) (hs1 : 0 ≤ aS 1 ∧ aS 1 ≤ 20) (hg0 : ∀ j : Int, 0 ≤ j → j < aS 0 → 0 ≤ T9 aS 0 j ∧ T9 aS 0 j < 4) (hg1 : ∀ j : Int, 0 ≤ j → j < aS 1 → 0 ≤ T9 aS 1 j ∧ T9 aS 1 j < 4) (hi : jr i) (hj : jr j) (hbad : ¬ ((0 ≤ i ∧ i ≤ aS 0) ∧ 0 ≤ j ∧ j ≤ aS 1)) : Ct l yX9_prefix cX9_prefix 3 (some .int) rmX9_prefix_1 G [.ref x, .int (jz i), .int (jz j)] [bMod G x xs xb xm xf xu xg xw kn bl ft vh vm vs ln th sp pl wr br aS aB aM aO aU aG aW] (fun uo : (Int → Int) => some (.int (jz 0))) (fun uo => True) (fun uo => [bMod G x xs xb xm xf xu xg xw kn bl ft vh vm vs ln 1 sp pl wr br aS aB aM aO aU uo aW]) := by
  refine cof (by decide) (Nat.le_of_ble_eq_true rfl) ?_
  intro p e s m args below meth c A ls hx hb hr hml hown hts hlocks hin hA hK hP hD hS hl Q hQ
  have hown : s.vm.findClass RX9 = some m.cls := hown
  have hl : lv_has ls 3 [(0, .ref x), (1, .int (jz i)), (2, .int (jz j))] := hl
  have KH : ∀ (H : Heap) (locs : List Loc), wP G [bMod G x xs xb xm xf xu xg xw kn bl ft vh vm vs ln th sp pl wr br aS aB aM aO aU aG aW] H → wD A [bMod G x xs xb xm xf xu xg xw kn bl ft vh vm vs ln th sp pl wr br aS aB aM aO aU aG aW] → va_S A s.heap H locs → W p l e rmX9_prefix_1 s m args below meth c H locs 0 0 Q (F0 m 0 ls []) := by
    intro H locs hP hD hS
    refine lv_aload_n hx hb dX9_prefix_0 rfl (lv_at hl 0 rfl) ?_
    refine jv_iconst hx hb dX9_prefix_1 ?_
    refine va_put (ci := 9) (v := .int (jz 0)) (ty := .int) (C := RX9) (T := TX9) (N := 19) hx hb hts wfX9 tyX9 tyX9_ok nmX9 hown hK.1 hP hD hS 0 rfl rfl 12 (by decide) (hts _ wm822) (fun _ h9 => h9) rfl (by decide +kernel) rfl rfl (Nat.le_of_ble_eq_true rfl) dX9_prefix_2 (fun H locs hP hD hS => ?_)
    have hP : wP G [bMod G x xs xb xm xf xu xg xw kn bl ft vh vm vs ln 0 sp pl wr br aS aB aM aO aU aG aW] H := hP
    have hD : wD A [bMod G x xs xb xm xf xu xg xw kn bl ft vh vm vs ln 0 sp pl wr br aS aB aM aO aU aG aW] := hD
    refine lv_aload_n hx hb dX9_prefix_5 rfl (lv_at hl 0 rfl) ?_
    refine jv_iconst hx hb dX9_prefix_6 ?_
    refine kV ⟨hx, hb, hml, hown, hts⟩ hK hA hS hP hD [.int (jz 0)] [] (mX9_lay l G x xs xb xm xf xu xg xw kn bl ft vh vm vs ln 0 sp pl wr br aS aB aM aO aU aG aW 0 1 (by omega) (by omega) (by exact hg0) (by exact hg1) (by omega) (by omega)) lkX9_60 [0] [] (br := []) rfl rfl (by decide) 0 9 rfl rfl rfl rfl (Nat.le_of_ble_eq_true rfl) hl.1 dX9_prefix_7 ⟨Nat.le_of_ble_eq_true rfl, Nat.le_of_ble_eq_true rfl⟩ ⟨Nat.le_of_ble_eq_true rfl, Nat.le_of_ble_eq_true rfl⟩ (fun u9 H locs hp9 hP hD hS => ?_)
    obtain ⟨u_1, rfl⟩ : ∃ z, z = u9 := ⟨_, rfl⟩
    have hc_2 : ∀ x y : Int, 0 ≤ x → x ≤ aS 0 → 0 ≤ y → y ≤ aS 1 → u_1 (21 * x + y) = D 1 (T9 aS 0) (T9 aS 1) x y := hp9
    have hP : wP G [bMod G x xs xb xm xf xu xg xw kn bl ft vh vm vs ln 0 sp pl wr br aS aB aM aO aU u_1 aW] H := hP
    have hD : wD A [bMod G x xs xb xm xf xu xg xw kn bl ft vh vm vs ln 0 sp pl wr br aS aB aM aO aU u_1 aW] := hD
    show W p l e rmX9_prefix_1 s m args below meth c H locs 0 0 Q (F0 m 10 ls [])
    have hc1 := hc_2
    refine lv_iload_n hx hb dX9_prefix_10 rfl (lv_at hl 1 rfl) ?_
    refine jv_iconst hx hb dX9_prefix_11 ?_
    refine lv_aload_n hx hb dX9_prefix_12 rfl (lv_at hl 0 rfl) ?_
    refine va_get (ci := 9) (v := .ref xs) (C := RX9) (T := TX9) (N := 19) hx hb hts wfX9 hown hK.1 hP 0 rfl rfl 0 (by decide) (hts _ wm810) (fun _ h9 => h9) rfl dX9_prefix_13 ?_
    refine jv_iconst hx hb dX9_prefix_16 ?_
    refine jv_iald hx hb hK.1 hP 1 (g := aS) rfl (by omega) (by omega) (by decide) dX9_prefix_17 ?_
    refine kS ⟨hx, hb, hml, hown, hts⟩ hK hA hS hP hD [.int (jz i), .int (jz 0), .int (jz (aS 0))] [] (mX9_in l G i 0 (aS 0) (by omega) (by omega) (by omega)) lkX9_42 [] [0] (br := [bMod G x xs xb xm xf xu xg xw kn bl ft vh vm vs ln 0 sp pl wr br aS aB aM aO aU u_1 aW]) rfl rfl (by decide) rfl rfl (Nat.le_of_ble_eq_true rfl) hl.1 dX9_prefix_18 ⟨Nat.le_of_ble_eq_true rfl, Nat.le_of_ble_eq_true rfl⟩ ⟨Nat.le_of_ble_eq_true rfl, Nat.le_of_ble_eq_true rfl⟩ (fun u9 H locs hp9 hP hD hS => ?_)
    have hP : wP G [bMod G x xs xb xm xf xu xg xw kn bl ft vh vm vs ln 0 sp pl wr br aS aB aM aO aU u_1 aW] H := hP
    have hD : wD A [bMod G x xs xb xm xf xu xg xw kn bl ft vh vm vs ln 0 sp pl wr br aS aB aM aO aU u_1 aW] := hD
    show W p l e rmX9_prefix_1 s m args below meth c H locs 0 0 Q (F0 m 21 ls [.int (jz (if 0 ≤ i ∧ i ≤ (aS 0) then 1 else 0))])
    refine jv_top (fun r_4 er_4 => ?_)
    refine jv_if_eq (tgt := 47) hx hb dX9_prefix_21 (by decide) (by rw [er_4]; split <;> omega) (fun c_5 => ?_) (fun c_5 => ?_)
    · refine lv_aload_n hx hb dX9_prefix_47 rfl (lv_at hl 0 rfl) ?_
      refine jv_iconst hx hb dX9_prefix_48 ?_
      refine kV ⟨hx, hb, hml, hown, hts⟩ hK hA hS hP hD [.int (jz 1)] [] (mX9_throwing l G x xs xb xm xf xu xg xw kn bl ft vh vm vs ln 0 sp pl wr br aS aB aM aO aU u_1 aW 1 ) lkX9_98 [0] [] (br := []) rfl rfl (by decide) 0 9 rfl rfl rfl rfl (Nat.le_of_ble_eq_true rfl) hl.1 dX9_prefix_49 ⟨Nat.le_of_ble_eq_true rfl, Nat.le_of_ble_eq_true rfl⟩ ⟨Nat.le_of_ble_eq_true rfl, Nat.le_of_ble_eq_true rfl⟩ (fun u9 H locs hp9 hP hD hS => ?_)
      have hP : wP G [bMod G x xs xb xm xf xu xg xw kn bl ft vh vm vs ln 1 sp pl wr br aS aB aM aO aU u_1 aW] H := hP
      have hD : wD A [bMod G x xs xb xm xf xu xg xw kn bl ft vh vm vs ln 1 sp pl wr br aS aB aM aO aU u_1 aW] := hD
      show W p l e rmX9_prefix_1 s m args below meth c H locs 0 0 Q (F0 m 52 ls [.int (jz 0)])
      exact cret_i hx hb hr hlocks hS hP hD (Nat.le_of_ble_eq_true rfl) (Nat.le_of_ble_eq_true rfl) rfl dX9_prefix_52 [0] (by decide) u_1 rfl trivial (congrArg (fun z : Int => some (Value.int (jz z))) (show 0 = 0 from by first | rfl | omega | (split <;> first | rfl | omega | (exfalso; omega)))) hQ
    · refine lv_iload_n hx hb dX9_prefix_24 rfl (lv_at hl 2 rfl) ?_
      refine jv_iconst hx hb dX9_prefix_25 ?_
      refine lv_aload_n hx hb dX9_prefix_26 rfl (lv_at hl 0 rfl) ?_
      refine va_get (ci := 9) (v := .ref xs) (C := RX9) (T := TX9) (N := 19) hx hb hts wfX9 hown hK.1 hP 0 rfl rfl 0 (by decide) (hts _ wm810) (fun _ h9 => h9) rfl dX9_prefix_27 ?_
      refine jv_iconst hx hb dX9_prefix_30 ?_
      refine jv_iald hx hb hK.1 hP 1 (g := aS) rfl (by omega) (by omega) (by decide) dX9_prefix_31 ?_
      refine kS ⟨hx, hb, hml, hown, hts⟩ hK hA hS hP hD [.int (jz j), .int (jz 0), .int (jz (aS 1))] [] (mX9_in l G j 0 (aS 1) (by omega) (by omega) (by omega)) lkX9_42 [] [0] (br := [bMod G x xs xb xm xf xu xg xw kn bl ft vh vm vs ln 0 sp pl wr br aS aB aM aO aU u_1 aW]) rfl rfl (by decide) rfl rfl (Nat.le_of_ble_eq_true rfl) hl.1 dX9_prefix_32 ⟨Nat.le_of_ble_eq_true rfl, Nat.le_of_ble_eq_true rfl⟩ ⟨Nat.le_of_ble_eq_true rfl, Nat.le_of_ble_eq_true rfl⟩ (fun u9 H locs hp9 hP hD hS => ?_)
      have hP : wP G [bMod G x xs xb xm xf xu xg xw kn bl ft vh vm vs ln 0 sp pl wr br aS aB aM aO aU u_1 aW] H := hP
      have hD : wD A [bMod G x xs xb xm xf xu xg xw kn bl ft vh vm vs ln 0 sp pl wr br aS aB aM aO aU u_1 aW] := hD
      show W p l e rmX9_prefix_1 s m args below meth c H locs 0 0 Q (F0 m 35 ls [.int (jz (if 0 ≤ j ∧ j ≤ (aS 1) then 1 else 0))])
      refine jv_top (fun r_8 er_8 => ?_)
      refine jv_if_eq (tgt := 47) hx hb dX9_prefix_35 (by decide) (by rw [er_8]; split <;> omega) (fun c_9 => ?_) (fun c_9 => ?_)
      · refine lv_aload_n hx hb dX9_prefix_47 rfl (lv_at hl 0 rfl) ?_
        refine jv_iconst hx hb dX9_prefix_48 ?_
        refine kV ⟨hx, hb, hml, hown, hts⟩ hK hA hS hP hD [.int (jz 1)] [] (mX9_throwing l G x xs xb xm xf xu xg xw kn bl ft vh vm vs ln 0 sp pl wr br aS aB aM aO aU u_1 aW 1 ) lkX9_98 [0] [] (br := []) rfl rfl (by decide) 0 9 rfl rfl rfl rfl (Nat.le_of_ble_eq_true rfl) hl.1 dX9_prefix_49 ⟨Nat.le_of_ble_eq_true rfl, Nat.le_of_ble_eq_true rfl⟩ ⟨Nat.le_of_ble_eq_true rfl, Nat.le_of_ble_eq_true rfl⟩ (fun u9 H locs hp9 hP hD hS => ?_)
        have hP : wP G [bMod G x xs xb xm xf xu xg xw kn bl ft vh vm vs ln 1 sp pl wr br aS aB aM aO aU u_1 aW] H := hP
        have hD : wD A [bMod G x xs xb xm xf xu xg xw kn bl ft vh vm vs ln 1 sp pl wr br aS aB aM aO aU u_1 aW] := hD
        show W p l e rmX9_prefix_1 s m args below meth c H locs 0 0 Q (F0 m 52 ls [.int (jz 0)])
        exact cret_i hx hb hr hlocks hS hP hD (Nat.le_of_ble_eq_true rfl) (Nat.le_of_ble_eq_true rfl) rfl dX9_prefix_52 [0] (by decide) u_1 rfl trivial (congrArg (fun z : Int => some (Value.int (jz z))) (show 0 = 0 from by first | rfl | omega | (split <;> first | rfl | omega | (exfalso; omega)))) hQ
      · exfalso; have q8 := er_4; have q9 := er_8; split at q8 <;> split at q9 <;> omega
  exact KH s.heap [] hP hD hS
abbrev rmX9_across : Room := { frames := 3, cells := 0, slots := 0, locals := 67 }
set_option maxHeartbeats 4000000 in
set_option maxRecDepth 100000 in
theorem mX9_across (l : Launch) (G : GG) (x : Nat) (xs : Nat) (xb : Nat) (xm : Nat) (xf : Nat) (xu : Nat) (xg : Nat) (xw : Nat) (kn : Int) (bl : Int) (ft : Int) (vh : Int) (vm : Int) (vs : Int) (ln : Int) (th : Int) (sp : Int) (pl : Int) (wr : Int) (br : Int) (aS : Int → Int) (aB : Int → Int) (aM : Int → Int) (aO : Int → Int) (aU : Int → Int) (aG : Int → Int) (aW : Int → Int) (i : Int) (j : Int) (hs0 : 0 ≤ aS 0 ∧ aS 0 ≤ 20) (hs1 : 0 ≤ aS 1 ∧ aS 1 ≤ 20) (hg0 : ∀ j : Int, 0 ≤ j → j < aS 0 → 0 ≤ T9 aS 0 j ∧ T9 aS 0 j < 4) (hg1 : ∀ j : Int, 0 ≤ j → j < aS 1 → 0 ≤ T9 aS 1 j ∧ T9 aS 1 j < 4) (hi : 0 ≤ i ∧ i ≤ aS 0) (hj : 1 ≤ j ∧ j ≤ aS 1) : Ct l yX9_across cX9_across 3 (some .int) rmX9_across G [.ref x, .int (jz i), .int (jz j)] [bMod G x xs xb xm xf xu xg xw kn bl ft vh vm vs ln th sp pl wr br aS aB aM aO aU aG aW] (fun uo : (Int → Int) => some (.int (jz (D 1 (T9 aS 0) (T9 aS 1) i j - D 1 (T9 aS 0) (T9 aS 1) i (j - 1))))) (fun uo => True) (fun uo => [bMod G x xs xb xm xf xu xg xw kn bl ft vh vm vs ln 0 sp pl wr br aS aB aM aO aU uo aW]) := by
  refine cof (by decide) (Nat.le_of_ble_eq_true rfl) ?_
  intro p e s m args below meth c A ls hx hb hr hml hown hts hlocks hin hA hK hP hD hS hl Q hQ
  have hown : s.vm.findClass RX9 = some m.cls := hown
  have hl : lv_has ls 3 [(0, .ref x), (1, .int (jz i)), (2, .int (jz j))] := hl
  have KH : ∀ (H : Heap) (locs : List Loc), wP G [bMod G x xs xb xm xf xu xg xw kn bl ft vh vm vs ln th sp pl wr br aS aB aM aO aU aG aW] H → wD A [bMod G x xs xb xm xf xu xg xw kn bl ft vh vm vs ln th sp pl wr br aS aB aM aO aU aG aW] → va_S A s.heap H locs → W p l e rmX9_across s m args below meth c H locs 0 0 Q (F0 m 0 ls []) := by
    intro H locs hP hD hS
    refine lv_aload_n hx hb dX9_across_0 rfl (lv_at hl 0 rfl) ?_
    refine jv_iconst hx hb dX9_across_1 ?_
    refine va_put (ci := 9) (v := .int (jz 0)) (ty := .int) (C := RX9) (T := TX9) (N := 19) hx hb hts wfX9 tyX9 tyX9_ok nmX9 hown hK.1 hP hD hS 0 rfl rfl 12 (by decide) (hts _ wm822) (fun _ h9 => h9) rfl (by decide +kernel) rfl rfl (Nat.le_of_ble_eq_true rfl) dX9_across_2 (fun H locs hP hD hS => ?_)
    have hP : wP G [bMod G x xs xb xm xf xu xg xw kn bl ft vh vm vs ln 0 sp pl wr br aS aB aM aO aU aG aW] H := hP
    have hD : wD A [bMod G x xs xb xm xf xu xg xw kn bl ft vh vm vs ln 0 sp pl wr br aS aB aM aO aU aG aW] := hD
    refine lv_iload_n hx hb dX9_across_5 rfl (lv_at hl 1 rfl) ?_
    refine jv_iconst hx hb dX9_across_6 ?_
    refine lv_aload_n hx hb dX9_across_7 rfl (lv_at hl 0 rfl) ?_
    refine va_get (ci := 9) (v := .ref xs) (C := RX9) (T := TX9) (N := 19) hx hb hts wfX9 hown hK.1 hP 0 rfl rfl 0 (by decide) (hts _ wm810) (fun _ h9 => h9) rfl dX9_across_8 ?_
    refine jv_iconst hx hb dX9_across_11 ?_
    refine jv_iald hx hb hK.1 hP 1 (g := aS) rfl (by omega) (by omega) (by decide) dX9_across_12 ?_
    refine kS ⟨hx, hb, hml, hown, hts⟩ hK hA hS hP hD [.int (jz i), .int (jz 0), .int (jz (aS 0))] [] (mX9_in_T l G i 0 (aS 0) (by omega) (by omega) (by omega) (by omega)) lkX9_42 [] [0] (br := [bMod G x xs xb xm xf xu xg xw kn bl ft vh vm vs ln 0 sp pl wr br aS aB aM aO aU aG aW]) rfl rfl (by decide) rfl rfl (Nat.le_of_ble_eq_true rfl) hl.1 dX9_across_13 ⟨Nat.le_of_ble_eq_true rfl, Nat.le_of_ble_eq_true rfl⟩ ⟨Nat.le_of_ble_eq_true rfl, Nat.le_of_ble_eq_true rfl⟩ (fun u9 H locs hp9 hP hD hS => ?_)
    have hP : wP G [bMod G x xs xb xm xf xu xg xw kn bl ft vh vm vs ln 0 sp pl wr br aS aB aM aO aU aG aW] H := hP
    have hD : wD A [bMod G x xs xb xm xf xu xg xw kn bl ft vh vm vs ln 0 sp pl wr br aS aB aM aO aU aG aW] := hD
    show W p l e rmX9_across s m args below meth c H locs 0 0 Q (F0 m 16 ls [.int (jz 1)])
    refine jv_if_eq (tgt := 33) hx hb dX9_across_16 (by decide) (by omega) (fun c_2 => ?_) (fun c_2 => ?_)
    · exfalso; omega
    · refine lv_iload_n hx hb dX9_across_19 rfl (lv_at hl 2 rfl) ?_
      refine jv_iconst hx hb dX9_across_20 ?_
      refine lv_aload_n hx hb dX9_across_21 rfl (lv_at hl 0 rfl) ?_
      refine va_get (ci := 9) (v := .ref xs) (C := RX9) (T := TX9) (N := 19) hx hb hts wfX9 hown hK.1 hP 0 rfl rfl 0 (by decide) (hts _ wm810) (fun _ h9 => h9) rfl dX9_across_22 ?_
      refine jv_iconst hx hb dX9_across_25 ?_
      refine jv_iald hx hb hK.1 hP 1 (g := aS) rfl (by omega) (by omega) (by decide) dX9_across_26 ?_
      refine kS ⟨hx, hb, hml, hown, hts⟩ hK hA hS hP hD [.int (jz j), .int (jz 1), .int (jz (aS 1))] [] (mX9_in_T l G j 1 (aS 1) (by omega) (by omega) (by omega) (by omega)) lkX9_42 [] [0] (br := [bMod G x xs xb xm xf xu xg xw kn bl ft vh vm vs ln 0 sp pl wr br aS aB aM aO aU aG aW]) rfl rfl (by decide) rfl rfl (Nat.le_of_ble_eq_true rfl) hl.1 dX9_across_27 ⟨Nat.le_of_ble_eq_true rfl, Nat.le_of_ble_eq_true rfl⟩ ⟨Nat.le_of_ble_eq_true rfl, Nat.le_of_ble_eq_true rfl⟩ (fun u9 H locs hp9 hP hD hS => ?_)
      have hP : wP G [bMod G x xs xb xm xf xu xg xw kn bl ft vh vm vs ln 0 sp pl wr br aS aB aM aO aU aG aW] H := hP
      have hD : wD A [bMod G x xs xb xm xf xu xg xw kn bl ft vh vm vs ln 0 sp pl wr br aS aB aM aO aU aG aW] := hD
      show W p l e rmX9_across s m args below meth c H locs 0 0 Q (F0 m 30 ls [.int (jz 1)])
      refine jv_if_ne (tgt := 39) hx hb dX9_across_30 (by decide) (by omega) (fun c_4 => ?_) (fun c_4 => ?_)
      · refine lv_aload_n hx hb dX9_across_39 rfl (lv_at hl 0 rfl) ?_
        refine jv_iconst hx hb dX9_across_40 ?_
        refine kV ⟨hx, hb, hml, hown, hts⟩ hK hA hS hP hD [.int (jz 0)] [] (mX9_lay l G x xs xb xm xf xu xg xw kn bl ft vh vm vs ln 0 sp pl wr br aS aB aM aO aU aG aW 0 1 (by omega) (by omega) (by exact hg0) (by exact hg1) (by omega) (by omega)) lkX9_60 [0] [] (br := []) rfl rfl (by decide) 0 9 rfl rfl rfl rfl (Nat.le_of_ble_eq_true rfl) hl.1 dX9_across_41 ⟨Nat.le_of_ble_eq_true rfl, Nat.le_of_ble_eq_true rfl⟩ ⟨Nat.le_of_ble_eq_true rfl, Nat.le_of_ble_eq_true rfl⟩ (fun u9 H locs hp9 hP hD hS => ?_)
        obtain ⟨u_5, rfl⟩ : ∃ z, z = u9 := ⟨_, rfl⟩
        have hc_6 : ∀ x y : Int, 0 ≤ x → x ≤ aS 0 → 0 ≤ y → y ≤ aS 1 → u_5 (21 * x + y) = D 1 (T9 aS 0) (T9 aS 1) x y := hp9
        have hP : wP G [bMod G x xs xb xm xf xu xg xw kn bl ft vh vm vs ln 0 sp pl wr br aS aB aM aO aU u_5 aW] H := hP
        have hD : wD A [bMod G x xs xb xm xf xu xg xw kn bl ft vh vm vs ln 0 sp pl wr br aS aB aM aO aU u_5 aW] := hD
        show W p l e rmX9_across s m args below meth c H locs 0 0 Q (F0 m 44 ls [])
        have hc1 := hc_6
        refine lv_aload_n hx hb dX9_across_44 rfl (lv_at hl 0 rfl) ?_
        refine lv_iload_n hx hb dX9_across_45 rfl (lv_at hl 1 rfl) ?_
        refine lv_iload_n hx hb dX9_across_46 rfl (lv_at hl 2 rfl) ?_
        refine kV ⟨hx, hb, hml, hown, hts⟩ hK hA hS hP hD [.int (jz i), .int (jz j)] [] (mX9_d l G x xs xb xm xf xu xg xw kn bl ft vh vm vs ln 0 sp pl wr br aS aB aM aO aU u_5 aW i j (by omega) (by omega)) lkX9_50 [0] [] (br := []) rfl rfl (by decide) 0 9 rfl rfl rfl rfl (Nat.le_of_ble_eq_true rfl) hl.1 dX9_across_47 ⟨Nat.le_of_ble_eq_true rfl, Nat.le_of_ble_eq_true rfl⟩ ⟨Nat.le_of_ble_eq_true rfl, Nat.le_of_ble_eq_true rfl⟩ (fun u9 H locs hp9 hP hD hS => ?_)
        have hP : wP G [bMod G x xs xb xm xf xu xg xw kn bl ft vh vm vs ln 0 sp pl wr br aS aB aM aO aU u_5 aW] H := hP
        have hD : wD A [bMod G x xs xb xm xf xu xg xw kn bl ft vh vm vs ln 0 sp pl wr br aS aB aM aO aU u_5 aW] := hD
        show W p l e rmX9_across s m args below meth c H locs 0 0 Q (F0 m 50 ls [.int (jz (u_5 (21 * i + j)))])
        refine lv_aload_n hx hb dX9_across_50 rfl (lv_at hl 0 rfl) ?_
        refine lv_iload_n hx hb dX9_across_51 rfl (lv_at hl 1 rfl) ?_
        refine lv_iload_n hx hb dX9_across_52 rfl (lv_at hl 2 rfl) ?_
        refine jv_iconst hx hb dX9_across_53 ?_
        refine jv_isub hx hb dX9_across_54 ?_
        refine kV ⟨hx, hb, hml, hown, hts⟩ hK hA hS hP hD [.int (jz i), .int (jz (j - 1))] [.int (jz (u_5 (21 * i + j)))] (mX9_d l G x xs xb xm xf xu xg xw kn bl ft vh vm vs ln 0 sp pl wr br aS aB aM aO aU u_5 aW i (j - 1) (by omega) (by omega)) lkX9_50 [0] [] (br := []) rfl rfl (by decide) 0 9 rfl rfl rfl rfl (Nat.le_of_ble_eq_true rfl) hl.1 dX9_across_55 ⟨Nat.le_of_ble_eq_true rfl, Nat.le_of_ble_eq_true rfl⟩ ⟨Nat.le_of_ble_eq_true rfl, Nat.le_of_ble_eq_true rfl⟩ (fun u9 H locs hp9 hP hD hS => ?_)
        have hP : wP G [bMod G x xs xb xm xf xu xg xw kn bl ft vh vm vs ln 0 sp pl wr br aS aB aM aO aU u_5 aW] H := hP
        have hD : wD A [bMod G x xs xb xm xf xu xg xw kn bl ft vh vm vs ln 0 sp pl wr br aS aB aM aO aU u_5 aW] := hD
        show W p l e rmX9_across s m args below meth c H locs 0 0 Q (F0 m 58 ls [.int (jz (u_5 (21 * i + (j - 1)))), .int (jz (u_5 (21 * i + j)))])
        refine jv_isub hx hb dX9_across_58 ?_
        exact cret_i hx hb hr hlocks hS hP hD (Nat.le_of_ble_eq_true rfl) (Nat.le_of_ble_eq_true rfl) rfl dX9_across_59 [0] (by decide) u_5 rfl trivial (congrArg (fun z : Int => some (Value.int (jz z))) (show ((u_5 (21 * i + j)) - (u_5 (21 * i + (j - 1)))) = D 1 (T9 aS 0) (T9 aS 1) i j - D 1 (T9 aS 0) (T9 aS 1) i (j - 1) from by rw [hc1 i j (by omega) (by omega) (by omega) (by omega), hc1 i (j - 1) (by omega) (by omega) (by omega) (by omega)])) hQ
      · exfalso; omega
  exact KH s.heap [] hP hD hS
abbrev rmX9_across_1 : Room := { frames := 1, cells := 0, slots := 0, locals := 22 }
set_option maxHeartbeats 4000000 in
set_option maxRecDepth 100000 in
theorem mX9_across_1 (l : Launch) (G : GG) (x : Nat) (xs : Nat) (xb : Nat) (xm : Nat) (xf : Nat) (xu : Nat) (xg : Nat) (xw : Nat) (kn : Int) (bl : Int) (ft : Int) (vh : Int) (vm : Int) (vs : Int) (ln : Int) (th : Int) (sp : Int) (pl : Int) (wr : Int) (br : Int) (aS : Int → Int) (aB : Int → Int) (aM : Int → Int) (aO : Int → Int) (aU : Int → Int) (aG : Int → Int) (aW : Int → Int) (i : Int) (j : Int) (hs0 : 0 ≤ aS 0 ∧ aS 0 ≤ 20) (hs1 : 0 ≤ aS 1 ∧ aS 1 ≤ 20) (hi : jr i) (hj : jr j) (hbad : ¬ ((0 ≤ i ∧ i ≤ aS 0) ∧ 1 ≤ j ∧ j ≤ aS 1)) : Ct l yX9_across cX9_across 3 (some .int) rmX9_across_1 G [.ref x, .int (jz i), .int (jz j)] [bMod G x xs xb xm xf xu xg xw kn bl ft vh vm vs ln th sp pl wr br aS aB aM aO aU aG aW] (fun uo : Unit => some (.int (jz 0))) (fun uo => True) (fun uo => [bMod G x xs xb xm xf xu xg xw kn bl ft vh vm vs ln 1 sp pl wr br aS aB aM aO aU aG aW]) := by
  refine cof (by decide) (Nat.le_of_ble_eq_true rfl) ?_
  intro p e s m args below meth c A ls hx hb hr hml hown hts hlocks hin hA hK hP hD hS hl Q hQ
  have hown : s.vm.findClass RX9 = some m.cls := hown
  have hl : lv_has ls 3 [(0, .ref x), (1, .int (jz i)), (2, .int (jz j))] := hl
  have KH : ∀ (H : Heap) (locs : List Loc), wP G [bMod G x xs xb xm xf xu xg xw kn bl ft vh vm vs ln th sp pl wr br aS aB aM aO aU aG aW] H → wD A [bMod G x xs xb xm xf xu xg xw kn bl ft vh vm vs ln th sp pl wr br aS aB aM aO aU aG aW] → va_S A s.heap H locs → W p l e rmX9_across_1 s m args below meth c H locs 0 0 Q (F0 m 0 ls []) := by
    intro H locs hP hD hS
    refine lv_aload_n hx hb dX9_across_0 rfl (lv_at hl 0 rfl) ?_
    refine jv_iconst hx hb dX9_across_1 ?_
    refine va_put (ci := 9) (v := .int (jz 0)) (ty := .int) (C := RX9) (T := TX9) (N := 19) hx hb hts wfX9 tyX9 tyX9_ok nmX9 hown hK.1 hP hD hS 0 rfl rfl 12 (by decide) (hts _ wm822) (fun _ h9 => h9) rfl (by decide +kernel) rfl rfl (Nat.le_of_ble_eq_true rfl) dX9_across_2 (fun H locs hP hD hS => ?_)
    have hP : wP G [bMod G x xs xb xm xf xu xg xw kn bl ft vh vm vs ln 0 sp pl wr br aS aB aM aO aU aG aW] H := hP
    have hD : wD A [bMod G x xs xb xm xf xu xg xw kn bl ft vh vm vs ln 0 sp pl wr br aS aB aM aO aU aG aW] := hD
    refine lv_iload_n hx hb dX9_across_5 rfl (lv_at hl 1 rfl) ?_
    refine jv_iconst hx hb dX9_across_6 ?_
    refine lv_aload_n hx hb dX9_across_7 rfl (lv_at hl 0 rfl) ?_
    refine va_get (ci := 9) (v := .ref xs) (C := RX9) (T := TX9) (N := 19) hx hb hts wfX9 hown hK.1 hP 0 rfl rfl 0 (by decide) (hts _ wm810) (fun _ h9 => h9) rfl dX9_across_8 ?_
    refine jv_iconst hx hb dX9_across_11 ?_
    refine jv_iald hx hb hK.1 hP 1 (g := aS) rfl (by omega) (by omega) (by decide) dX9_across_12 ?_
    refine kS ⟨hx, hb, hml, hown, hts⟩ hK hA hS hP hD [.int (jz i), .int (jz 0), .int (jz (aS 0))] [] (mX9_in l G i 0 (aS 0) (by omega) (by omega) (by omega)) lkX9_42 [] [0] (br := [bMod G x xs xb xm xf xu xg xw kn bl ft vh vm vs ln 0 sp pl wr br aS aB aM aO aU aG aW]) rfl rfl (by decide) rfl rfl (Nat.le_of_ble_eq_true rfl) hl.1 dX9_across_13 ⟨Nat.le_of_ble_eq_true rfl, Nat.le_of_ble_eq_true rfl⟩ ⟨Nat.le_of_ble_eq_true rfl, Nat.le_of_ble_eq_true rfl⟩ (fun u9 H locs hp9 hP hD hS => ?_)
    have hP : wP G [bMod G x xs xb xm xf xu xg xw kn bl ft vh vm vs ln 0 sp pl wr br aS aB aM aO aU aG aW] H := hP
    have hD : wD A [bMod G x xs xb xm xf xu xg xw kn bl ft vh vm vs ln 0 sp pl wr br aS aB aM aO aU aG aW] := hD
    show W p l e rmX9_across_1 s m args below meth c H locs 0 0 Q (F0 m 16 ls [.int (jz (if 0 ≤ i ∧ i ≤ (aS 0) then 1 else 0))])
    refine jv_top (fun r_2 er_2 => ?_)
    refine jv_if_eq (tgt := 33) hx hb dX9_across_16 (by decide) (by rw [er_2]; split <;> omega) (fun c_3 => ?_) (fun c_3 => ?_)
    · refine lv_aload_n hx hb dX9_across_33 rfl (lv_at hl 0 rfl) ?_
      refine jv_iconst hx hb dX9_across_34 ?_
      refine kV ⟨hx, hb, hml, hown, hts⟩ hK hA hS hP hD [.int (jz 1)] [] (mX9_throwing l G x xs xb xm xf xu xg xw kn bl ft vh vm vs ln 0 sp pl wr br aS aB aM aO aU aG aW 1 ) lkX9_98 [0] [] (br := []) rfl rfl (by decide) 0 9 rfl rfl rfl rfl (Nat.le_of_ble_eq_true rfl) hl.1 dX9_across_35 ⟨Nat.le_of_ble_eq_true rfl, Nat.le_of_ble_eq_true rfl⟩ ⟨Nat.le_of_ble_eq_true rfl, Nat.le_of_ble_eq_true rfl⟩ (fun u9 H locs hp9 hP hD hS => ?_)
      have hP : wP G [bMod G x xs xb xm xf xu xg xw kn bl ft vh vm vs ln 1 sp pl wr br aS aB aM aO aU aG aW] H := hP
      have hD : wD A [bMod G x xs xb xm xf xu xg xw kn bl ft vh vm vs ln 1 sp pl wr br aS aB aM aO aU aG aW] := hD
      show W p l e rmX9_across_1 s m args below meth c H locs 0 0 Q (F0 m 38 ls [.int (jz 0)])
      exact cret_i hx hb hr hlocks hS hP hD (Nat.le_of_ble_eq_true rfl) (Nat.le_of_ble_eq_true rfl) rfl dX9_across_38 [0] (by decide) () rfl trivial (congrArg (fun z : Int => some (Value.int (jz z))) (show 0 = 0 from by first | rfl | omega | (split <;> first | rfl | omega | (exfalso; omega)))) hQ
    · refine lv_iload_n hx hb dX9_across_19 rfl (lv_at hl 2 rfl) ?_
      refine jv_iconst hx hb dX9_across_20 ?_
      refine lv_aload_n hx hb dX9_across_21 rfl (lv_at hl 0 rfl) ?_
      refine va_get (ci := 9) (v := .ref xs) (C := RX9) (T := TX9) (N := 19) hx hb hts wfX9 hown hK.1 hP 0 rfl rfl 0 (by decide) (hts _ wm810) (fun _ h9 => h9) rfl dX9_across_22 ?_
      refine jv_iconst hx hb dX9_across_25 ?_
      refine jv_iald hx hb hK.1 hP 1 (g := aS) rfl (by omega) (by omega) (by decide) dX9_across_26 ?_
      refine kS ⟨hx, hb, hml, hown, hts⟩ hK hA hS hP hD [.int (jz j), .int (jz 1), .int (jz (aS 1))] [] (mX9_in l G j 1 (aS 1) (by omega) (by omega) (by omega)) lkX9_42 [] [0] (br := [bMod G x xs xb xm xf xu xg xw kn bl ft vh vm vs ln 0 sp pl wr br aS aB aM aO aU aG aW]) rfl rfl (by decide) rfl rfl (Nat.le_of_ble_eq_true rfl) hl.1 dX9_across_27 ⟨Nat.le_of_ble_eq_true rfl, Nat.le_of_ble_eq_true rfl⟩ ⟨Nat.le_of_ble_eq_true rfl, Nat.le_of_ble_eq_true rfl⟩ (fun u9 H locs hp9 hP hD hS => ?_)
      have hP : wP G [bMod G x xs xb xm xf xu xg xw kn bl ft vh vm vs ln 0 sp pl wr br aS aB aM aO aU aG aW] H := hP
      have hD : wD A [bMod G x xs xb xm xf xu xg xw kn bl ft vh vm vs ln 0 sp pl wr br aS aB aM aO aU aG aW] := hD
      show W p l e rmX9_across_1 s m args below meth c H locs 0 0 Q (F0 m 30 ls [.int (jz (if 1 ≤ j ∧ j ≤ (aS 1) then 1 else 0))])
      refine jv_top (fun r_6 er_6 => ?_)
      refine jv_if_ne (tgt := 39) hx hb dX9_across_30 (by decide) (by rw [er_6]; split <;> omega) (fun c_7 => ?_) (fun c_7 => ?_)
      · exfalso; have q8 := er_2; have q9 := er_6; split at q8 <;> split at q9 <;> omega
      · refine lv_aload_n hx hb dX9_across_33 rfl (lv_at hl 0 rfl) ?_
        refine jv_iconst hx hb dX9_across_34 ?_
        refine kV ⟨hx, hb, hml, hown, hts⟩ hK hA hS hP hD [.int (jz 1)] [] (mX9_throwing l G x xs xb xm xf xu xg xw kn bl ft vh vm vs ln 0 sp pl wr br aS aB aM aO aU aG aW 1 ) lkX9_98 [0] [] (br := []) rfl rfl (by decide) 0 9 rfl rfl rfl rfl (Nat.le_of_ble_eq_true rfl) hl.1 dX9_across_35 ⟨Nat.le_of_ble_eq_true rfl, Nat.le_of_ble_eq_true rfl⟩ ⟨Nat.le_of_ble_eq_true rfl, Nat.le_of_ble_eq_true rfl⟩ (fun u9 H locs hp9 hP hD hS => ?_)
        have hP : wP G [bMod G x xs xb xm xf xu xg xw kn bl ft vh vm vs ln 1 sp pl wr br aS aB aM aO aU aG aW] H := hP
        have hD : wD A [bMod G x xs xb xm xf xu xg xw kn bl ft vh vm vs ln 1 sp pl wr br aS aB aM aO aU aG aW] := hD
        show W p l e rmX9_across_1 s m args below meth c H locs 0 0 Q (F0 m 38 ls [.int (jz 0)])
        exact cret_i hx hb hr hlocks hS hP hD (Nat.le_of_ble_eq_true rfl) (Nat.le_of_ble_eq_true rfl) rfl dX9_across_38 [0] (by decide) () rfl trivial (congrArg (fun z : Int => some (Value.int (jz z))) (show 0 = 0 from by first | rfl | omega | (split <;> first | rfl | omega | (exfalso; omega)))) hQ
  exact KH s.heap [] hP hD hS
abbrev rmX9_steps : Room := { frames := 4, cells := 0, slots := 0, locals := 90 }
set_option maxHeartbeats 4000000 in
set_option maxRecDepth 100000 in
theorem mX9_steps (l : Launch) (G : GG) (x : Nat) (xs : Nat) (xb : Nat) (xm : Nat) (xf : Nat) (xu : Nat) (xg : Nat) (xw : Nat) (kn : Int) (bl : Int) (ft : Int) (vh : Int) (vm : Int) (vs : Int) (ln : Int) (th : Int) (sp : Int) (pl : Int) (wr : Int) (br : Int) (aS : Int → Int) (aB : Int → Int) (aM : Int → Int) (aO : Int → Int) (aU : Int → Int) (aG : Int → Int) (aW : Int → Int) (hs0 : 0 ≤ aS 0 ∧ aS 0 ≤ 20) (hs1 : 0 ≤ aS 1 ∧ aS 1 ≤ 20) (hg0 : ∀ j : Int, 0 ≤ j → j < aS 0 → 0 ≤ T9 aS 0 j ∧ T9 aS 0 j < 4) (hg1 : ∀ j : Int, 0 ≤ j → j < aS 1 → 0 ≤ T9 aS 1 j ∧ T9 aS 1 j < 4) : Ct l yX9_steps cX9_steps 1 (some .int) rmX9_steps G [.ref x] [bMod G x xs xb xm xf xu xg xw kn bl ft vh vm vs ln th sp pl wr br aS aB aM aO aU aG aW] (fun uo : (Int → Int) × (Int → Int) => some (.int (jz (wL (T9 aS 0) (T9 aS 1) (aS 0) (aS 1))))) (fun uo => (∀ x : Int, 0 ≤ x → x < wL (T9 aS 0) (T9 aS 1) (aS 0) (aS 1) → uo.2 x = wA (T9 aS 0) (T9 aS 1) (aS 0) (aS 1) x)) (fun uo => [bMod G x xs xb xm xf xu xg xw kn bl ft vh vm vs ln 0 ((wL (T9 aS 0) (T9 aS 1) (aS 0) (aS 1))) pl wr br aS aB aM aO aU uo.1 uo.2]) := by
  refine cof (by decide) (Nat.le_of_ble_eq_true rfl) ?_
  intro p e s m args below meth c A ls hx hb hr hml hown hts hlocks hin hA hK hP hD hS hl Q hQ
  have hown : s.vm.findClass RX9 = some m.cls := hown
  have hl : lv_has ls 1 [(0, .ref x)] := hl
  have KH : ∀ (H : Heap) (locs : List Loc), wP G [bMod G x xs xb xm xf xu xg xw kn bl ft vh vm vs ln th sp pl wr br aS aB aM aO aU aG aW] H → wD A [bMod G x xs xb xm xf xu xg xw kn bl ft vh vm vs ln th sp pl wr br aS aB aM aO aU aG aW] → va_S A s.heap H locs → W p l e rmX9_steps s m args below meth c H locs 0 0 Q (F0 m 0 ls []) := by
    intro H locs hP hD hS
    refine lv_aload_n hx hb dX9_steps_0 rfl (lv_at hl 0 rfl) ?_
    refine jv_iconst hx hb dX9_steps_1 ?_
    refine va_put (ci := 9) (v := .int (jz 0)) (ty := .int) (C := RX9) (T := TX9) (N := 19) hx hb hts wfX9 tyX9 tyX9_ok nmX9 hown hK.1 hP hD hS 0 rfl rfl 12 (by decide) (hts _ wm822) (fun _ h9 => h9) rfl (by decide +kernel) rfl rfl (Nat.le_of_ble_eq_true rfl) dX9_steps_2 (fun H locs hP hD hS => ?_)
    have hP : wP G [bMod G x xs xb xm xf xu xg xw kn bl ft vh vm vs ln 0 sp pl wr br aS aB aM aO aU aG aW] H := hP
    have hD : wD A [bMod G x xs xb xm xf xu xg xw kn bl ft vh vm vs ln 0 sp pl wr br aS aB aM aO aU aG aW] := hD
    refine lv_aload_n hx hb dX9_steps_5 rfl (lv_at hl 0 rfl) ?_
    refine kV ⟨hx, hb, hml, hown, hts⟩ hK hA hS hP hD [] [] (mX9_layWay l G x xs xb xm xf xu xg xw kn bl ft vh vm vs ln 0 sp pl wr br aS aB aM aO aU aG aW (by omega) (by omega) (by exact hg0) (by exact hg1)) lkX9_116 [0] [] (br := []) rfl rfl (by decide) 0 9 rfl rfl rfl rfl (Nat.le_of_ble_eq_true rfl) hl.1 dX9_steps_6 ⟨Nat.le_of_ble_eq_true rfl, Nat.le_of_ble_eq_true rfl⟩ ⟨Nat.le_of_ble_eq_true rfl, Nat.le_of_ble_eq_true rfl⟩ (fun u9 H locs hp9 hP hD hS => ?_)
    obtain ⟨u_1, u_2⟩ := u9
    have hc_3 : ∀ x : Int, 0 ≤ x → x < wL (T9 aS 0) (T9 aS 1) (aS 0) (aS 1) → u_2 x = wA (T9 aS 0) (T9 aS 1) (aS 0) (aS 1) x := hp9
    have hP : wP G [bMod G x xs xb xm xf xu xg xw kn bl ft vh vm vs ln 0 ((wL (T9 aS 0) (T9 aS 1) (aS 0) (aS 1))) pl wr br aS aB aM aO aU u_1 u_2] H := hP
    have hD : wD A [bMod G x xs xb xm xf xu xg xw kn bl ft vh vm vs ln 0 ((wL (T9 aS 0) (T9 aS 1) (aS 0) (aS 1))) pl wr br aS aB aM aO aU u_1 u_2] := hD
    show W p l e rmX9_steps s m args below meth c H locs 0 0 Q (F0 m 9 ls [])
    have hcw := hc_3
    refine lv_aload_n hx hb dX9_steps_9 rfl (lv_at hl 0 rfl) ?_
    refine va_get (ci := 9) (v := .int (jz ((wL (T9 aS 0) (T9 aS 1) (aS 0) (aS 1))))) (C := RX9) (T := TX9) (N := 19) hx hb hts wfX9 hown hK.1 hP 0 rfl rfl 15 (by decide) (hts _ wm825) (fun _ h9 => h9) rfl dX9_steps_10 ?_
    exact cret_i hx hb hr hlocks hS hP hD (Nat.le_of_ble_eq_true rfl) (Nat.le_of_ble_eq_true rfl) rfl dX9_steps_13 [0] (by decide) ⟨u_1, u_2⟩ rfl (show ∀ x : Int, 0 ≤ x → x < wL (T9 aS 0) (T9 aS 1) (aS 0) (aS 1) → u_2 x = wA (T9 aS 0) (T9 aS 1) (aS 0) (aS 1) x from by exact hcw) (congrArg (fun z : Int => some (Value.int (jz z))) (show ((wL (T9 aS 0) (T9 aS 1) (aS 0) (aS 1))) = wL (T9 aS 0) (T9 aS 1) (aS 0) (aS 1) from by first | rfl | omega | (split <;> first | rfl | omega | (exfalso; omega)))) hQ
  exact KH s.heap [] hP hD hS
abbrev rmX9_step : Room := { frames := 4, cells := 0, slots := 0, locals := 90 }
set_option maxHeartbeats 4000000 in
set_option maxRecDepth 100000 in
theorem mX9_step (l : Launch) (G : GG) (x : Nat) (xs : Nat) (xb : Nat) (xm : Nat) (xf : Nat) (xu : Nat) (xg : Nat) (xw : Nat) (kn : Int) (bl : Int) (ft : Int) (vh : Int) (vm : Int) (vs : Int) (ln : Int) (th : Int) (sp : Int) (pl : Int) (wr : Int) (br : Int) (aS : Int → Int) (aB : Int → Int) (aM : Int → Int) (aO : Int → Int) (aU : Int → Int) (aG : Int → Int) (aW : Int → Int) (z : Int) (hs0 : 0 ≤ aS 0 ∧ aS 0 ≤ 20) (hs1 : 0 ≤ aS 1 ∧ aS 1 ≤ 20) (hg0 : ∀ j : Int, 0 ≤ j → j < aS 0 → 0 ≤ T9 aS 0 j ∧ T9 aS 0 j < 4) (hg1 : ∀ j : Int, 0 ≤ j → j < aS 1 → 0 ≤ T9 aS 1 j ∧ T9 aS 1 j < 4) (hzj : jr z) (hz : 0 ≤ z) : Ct l yX9_step cX9_step 2 (some .int) rmX9_step G [.ref x, .int (jz z)] [bMod G x xs xb xm xf xu xg xw kn bl ft vh vm vs ln th sp pl wr br aS aB aM aO aU aG aW] (fun uo : (Int → Int) × (Int → Int) => some (.int (jz (if z < (wL (T9 aS 0) (T9 aS 1) (aS 0) (aS 1)) then wA (T9 aS 0) (T9 aS 1) (aS 0) (aS 1) ((wL (T9 aS 0) (T9 aS 1) (aS 0) (aS 1)) - 1 - z) else -1)))) (fun uo => (∀ x : Int, 0 ≤ x → x < wL (T9 aS 0) (T9 aS 1) (aS 0) (aS 1) → uo.2 x = wA (T9 aS 0) (T9 aS 1) (aS 0) (aS 1) x)) (fun uo => [bMod G x xs xb xm xf xu xg xw kn bl ft vh vm vs ln 0 ((wL (T9 aS 0) (T9 aS 1) (aS 0) (aS 1))) pl wr br aS aB aM aO aU uo.1 uo.2]) := by
  refine cof (by decide) (Nat.le_of_ble_eq_true rfl) ?_
  intro p e s m args below meth c A ls hx hb hr hml hown hts hlocks hin hA hK hP hD hS hl Q hQ
  have hown : s.vm.findClass RX9 = some m.cls := hown
  have hl : lv_has ls 2 [(0, .ref x), (1, .int (jz z))] := hl
  have KH : ∀ (H : Heap) (locs : List Loc), wP G [bMod G x xs xb xm xf xu xg xw kn bl ft vh vm vs ln th sp pl wr br aS aB aM aO aU aG aW] H → wD A [bMod G x xs xb xm xf xu xg xw kn bl ft vh vm vs ln th sp pl wr br aS aB aM aO aU aG aW] → va_S A s.heap H locs → W p l e rmX9_step s m args below meth c H locs 0 0 Q (F0 m 0 ls []) := by
    intro H locs hP hD hS
    have hwl := wL_bd (T9 aS 0) (T9 aS 1) hs0 hs1
    refine lv_aload_n hx hb dX9_step_0 rfl (lv_at hl 0 rfl) ?_
    refine jv_iconst hx hb dX9_step_1 ?_
    refine va_put (ci := 9) (v := .int (jz 0)) (ty := .int) (C := RX9) (T := TX9) (N := 19) hx hb hts wfX9 tyX9 tyX9_ok nmX9 hown hK.1 hP hD hS 0 rfl rfl 12 (by decide) (hts _ wm822) (fun _ h9 => h9) rfl (by decide +kernel) rfl rfl (Nat.le_of_ble_eq_true rfl) dX9_step_2 (fun H locs hP hD hS => ?_)
    have hP : wP G [bMod G x xs xb xm xf xu xg xw kn bl ft vh vm vs ln 0 sp pl wr br aS aB aM aO aU aG aW] H := hP
    have hD : wD A [bMod G x xs xb xm xf xu xg xw kn bl ft vh vm vs ln 0 sp pl wr br aS aB aM aO aU aG aW] := hD
    refine lv_iload_n hx hb dX9_step_5 rfl (lv_at hl 1 rfl) ?_
    refine jv_if_ge (tgt := 15) hx hb dX9_step_6 (by decide) (by omega) (fun c_1 => ?_) (fun c_1 => ?_)
    · refine lv_aload_n hx hb dX9_step_15 rfl (lv_at hl 0 rfl) ?_
      refine kV ⟨hx, hb, hml, hown, hts⟩ hK hA hS hP hD [] [] (mX9_layWay l G x xs xb xm xf xu xg xw kn bl ft vh vm vs ln 0 sp pl wr br aS aB aM aO aU aG aW (by omega) (by omega) (by exact hg0) (by exact hg1)) lkX9_116 [0] [] (br := []) rfl rfl (by decide) 0 9 rfl rfl rfl rfl (Nat.le_of_ble_eq_true rfl) hl.1 dX9_step_16 ⟨Nat.le_of_ble_eq_true rfl, Nat.le_of_ble_eq_true rfl⟩ ⟨Nat.le_of_ble_eq_true rfl, Nat.le_of_ble_eq_true rfl⟩ (fun u9 H locs hp9 hP hD hS => ?_)
      obtain ⟨u_2, u_3⟩ := u9
      have hc_4 : ∀ x : Int, 0 ≤ x → x < wL (T9 aS 0) (T9 aS 1) (aS 0) (aS 1) → u_3 x = wA (T9 aS 0) (T9 aS 1) (aS 0) (aS 1) x := hp9
      have hP : wP G [bMod G x xs xb xm xf xu xg xw kn bl ft vh vm vs ln 0 ((wL (T9 aS 0) (T9 aS 1) (aS 0) (aS 1))) pl wr br aS aB aM aO aU u_2 u_3] H := hP
      have hD : wD A [bMod G x xs xb xm xf xu xg xw kn bl ft vh vm vs ln 0 ((wL (T9 aS 0) (T9 aS 1) (aS 0) (aS 1))) pl wr br aS aB aM aO aU u_2 u_3] := hD
      show W p l e rmX9_step s m args below meth c H locs 0 0 Q (F0 m 19 ls [])
      have hcw := hc_4
      refine lv_iload_n hx hb dX9_step_19 rfl (lv_at hl 1 rfl) ?_
      refine lv_aload_n hx hb dX9_step_20 rfl (lv_at hl 0 rfl) ?_
      refine va_get (ci := 9) (v := .int (jz ((wL (T9 aS 0) (T9 aS 1) (aS 0) (aS 1))))) (C := RX9) (T := TX9) (N := 19) hx hb hts wfX9 hown hK.1 hP 0 rfl rfl 15 (by decide) (hts _ wm825) (fun _ h9 => h9) rfl dX9_step_21 ?_
      refine jv_icmp_ge (tgt := 43) hx hb dX9_step_24 (by decide) (by omega) (by omega) (fun c_5 => ?_) (fun c_5 => ?_)
      · refine jv_iconst hx hb dX9_step_43 ?_
        exact cret_i hx hb hr hlocks hS hP hD (Nat.le_of_ble_eq_true rfl) (Nat.le_of_ble_eq_true rfl) rfl dX9_step_44 [0] (by decide) ⟨u_2, u_3⟩ rfl (show ∀ x : Int, 0 ≤ x → x < wL (T9 aS 0) (T9 aS 1) (aS 0) (aS 1) → u_3 x = wA (T9 aS 0) (T9 aS 1) (aS 0) (aS 1) x from by exact hcw) (congrArg (fun z : Int => some (Value.int (jz z))) (show ((-1)) = if z < (wL (T9 aS 0) (T9 aS 1) (aS 0) (aS 1)) then wA (T9 aS 0) (T9 aS 1) (aS 0) (aS 1) ((wL (T9 aS 0) (T9 aS 1) (aS 0) (aS 1)) - 1 - z) else -1 from by first | (rw [if_pos (by omega)]; exact hcw _ (by omega) (by omega)) | (rw [if_neg (by omega)]))) hQ
      · refine lv_aload_n hx hb dX9_step_27 rfl (lv_at hl 0 rfl) ?_
        refine va_get (ci := 9) (v := .ref xw) (C := RX9) (T := TX9) (N := 19) hx hb hts wfX9 hown hK.1 hP 0 rfl rfl 14 (by decide) (hts _ wm824) (fun _ h9 => h9) rfl dX9_step_28 ?_
        refine lv_aload_n hx hb dX9_step_31 rfl (lv_at hl 0 rfl) ?_
        refine va_get (ci := 9) (v := .int (jz ((wL (T9 aS 0) (T9 aS 1) (aS 0) (aS 1))))) (C := RX9) (T := TX9) (N := 19) hx hb hts wfX9 hown hK.1 hP 0 rfl rfl 15 (by decide) (hts _ wm825) (fun _ h9 => h9) rfl dX9_step_32 ?_
        refine jv_iconst hx hb dX9_step_35 ?_
        refine jv_isub hx hb dX9_step_36 ?_
        refine lv_iload_n hx hb dX9_step_37 rfl (lv_at hl 1 rfl) ?_
        refine jv_isub hx hb dX9_step_38 ?_
        refine jv_iald hx hb hK.1 hP 7 (g := u_3) rfl (by omega) (by omega) (by decide) dX9_step_39 ?_
        refine lv_goto (tgt := 44) hx hb dX9_step_40 (by decide) ?_
        exact cret_i hx hb hr hlocks hS hP hD (Nat.le_of_ble_eq_true rfl) (Nat.le_of_ble_eq_true rfl) rfl dX9_step_44 [0] (by decide) ⟨u_2, u_3⟩ rfl (show ∀ x : Int, 0 ≤ x → x < wL (T9 aS 0) (T9 aS 1) (aS 0) (aS 1) → u_3 x = wA (T9 aS 0) (T9 aS 1) (aS 0) (aS 1) x from by exact hcw) (congrArg (fun z : Int => some (Value.int (jz z))) (show (u_3 ((((wL (T9 aS 0) (T9 aS 1) (aS 0) (aS 1))) - 1) - z)) = if z < (wL (T9 aS 0) (T9 aS 1) (aS 0) (aS 1)) then wA (T9 aS 0) (T9 aS 1) (aS 0) (aS 1) ((wL (T9 aS 0) (T9 aS 1) (aS 0) (aS 1)) - 1 - z) else -1 from by first | (rw [if_pos (by omega)]; exact hcw _ (by omega) (by omega)) | (rw [if_neg (by omega)]))) hQ
    · exfalso; omega
  exact KH s.heap [] hP hD hS
abbrev rmX9_step_1 : Room := { frames := 1, cells := 0, slots := 0, locals := 21 }
set_option maxHeartbeats 4000000 in
set_option maxRecDepth 100000 in
theorem mX9_step_1 (l : Launch) (G : GG) (x : Nat) (xs : Nat) (xb : Nat) (xm : Nat) (xf : Nat) (xu : Nat) (xg : Nat) (xw : Nat) (kn : Int) (bl : Int) (ft : Int) (vh : Int) (vm : Int) (vs : Int) (ln : Int) (th : Int) (sp : Int) (pl : Int) (wr : Int) (br : Int) (aS : Int → Int) (aB : Int → Int) (aM : Int → Int) (aO : Int → Int) (aU : Int → Int) (aG : Int → Int) (aW : Int → Int) (z : Int) (hzj : jr z) (hz : z < 0) : Ct l yX9_step cX9_step 2 (some .int) rmX9_step_1 G [.ref x, .int (jz z)] [bMod G x xs xb xm xf xu xg xw kn bl ft vh vm vs ln th sp pl wr br aS aB aM aO aU aG aW] (fun uo : Unit => some (.int (jz 0))) (fun uo => True) (fun uo => [bMod G x xs xb xm xf xu xg xw kn bl ft vh vm vs ln 1 sp pl wr br aS aB aM aO aU aG aW]) := by
  refine cof (by decide) (Nat.le_of_ble_eq_true rfl) ?_
  intro p e s m args below meth c A ls hx hb hr hml hown hts hlocks hin hA hK hP hD hS hl Q hQ
  have hown : s.vm.findClass RX9 = some m.cls := hown
  have hl : lv_has ls 2 [(0, .ref x), (1, .int (jz z))] := hl
  have KH : ∀ (H : Heap) (locs : List Loc), wP G [bMod G x xs xb xm xf xu xg xw kn bl ft vh vm vs ln th sp pl wr br aS aB aM aO aU aG aW] H → wD A [bMod G x xs xb xm xf xu xg xw kn bl ft vh vm vs ln th sp pl wr br aS aB aM aO aU aG aW] → va_S A s.heap H locs → W p l e rmX9_step_1 s m args below meth c H locs 0 0 Q (F0 m 0 ls []) := by
    intro H locs hP hD hS
    refine lv_aload_n hx hb dX9_step_0 rfl (lv_at hl 0 rfl) ?_
    refine jv_iconst hx hb dX9_step_1 ?_
    refine va_put (ci := 9) (v := .int (jz 0)) (ty := .int) (C := RX9) (T := TX9) (N := 19) hx hb hts wfX9 tyX9 tyX9_ok nmX9 hown hK.1 hP hD hS 0 rfl rfl 12 (by decide) (hts _ wm822) (fun _ h9 => h9) rfl (by decide +kernel) rfl rfl (Nat.le_of_ble_eq_true rfl) dX9_step_2 (fun H locs hP hD hS => ?_)
    have hP : wP G [bMod G x xs xb xm xf xu xg xw kn bl ft vh vm vs ln 0 sp pl wr br aS aB aM aO aU aG aW] H := hP
    have hD : wD A [bMod G x xs xb xm xf xu xg xw kn bl ft vh vm vs ln 0 sp pl wr br aS aB aM aO aU aG aW] := hD
    refine lv_iload_n hx hb dX9_step_5 rfl (lv_at hl 1 rfl) ?_
    refine jv_if_ge (tgt := 15) hx hb dX9_step_6 (by decide) (by omega) (fun c_1 => ?_) (fun c_1 => ?_)
    · exfalso; omega
    · refine lv_aload_n hx hb dX9_step_9 rfl (lv_at hl 0 rfl) ?_
      refine jv_iconst hx hb dX9_step_10 ?_
      refine kV ⟨hx, hb, hml, hown, hts⟩ hK hA hS hP hD [.int (jz 1)] [] (mX9_throwing l G x xs xb xm xf xu xg xw kn bl ft vh vm vs ln 0 sp pl wr br aS aB aM aO aU aG aW 1 ) lkX9_98 [0] [] (br := []) rfl rfl (by decide) 0 9 rfl rfl rfl rfl (Nat.le_of_ble_eq_true rfl) hl.1 dX9_step_11 ⟨Nat.le_of_ble_eq_true rfl, Nat.le_of_ble_eq_true rfl⟩ ⟨Nat.le_of_ble_eq_true rfl, Nat.le_of_ble_eq_true rfl⟩ (fun u9 H locs hp9 hP hD hS => ?_)
      have hP : wP G [bMod G x xs xb xm xf xu xg xw kn bl ft vh vm vs ln 1 sp pl wr br aS aB aM aO aU aG aW] H := hP
      have hD : wD A [bMod G x xs xb xm xf xu xg xw kn bl ft vh vm vs ln 1 sp pl wr br aS aB aM aO aU aG aW] := hD
      show W p l e rmX9_step_1 s m args below meth c H locs 0 0 Q (F0 m 14 ls [.int (jz 0)])
      exact cret_i hx hb hr hlocks hS hP hD (Nat.le_of_ble_eq_true rfl) (Nat.le_of_ble_eq_true rfl) rfl dX9_step_14 [0] (by decide) () rfl trivial (congrArg (fun z : Int => some (Value.int (jz z))) (show 0 = 0 from by first | rfl | omega | (split <;> first | rfl | omega | (exfalso; omega)))) hQ
  exact KH s.heap [] hP hD hS
abbrev rmX9_count : Room := { frames := 4, cells := 0, slots := 0, locals := 90 }
set_option maxHeartbeats 4000000 in
set_option maxRecDepth 100000 in
theorem mX9_count (l : Launch) (G : GG) (x : Nat) (xs : Nat) (xb : Nat) (xm : Nat) (xf : Nat) (xu : Nat) (xg : Nat) (xw : Nat) (kn : Int) (bl : Int) (ft : Int) (vh : Int) (vm : Int) (vs : Int) (ln : Int) (th : Int) (sp : Int) (pl : Int) (wr : Int) (br : Int) (aS : Int → Int) (aB : Int → Int) (aM : Int → Int) (aO : Int → Int) (aU : Int → Int) (aG : Int → Int) (aW : Int → Int) (z : Int) (hs0 : 0 ≤ aS 0 ∧ aS 0 ≤ 20) (hs1 : 0 ≤ aS 1 ∧ aS 1 ≤ 20) (hg0 : ∀ j : Int, 0 ≤ j → j < aS 0 → 0 ≤ T9 aS 0 j ∧ T9 aS 0 j < 4) (hg1 : ∀ j : Int, 0 ≤ j → j < aS 1 → 0 ≤ T9 aS 1 j ∧ T9 aS 1 j < 4) (hz : 0 ≤ z ∧ z ≤ 3) : Ct l yX9_count cX9_count 4 (some .int) rmX9_count G [.ref x, .int (jz z)] [bMod G x xs xb xm xf xu xg xw kn bl ft vh vm vs ln th sp pl wr br aS aB aM aO aU aG aW] (fun uo : (Int → Int) × (Int → Int) => some (.int (jz (cnt (wA (T9 aS 0) (T9 aS 1) (aS 0) (aS 1)) z (wL (T9 aS 0) (T9 aS 1) (aS 0) (aS 1)))))) (fun uo => (∀ x : Int, 0 ≤ x → x < wL (T9 aS 0) (T9 aS 1) (aS 0) (aS 1) → uo.2 x = wA (T9 aS 0) (T9 aS 1) (aS 0) (aS 1) x)) (fun uo => [bMod G x xs xb xm xf xu xg xw kn bl ft vh vm vs ln 0 ((wL (T9 aS 0) (T9 aS 1) (aS 0) (aS 1))) pl wr br aS aB aM aO aU uo.1 uo.2]) := by
  refine cof (by decide) (Nat.le_of_ble_eq_true rfl) ?_
  intro p e s m args below meth c A ls hx hb hr hml hown hts hlocks hin hA hK hP hD hS hl Q hQ
  have hown : s.vm.findClass RX9 = some m.cls := hown
  have hl : lv_has ls 4 [(0, .ref x), (1, .int (jz z))] := hl
  have KH : ∀ (H : Heap) (locs : List Loc), wP G [bMod G x xs xb xm xf xu xg xw kn bl ft vh vm vs ln th sp pl wr br aS aB aM aO aU aG aW] H → wD A [bMod G x xs xb xm xf xu xg xw kn bl ft vh vm vs ln th sp pl wr br aS aB aM aO aU aG aW] → va_S A s.heap H locs → W p l e rmX9_count s m args below meth c H locs 0 0 Q (F0 m 0 ls []) := by
    intro H locs hP hD hS
    have hwl := wL_bd (T9 aS 0) (T9 aS 1) hs0 hs1
    refine lv_aload_n hx hb dX9_count_0 rfl (lv_at hl 0 rfl) ?_
    refine jv_iconst hx hb dX9_count_1 ?_
    refine va_put (ci := 9) (v := .int (jz 0)) (ty := .int) (C := RX9) (T := TX9) (N := 19) hx hb hts wfX9 tyX9 tyX9_ok nmX9 hown hK.1 hP hD hS 0 rfl rfl 12 (by decide) (hts _ wm822) (fun _ h9 => h9) rfl (by decide +kernel) rfl rfl (Nat.le_of_ble_eq_true rfl) dX9_count_2 (fun H locs hP hD hS => ?_)
    have hP : wP G [bMod G x xs xb xm xf xu xg xw kn bl ft vh vm vs ln 0 sp pl wr br aS aB aM aO aU aG aW] H := hP
    have hD : wD A [bMod G x xs xb xm xf xu xg xw kn bl ft vh vm vs ln 0 sp pl wr br aS aB aM aO aU aG aW] := hD
    refine lv_iload_n hx hb dX9_count_5 rfl (lv_at hl 1 rfl) ?_
    refine jv_iconst hx hb dX9_count_6 ?_
    refine jv_iconst hx hb dX9_count_7 ?_
    refine kS ⟨hx, hb, hml, hown, hts⟩ hK hA hS hP hD [.int (jz z), .int (jz 0), .int (jz 3)] [] (mX9_in_T l G z 0 3 (by omega) (by omega) (by omega) (by omega)) lkX9_42 [] [0] (br := [bMod G x xs xb xm xf xu xg xw kn bl ft vh vm vs ln 0 sp pl wr br aS aB aM aO aU aG aW]) rfl rfl (by decide) rfl rfl (Nat.le_of_ble_eq_true rfl) hl.1 dX9_count_8 ⟨Nat.le_of_ble_eq_true rfl, Nat.le_of_ble_eq_true rfl⟩ ⟨Nat.le_of_ble_eq_true rfl, Nat.le_of_ble_eq_true rfl⟩ (fun u9 H locs hp9 hP hD hS => ?_)
    have hP : wP G [bMod G x xs xb xm xf xu xg xw kn bl ft vh vm vs ln 0 sp pl wr br aS aB aM aO aU aG aW] H := hP
    have hD : wD A [bMod G x xs xb xm xf xu xg xw kn bl ft vh vm vs ln 0 sp pl wr br aS aB aM aO aU aG aW] := hD
    show W p l e rmX9_count s m args below meth c H locs 0 0 Q (F0 m 11 ls [.int (jz 1)])
    refine jv_if_ne (tgt := 20) hx hb dX9_count_11 (by decide) (by omega) (fun c_2 => ?_) (fun c_2 => ?_)
    · refine lv_aload_n hx hb dX9_count_20 rfl (lv_at hl 0 rfl) ?_
      refine kV ⟨hx, hb, hml, hown, hts⟩ hK hA hS hP hD [] [] (mX9_layWay l G x xs xb xm xf xu xg xw kn bl ft vh vm vs ln 0 sp pl wr br aS aB aM aO aU aG aW (by omega) (by omega) (by exact hg0) (by exact hg1)) lkX9_116 [0] [] (br := []) rfl rfl (by decide) 0 9 rfl rfl rfl rfl (Nat.le_of_ble_eq_true rfl) hl.1 dX9_count_21 ⟨Nat.le_of_ble_eq_true rfl, Nat.le_of_ble_eq_true rfl⟩ ⟨Nat.le_of_ble_eq_true rfl, Nat.le_of_ble_eq_true rfl⟩ (fun u9 H locs hp9 hP hD hS => ?_)
      obtain ⟨u_3, u_4⟩ := u9
      have hc_5 : ∀ x : Int, 0 ≤ x → x < wL (T9 aS 0) (T9 aS 1) (aS 0) (aS 1) → u_4 x = wA (T9 aS 0) (T9 aS 1) (aS 0) (aS 1) x := hp9
      have hP : wP G [bMod G x xs xb xm xf xu xg xw kn bl ft vh vm vs ln 0 ((wL (T9 aS 0) (T9 aS 1) (aS 0) (aS 1))) pl wr br aS aB aM aO aU u_3 u_4] H := hP
      have hD : wD A [bMod G x xs xb xm xf xu xg xw kn bl ft vh vm vs ln 0 ((wL (T9 aS 0) (T9 aS 1) (aS 0) (aS 1))) pl wr br aS aB aM aO aU u_3 u_4] := hD
      show W p l e rmX9_count s m args below meth c H locs 0 0 Q (F0 m 24 ls [])
      have hcw := hc_5
      refine jv_iconst hx hb dX9_count_24 ?_
      refine lv_istore_n (lv' := [(2, .int (jz 0)), (0, .ref x), (1, .int (jz z))]) hx hb dX9_count_25 rfl hl (by decide) rfl (fun ls hl => ?_)
      refine jv_iconst hx hb dX9_count_26 ?_
      refine lv_istore_n (lv' := [(3, .int (jz 0)), (2, .int (jz 0)), (0, .ref x), (1, .int (jz z))]) hx hb dX9_count_27 rfl hl (by decide) rfl (fun ls hl => ?_)
      have K28 : ∀ (n9 : Nat) (r : Int) (k : Int) , (((wL (T9 aS 0) (T9 aS 1) (aS 0) (aS 1)) - k).toNat) < n9 → (0 ≤ k ∧ k ≤ (wL (T9 aS 0) (T9 aS 1) (aS 0) (aS 1))) → (r = cnt (wA (T9 aS 0) (T9 aS 1) (aS 0) (aS 1)) z k) → ∀ (H : Heap) (locs : List Loc) (ls : Array Slot), wP G [bMod G x xs xb xm xf xu xg xw kn bl ft vh vm vs ln 0 ((wL (T9 aS 0) (T9 aS 1) (aS 0) (aS 1))) pl wr br aS aB aM aO aU u_3 u_4] H → wD A [bMod G x xs xb xm xf xu xg xw kn bl ft vh vm vs ln 0 ((wL (T9 aS 0) (T9 aS 1) (aS 0) (aS 1))) pl wr br aS aB aM aO aU u_3 u_4] → va_S A s.heap H locs → lv_has ls 4 [(0, .ref x), (1, .int (jz z)), (2, .int (jz r)), (3, .int (jz k))] → W p l e rmX9_count s m args below meth c H locs 0 0 Q (F0 m 28 ls []) := by
        intro n9
        induction n9 with
        | zero => intro r k hm9; exact absurd hm9 (Nat.not_lt_zero _)
        | succ n9 ih28 =>
          intro r k hm9 hk hr9 H locs ls hP hD hS hl
          refine lv_iload_n hx hb dX9_count_28 rfl (lv_at hl 3 rfl) ?_
          refine lv_aload_n hx hb dX9_count_29 rfl (lv_at hl 0 rfl) ?_
          refine va_get (ci := 9) (v := .int (jz ((wL (T9 aS 0) (T9 aS 1) (aS 0) (aS 1))))) (C := RX9) (T := TX9) (N := 19) hx hb hts wfX9 hown hK.1 hP 0 rfl rfl 15 (by decide) (hts _ wm825) (fun _ h9 => h9) rfl dX9_count_30 ?_
          refine jv_icmp_ge (tgt := 60) hx hb dX9_count_33 (by decide) (by omega) (by omega) (fun c_6 => ?_) (fun c_6 => ?_)
          · refine lv_iload_n hx hb dX9_count_60 rfl (lv_at hl 2 rfl) ?_
            exact cret_i hx hb hr hlocks hS hP hD (Nat.le_of_ble_eq_true rfl) (Nat.le_of_ble_eq_true rfl) rfl dX9_count_61 [0] (by decide) ⟨u_3, u_4⟩ rfl (show ∀ x : Int, 0 ≤ x → x < wL (T9 aS 0) (T9 aS 1) (aS 0) (aS 1) → u_4 x = wA (T9 aS 0) (T9 aS 1) (aS 0) (aS 1) x from by exact hcw) (congrArg (fun z : Int => some (Value.int (jz z))) (show r = cnt (wA (T9 aS 0) (T9 aS 1) (aS 0) (aS 1)) z (wL (T9 aS 0) (T9 aS 1) (aS 0) (aS 1)) from by rw [hr9, show k = (wL (T9 aS 0) (T9 aS 1) (aS 0) (aS 1)) by omega])) hQ
          · have hck := hcw k (by omega) (by omega)
            have hcb := wA_bd (T9 aS 0) (T9 aS 1) hs0 hs1 (x := k) (by omega) (by omega)
            refine lv_iload_n hx hb dX9_count_36 rfl (lv_at hl 2 rfl) ?_
            refine lv_aload_n hx hb dX9_count_37 rfl (lv_at hl 0 rfl) ?_
            refine va_get (ci := 9) (v := .ref xw) (C := RX9) (T := TX9) (N := 19) hx hb hts wfX9 hown hK.1 hP 0 rfl rfl 14 (by decide) (hts _ wm824) (fun _ h9 => h9) rfl dX9_count_38 ?_
            refine lv_iload_n hx hb dX9_count_41 rfl (lv_at hl 3 rfl) ?_
            refine jv_iald hx hb hK.1 hP 7 (g := u_4) rfl (by omega) (by omega) (by decide) dX9_count_42 ?_
            refine lv_iload_n hx hb dX9_count_43 rfl (lv_at hl 1 rfl) ?_
            refine jv_icmp_ne (tgt := 51) hx hb dX9_count_44 (by decide) (by omega) (by omega) (fun c_7 => ?_) (fun c_7 => ?_)
            · refine jv_iconst hx hb dX9_count_51 ?_
              refine jv_iadd hx hb dX9_count_52 ?_
              refine lv_istore_n (lv' := [(2, .int (jz (r + 0))), (0, .ref x), (1, .int (jz z)), (3, .int (jz k))]) hx hb dX9_count_53 rfl hl (by decide) rfl (fun ls hl => ?_)
              refine jv_iinc (lv' := [(3, .int (jz (k + 1))), (2, .int (jz (r + 0))), (0, .ref x), (1, .int (jz z))]) (k := 3) hx hb dX9_count_54 hl rfl (by decide) rfl (fun ls hl => ?_)
              refine lv_goto (tgt := 28) hx hb dX9_count_57 (by decide) ?_
              exact ih28 (r + 0) (k + 1) (by omega) (by omega) (by first | (rw [cnt_s _ _ (by omega), if_pos (by omega)]; omega) | (rw [cnt_s _ _ (by omega), if_neg (by omega)]; omega)) H _ _ hP hD hS (lv_sub hl [2, 3, 1, 0] rfl)
            · refine jv_iconst hx hb dX9_count_47 ?_
              refine lv_goto (tgt := 52) hx hb dX9_count_48 (by decide) ?_
              refine jv_iadd hx hb dX9_count_52 ?_
              refine lv_istore_n (lv' := [(2, .int (jz (r + 1))), (0, .ref x), (1, .int (jz z)), (3, .int (jz k))]) hx hb dX9_count_53 rfl hl (by decide) rfl (fun ls hl => ?_)
              refine jv_iinc (lv' := [(3, .int (jz (k + 1))), (2, .int (jz (r + 1))), (0, .ref x), (1, .int (jz z))]) (k := 3) hx hb dX9_count_54 hl rfl (by decide) rfl (fun ls hl => ?_)
              refine lv_goto (tgt := 28) hx hb dX9_count_57 (by decide) ?_
              exact ih28 (r + 1) (k + 1) (by omega) (by omega) (by first | (rw [cnt_s _ _ (by omega), if_pos (by omega)]; omega) | (rw [cnt_s _ _ (by omega), if_neg (by omega)]; omega)) H _ _ hP hD hS (lv_sub hl [2, 3, 1, 0] rfl)
      exact K28 ((((wL (T9 aS 0) (T9 aS 1) (aS 0) (aS 1)) - 0).toNat) + 1) 0 0 (Nat.lt_succ_self _) (by omega) (by rfl) H _ _ hP hD hS (lv_sub hl [2, 3, 1, 0] rfl)
    · exfalso; omega
  exact KH s.heap [] hP hD hS
abbrev rmX9_count_1 : Room := { frames := 1, cells := 0, slots := 0, locals := 22 }
set_option maxHeartbeats 4000000 in
set_option maxRecDepth 100000 in
theorem mX9_count_1 (l : Launch) (G : GG) (x : Nat) (xs : Nat) (xb : Nat) (xm : Nat) (xf : Nat) (xu : Nat) (xg : Nat) (xw : Nat) (kn : Int) (bl : Int) (ft : Int) (vh : Int) (vm : Int) (vs : Int) (ln : Int) (th : Int) (sp : Int) (pl : Int) (wr : Int) (br : Int) (aS : Int → Int) (aB : Int → Int) (aM : Int → Int) (aO : Int → Int) (aU : Int → Int) (aG : Int → Int) (aW : Int → Int) (z : Int) (hzj : jr z) (hz : ¬ (0 ≤ z ∧ z ≤ 3)) : Ct l yX9_count cX9_count 4 (some .int) rmX9_count_1 G [.ref x, .int (jz z)] [bMod G x xs xb xm xf xu xg xw kn bl ft vh vm vs ln th sp pl wr br aS aB aM aO aU aG aW] (fun uo : Unit => some (.int (jz 0))) (fun uo => True) (fun uo => [bMod G x xs xb xm xf xu xg xw kn bl ft vh vm vs ln 1 sp pl wr br aS aB aM aO aU aG aW]) := by
  refine cof (by decide) (Nat.le_of_ble_eq_true rfl) ?_
  intro p e s m args below meth c A ls hx hb hr hml hown hts hlocks hin hA hK hP hD hS hl Q hQ
  have hown : s.vm.findClass RX9 = some m.cls := hown
  have hl : lv_has ls 4 [(0, .ref x), (1, .int (jz z))] := hl
  have KH : ∀ (H : Heap) (locs : List Loc), wP G [bMod G x xs xb xm xf xu xg xw kn bl ft vh vm vs ln th sp pl wr br aS aB aM aO aU aG aW] H → wD A [bMod G x xs xb xm xf xu xg xw kn bl ft vh vm vs ln th sp pl wr br aS aB aM aO aU aG aW] → va_S A s.heap H locs → W p l e rmX9_count_1 s m args below meth c H locs 0 0 Q (F0 m 0 ls []) := by
    intro H locs hP hD hS
    refine lv_aload_n hx hb dX9_count_0 rfl (lv_at hl 0 rfl) ?_
    refine jv_iconst hx hb dX9_count_1 ?_
    refine va_put (ci := 9) (v := .int (jz 0)) (ty := .int) (C := RX9) (T := TX9) (N := 19) hx hb hts wfX9 tyX9 tyX9_ok nmX9 hown hK.1 hP hD hS 0 rfl rfl 12 (by decide) (hts _ wm822) (fun _ h9 => h9) rfl (by decide +kernel) rfl rfl (Nat.le_of_ble_eq_true rfl) dX9_count_2 (fun H locs hP hD hS => ?_)
    have hP : wP G [bMod G x xs xb xm xf xu xg xw kn bl ft vh vm vs ln 0 sp pl wr br aS aB aM aO aU aG aW] H := hP
    have hD : wD A [bMod G x xs xb xm xf xu xg xw kn bl ft vh vm vs ln 0 sp pl wr br aS aB aM aO aU aG aW] := hD
    refine lv_iload_n hx hb dX9_count_5 rfl (lv_at hl 1 rfl) ?_
    refine jv_iconst hx hb dX9_count_6 ?_
    refine jv_iconst hx hb dX9_count_7 ?_
    refine kS ⟨hx, hb, hml, hown, hts⟩ hK hA hS hP hD [.int (jz z), .int (jz 0), .int (jz 3)] [] (mX9_in_F l G z 0 3 (by omega) (by omega) (by omega) (by omega)) lkX9_42 [] [0] (br := [bMod G x xs xb xm xf xu xg xw kn bl ft vh vm vs ln 0 sp pl wr br aS aB aM aO aU aG aW]) rfl rfl (by decide) rfl rfl (Nat.le_of_ble_eq_true rfl) hl.1 dX9_count_8 ⟨Nat.le_of_ble_eq_true rfl, Nat.le_of_ble_eq_true rfl⟩ ⟨Nat.le_of_ble_eq_true rfl, Nat.le_of_ble_eq_true rfl⟩ (fun u9 H locs hp9 hP hD hS => ?_)
    have hP : wP G [bMod G x xs xb xm xf xu xg xw kn bl ft vh vm vs ln 0 sp pl wr br aS aB aM aO aU aG aW] H := hP
    have hD : wD A [bMod G x xs xb xm xf xu xg xw kn bl ft vh vm vs ln 0 sp pl wr br aS aB aM aO aU aG aW] := hD
    show W p l e rmX9_count_1 s m args below meth c H locs 0 0 Q (F0 m 11 ls [.int (jz 0)])
    refine jv_if_ne (tgt := 20) hx hb dX9_count_11 (by decide) (by omega) (fun c_2 => ?_) (fun c_2 => ?_)
    · exfalso; omega
    · refine lv_aload_n hx hb dX9_count_14 rfl (lv_at hl 0 rfl) ?_
      refine jv_iconst hx hb dX9_count_15 ?_
      refine kV ⟨hx, hb, hml, hown, hts⟩ hK hA hS hP hD [.int (jz 1)] [] (mX9_throwing l G x xs xb xm xf xu xg xw kn bl ft vh vm vs ln 0 sp pl wr br aS aB aM aO aU aG aW 1 ) lkX9_98 [0] [] (br := []) rfl rfl (by decide) 0 9 rfl rfl rfl rfl (Nat.le_of_ble_eq_true rfl) hl.1 dX9_count_16 ⟨Nat.le_of_ble_eq_true rfl, Nat.le_of_ble_eq_true rfl⟩ ⟨Nat.le_of_ble_eq_true rfl, Nat.le_of_ble_eq_true rfl⟩ (fun u9 H locs hp9 hP hD hS => ?_)
      have hP : wP G [bMod G x xs xb xm xf xu xg xw kn bl ft vh vm vs ln 1 sp pl wr br aS aB aM aO aU aG aW] H := hP
      have hD : wD A [bMod G x xs xb xm xf xu xg xw kn bl ft vh vm vs ln 1 sp pl wr br aS aB aM aO aU aG aW] := hD
      show W p l e rmX9_count_1 s m args below meth c H locs 0 0 Q (F0 m 19 ls [.int (jz 0)])
      exact cret_i hx hb hr hlocks hS hP hD (Nat.le_of_ble_eq_true rfl) (Nat.le_of_ble_eq_true rfl) rfl dX9_count_19 [0] (by decide) () rfl trivial (congrArg (fun z : Int => some (Value.int (jz z))) (show 0 = 0 from by first | rfl | omega | (split <;> first | rfl | omega | (exfalso; omega)))) hQ
  exact KH s.heap [] hP hD hS
abbrev rmX9_within : Room := { frames := 4, cells := 0, slots := 0, locals := 87 }
set_option maxHeartbeats 4000000 in
set_option maxRecDepth 100000 in
theorem mX9_within (l : Launch) (G : GG) (x : Nat) (xs : Nat) (xb : Nat) (xm : Nat) (xf : Nat) (xu : Nat) (xg : Nat) (xw : Nat) (kn : Int) (bl : Int) (ft : Int) (vh : Int) (vm : Int) (vs : Int) (ln : Int) (th : Int) (sp : Int) (pl : Int) (wr : Int) (br : Int) (aS : Int → Int) (aB : Int → Int) (aM : Int → Int) (aO : Int → Int) (aU : Int → Int) (aG : Int → Int) (aW : Int → Int) (z : Int) (hs0 : 0 ≤ aS 0 ∧ aS 0 ≤ 20) (hs1 : 0 ≤ aS 1 ∧ aS 1 ≤ 20) (hg0 : ∀ j : Int, 0 ≤ j → j < aS 0 → 0 ≤ T9 aS 0 j ∧ T9 aS 0 j < 4) (hg1 : ∀ j : Int, 0 ≤ j → j < aS 1 → 0 ≤ T9 aS 1 j ∧ T9 aS 1 j < 4) (hz : 0 ≤ z ∧ z ≤ 20) : Ct l yX9_within cX9_within 3 (some .int) rmX9_within G [.ref x, .int (jz z)] [bMod G x xs xb xm xf xu xg xw kn bl ft vh vm vs ln th sp pl wr br aS aB aM aO aU aG aW] (fun uo : (Int → Int) => some (.int (jz (if D 1 (T9 aS 0) (T9 aS 1) (aS 0) (aS 1) ≤ z then D 1 (T9 aS 0) (T9 aS 1) (aS 0) (aS 1) else -1)))) (fun uo => True) (fun uo => [bMod G x xs xb xm xf xu xg xw kn bl ft vh vm vs ln 0 sp pl wr br aS aB aM aO aU uo aW]) := by
  refine cof (by decide) (Nat.le_of_ble_eq_true rfl) ?_
  intro p e s m args below meth c A ls hx hb hr hml hown hts hlocks hin hA hK hP hD hS hl Q hQ
  have hown : s.vm.findClass RX9 = some m.cls := hown
  have hl : lv_has ls 3 [(0, .ref x), (1, .int (jz z))] := hl
  have KH : ∀ (H : Heap) (locs : List Loc), wP G [bMod G x xs xb xm xf xu xg xw kn bl ft vh vm vs ln th sp pl wr br aS aB aM aO aU aG aW] H → wD A [bMod G x xs xb xm xf xu xg xw kn bl ft vh vm vs ln th sp pl wr br aS aB aM aO aU aG aW] → va_S A s.heap H locs → W p l e rmX9_within s m args below meth c H locs 0 0 Q (F0 m 0 ls []) := by
    intro H locs hP hD hS
    have hdb := D_bd (c := 1) (Or.inr rfl) (T9 aS 0) (T9 aS 1) (i := aS 0) (j := aS 1) (by omega) (by omega)
    refine lv_aload_n hx hb dX9_within_0 rfl (lv_at hl 0 rfl) ?_
    refine jv_iconst hx hb dX9_within_1 ?_
    refine va_put (ci := 9) (v := .int (jz 0)) (ty := .int) (C := RX9) (T := TX9) (N := 19) hx hb hts wfX9 tyX9 tyX9_ok nmX9 hown hK.1 hP hD hS 0 rfl rfl 12 (by decide) (hts _ wm822) (fun _ h9 => h9) rfl (by decide +kernel) rfl rfl (Nat.le_of_ble_eq_true rfl) dX9_within_2 (fun H locs hP hD hS => ?_)
    have hP : wP G [bMod G x xs xb xm xf xu xg xw kn bl ft vh vm vs ln 0 sp pl wr br aS aB aM aO aU aG aW] H := hP
    have hD : wD A [bMod G x xs xb xm xf xu xg xw kn bl ft vh vm vs ln 0 sp pl wr br aS aB aM aO aU aG aW] := hD
    refine lv_iload_n hx hb dX9_within_5 rfl (lv_at hl 1 rfl) ?_
    refine jv_iconst hx hb dX9_within_6 ?_
    refine jv_bipush hx hb dX9_within_7 (by decide) ?_
    refine kS ⟨hx, hb, hml, hown, hts⟩ hK hA hS hP hD [.int (jz z), .int (jz 0), .int (jz 20)] [] (mX9_in_T l G z 0 20 (by omega) (by omega) (by omega) (by omega)) lkX9_42 [] [0] (br := [bMod G x xs xb xm xf xu xg xw kn bl ft vh vm vs ln 0 sp pl wr br aS aB aM aO aU aG aW]) rfl rfl (by decide) rfl rfl (Nat.le_of_ble_eq_true rfl) hl.1 dX9_within_9 ⟨Nat.le_of_ble_eq_true rfl, Nat.le_of_ble_eq_true rfl⟩ ⟨Nat.le_of_ble_eq_true rfl, Nat.le_of_ble_eq_true rfl⟩ (fun u9 H locs hp9 hP hD hS => ?_)
    have hP : wP G [bMod G x xs xb xm xf xu xg xw kn bl ft vh vm vs ln 0 sp pl wr br aS aB aM aO aU aG aW] H := hP
    have hD : wD A [bMod G x xs xb xm xf xu xg xw kn bl ft vh vm vs ln 0 sp pl wr br aS aB aM aO aU aG aW] := hD
    show W p l e rmX9_within s m args below meth c H locs 0 0 Q (F0 m 12 ls [.int (jz 1)])
    refine jv_if_ne (tgt := 21) hx hb dX9_within_12 (by decide) (by omega) (fun c_2 => ?_) (fun c_2 => ?_)
    · refine lv_aload_n hx hb dX9_within_21 rfl (lv_at hl 0 rfl) ?_
      refine kV ⟨hx, hb, hml, hown, hts⟩ hK hA hS hP hD [] [] (mX9_whole l G x xs xb xm xf xu xg xw kn bl ft vh vm vs ln 0 sp pl wr br aS aB aM aO aU aG aW (by omega) (by omega) (by exact hg0) (by exact hg1)) lkX9_112 [0] [] (br := []) rfl rfl (by decide) 0 9 rfl rfl rfl rfl (Nat.le_of_ble_eq_true rfl) hl.1 dX9_within_22 ⟨Nat.le_of_ble_eq_true rfl, Nat.le_of_ble_eq_true rfl⟩ ⟨Nat.le_of_ble_eq_true rfl, Nat.le_of_ble_eq_true rfl⟩ (fun u9 H locs hp9 hP hD hS => ?_)
      obtain ⟨u_3, rfl⟩ : ∃ z, z = u9 := ⟨_, rfl⟩
      have hP : wP G [bMod G x xs xb xm xf xu xg xw kn bl ft vh vm vs ln 0 sp pl wr br aS aB aM aO aU u_3 aW] H := hP
      have hD : wD A [bMod G x xs xb xm xf xu xg xw kn bl ft vh vm vs ln 0 sp pl wr br aS aB aM aO aU u_3 aW] := hD
      show W p l e rmX9_within s m args below meth c H locs 0 0 Q (F0 m 25 ls [.int (jz (D 1 (T9 aS 0) (T9 aS 1) (aS 0) (aS 1)))])
      refine lv_istore_n (lv' := [(2, .int (jz (D 1 (T9 aS 0) (T9 aS 1) (aS 0) (aS 1)))), (0, .ref x), (1, .int (jz z))]) hx hb dX9_within_25 rfl hl (by decide) rfl (fun ls hl => ?_)
      refine lv_iload_n hx hb dX9_within_26 rfl (lv_at hl 0 rfl) ?_
      refine lv_iload_n hx hb dX9_within_27 rfl (lv_at hl 2 rfl) ?_
      refine jv_icmp_le (tgt := 35) hx hb dX9_within_28 (by decide) (by omega) (by omega) (fun c_4 => ?_) (fun c_4 => ?_)
      · refine lv_iload_n hx hb dX9_within_35 rfl (lv_at hl 0 rfl) ?_
        exact cret_i hx hb hr hlocks hS hP hD (Nat.le_of_ble_eq_true rfl) (Nat.le_of_ble_eq_true rfl) rfl dX9_within_36 [0] (by decide) u_3 rfl trivial (congrArg (fun z : Int => some (Value.int (jz z))) (show (D 1 (T9 aS 0) (T9 aS 1) (aS 0) (aS 1)) = if D 1 (T9 aS 0) (T9 aS 1) (aS 0) (aS 1) ≤ z then D 1 (T9 aS 0) (T9 aS 1) (aS 0) (aS 1) else -1 from by first | (rw [if_pos (by omega)]) | (rw [if_neg (by omega)]))) hQ
      · refine jv_iconst hx hb dX9_within_31 ?_
        refine lv_goto (tgt := 36) hx hb dX9_within_32 (by decide) ?_
        exact cret_i hx hb hr hlocks hS hP hD (Nat.le_of_ble_eq_true rfl) (Nat.le_of_ble_eq_true rfl) rfl dX9_within_36 [0] (by decide) u_3 rfl trivial (congrArg (fun z : Int => some (Value.int (jz z))) (show ((-1)) = if D 1 (T9 aS 0) (T9 aS 1) (aS 0) (aS 1) ≤ z then D 1 (T9 aS 0) (T9 aS 1) (aS 0) (aS 1) else -1 from by first | (rw [if_pos (by omega)]) | (rw [if_neg (by omega)]))) hQ
    · exfalso; omega
  exact KH s.heap [] hP hD hS
abbrev rmX9_within_1 : Room := { frames := 1, cells := 0, slots := 0, locals := 22 }
set_option maxHeartbeats 4000000 in
set_option maxRecDepth 100000 in
theorem mX9_within_1 (l : Launch) (G : GG) (x : Nat) (xs : Nat) (xb : Nat) (xm : Nat) (xf : Nat) (xu : Nat) (xg : Nat) (xw : Nat) (kn : Int) (bl : Int) (ft : Int) (vh : Int) (vm : Int) (vs : Int) (ln : Int) (th : Int) (sp : Int) (pl : Int) (wr : Int) (br : Int) (aS : Int → Int) (aB : Int → Int) (aM : Int → Int) (aO : Int → Int) (aU : Int → Int) (aG : Int → Int) (aW : Int → Int) (z : Int) (hzj : jr z) (hz : ¬ (0 ≤ z ∧ z ≤ 20)) : Ct l yX9_within cX9_within 3 (some .int) rmX9_within_1 G [.ref x, .int (jz z)] [bMod G x xs xb xm xf xu xg xw kn bl ft vh vm vs ln th sp pl wr br aS aB aM aO aU aG aW] (fun uo : Unit => some (.int (jz 0))) (fun uo => True) (fun uo => [bMod G x xs xb xm xf xu xg xw kn bl ft vh vm vs ln 1 sp pl wr br aS aB aM aO aU aG aW]) := by
  refine cof (by decide) (Nat.le_of_ble_eq_true rfl) ?_
  intro p e s m args below meth c A ls hx hb hr hml hown hts hlocks hin hA hK hP hD hS hl Q hQ
  have hown : s.vm.findClass RX9 = some m.cls := hown
  have hl : lv_has ls 3 [(0, .ref x), (1, .int (jz z))] := hl
  have KH : ∀ (H : Heap) (locs : List Loc), wP G [bMod G x xs xb xm xf xu xg xw kn bl ft vh vm vs ln th sp pl wr br aS aB aM aO aU aG aW] H → wD A [bMod G x xs xb xm xf xu xg xw kn bl ft vh vm vs ln th sp pl wr br aS aB aM aO aU aG aW] → va_S A s.heap H locs → W p l e rmX9_within_1 s m args below meth c H locs 0 0 Q (F0 m 0 ls []) := by
    intro H locs hP hD hS
    refine lv_aload_n hx hb dX9_within_0 rfl (lv_at hl 0 rfl) ?_
    refine jv_iconst hx hb dX9_within_1 ?_
    refine va_put (ci := 9) (v := .int (jz 0)) (ty := .int) (C := RX9) (T := TX9) (N := 19) hx hb hts wfX9 tyX9 tyX9_ok nmX9 hown hK.1 hP hD hS 0 rfl rfl 12 (by decide) (hts _ wm822) (fun _ h9 => h9) rfl (by decide +kernel) rfl rfl (Nat.le_of_ble_eq_true rfl) dX9_within_2 (fun H locs hP hD hS => ?_)
    have hP : wP G [bMod G x xs xb xm xf xu xg xw kn bl ft vh vm vs ln 0 sp pl wr br aS aB aM aO aU aG aW] H := hP
    have hD : wD A [bMod G x xs xb xm xf xu xg xw kn bl ft vh vm vs ln 0 sp pl wr br aS aB aM aO aU aG aW] := hD
    refine lv_iload_n hx hb dX9_within_5 rfl (lv_at hl 1 rfl) ?_
    refine jv_iconst hx hb dX9_within_6 ?_
    refine jv_bipush hx hb dX9_within_7 (by decide) ?_
    refine kS ⟨hx, hb, hml, hown, hts⟩ hK hA hS hP hD [.int (jz z), .int (jz 0), .int (jz 20)] [] (mX9_in_F l G z 0 20 (by omega) (by omega) (by omega) (by omega)) lkX9_42 [] [0] (br := [bMod G x xs xb xm xf xu xg xw kn bl ft vh vm vs ln 0 sp pl wr br aS aB aM aO aU aG aW]) rfl rfl (by decide) rfl rfl (Nat.le_of_ble_eq_true rfl) hl.1 dX9_within_9 ⟨Nat.le_of_ble_eq_true rfl, Nat.le_of_ble_eq_true rfl⟩ ⟨Nat.le_of_ble_eq_true rfl, Nat.le_of_ble_eq_true rfl⟩ (fun u9 H locs hp9 hP hD hS => ?_)
    have hP : wP G [bMod G x xs xb xm xf xu xg xw kn bl ft vh vm vs ln 0 sp pl wr br aS aB aM aO aU aG aW] H := hP
    have hD : wD A [bMod G x xs xb xm xf xu xg xw kn bl ft vh vm vs ln 0 sp pl wr br aS aB aM aO aU aG aW] := hD
    show W p l e rmX9_within_1 s m args below meth c H locs 0 0 Q (F0 m 12 ls [.int (jz 0)])
    refine jv_if_ne (tgt := 21) hx hb dX9_within_12 (by decide) (by omega) (fun c_2 => ?_) (fun c_2 => ?_)
    · exfalso; omega
    · refine lv_aload_n hx hb dX9_within_15 rfl (lv_at hl 0 rfl) ?_
      refine jv_iconst hx hb dX9_within_16 ?_
      refine kV ⟨hx, hb, hml, hown, hts⟩ hK hA hS hP hD [.int (jz 1)] [] (mX9_throwing l G x xs xb xm xf xu xg xw kn bl ft vh vm vs ln 0 sp pl wr br aS aB aM aO aU aG aW 1 ) lkX9_98 [0] [] (br := []) rfl rfl (by decide) 0 9 rfl rfl rfl rfl (Nat.le_of_ble_eq_true rfl) hl.1 dX9_within_17 ⟨Nat.le_of_ble_eq_true rfl, Nat.le_of_ble_eq_true rfl⟩ ⟨Nat.le_of_ble_eq_true rfl, Nat.le_of_ble_eq_true rfl⟩ (fun u9 H locs hp9 hP hD hS => ?_)
      have hP : wP G [bMod G x xs xb xm xf xu xg xw kn bl ft vh vm vs ln 1 sp pl wr br aS aB aM aO aU aG aW] H := hP
      have hD : wD A [bMod G x xs xb xm xf xu xg xw kn bl ft vh vm vs ln 1 sp pl wr br aS aB aM aO aU aG aW] := hD
      show W p l e rmX9_within_1 s m args below meth c H locs 0 0 Q (F0 m 20 ls [.int (jz 0)])
      exact cret_i hx hb hr hlocks hS hP hD (Nat.le_of_ble_eq_true rfl) (Nat.le_of_ble_eq_true rfl) rfl dX9_within_20 [0] (by decide) () rfl trivial (congrArg (fun z : Int => some (Value.int (jz z))) (show 0 = 0 from by first | rfl | omega | (split <;> first | rfl | omega | (exfalso; omega)))) hQ
  exact KH s.heap [] hP hD hS
abbrev rmX9_band_1 : Room := { frames := 1, cells := 0, slots := 0, locals := 22 }
set_option maxHeartbeats 4000000 in
set_option maxRecDepth 100000 in
theorem mX9_band_1 (l : Launch) (G : GG) (x : Nat) (xs : Nat) (xb : Nat) (xm : Nat) (xf : Nat) (xu : Nat) (xg : Nat) (xw : Nat) (kn : Int) (bl : Int) (ft : Int) (vh : Int) (vm : Int) (vs : Int) (ln : Int) (th : Int) (sp : Int) (pl : Int) (wr : Int) (br : Int) (aS : Int → Int) (aB : Int → Int) (aM : Int → Int) (aO : Int → Int) (aU : Int → Int) (aG : Int → Int) (aW : Int → Int) (z : Int) (hzj : jr z) (hz : ¬ (0 ≤ z ∧ z ≤ 20)) : Ct l yX9_band cX9_band 5 (some .int) rmX9_band_1 G [.ref x, .int (jz z)] [bMod G x xs xb xm xf xu xg xw kn bl ft vh vm vs ln th sp pl wr br aS aB aM aO aU aG aW] (fun uo : Unit => some (.int (jz 0))) (fun uo => True) (fun uo => [bMod G x xs xb xm xf xu xg xw kn bl ft vh vm vs ln 1 sp pl wr br aS aB aM aO aU aG aW]) := by
  refine cof (by decide) (Nat.le_of_ble_eq_true rfl) ?_
  intro p e s m args below meth c A ls hx hb hr hml hown hts hlocks hin hA hK hP hD hS hl Q hQ
  have hown : s.vm.findClass RX9 = some m.cls := hown
  have hl : lv_has ls 5 [(0, .ref x), (1, .int (jz z))] := hl
  have KH : ∀ (H : Heap) (locs : List Loc), wP G [bMod G x xs xb xm xf xu xg xw kn bl ft vh vm vs ln th sp pl wr br aS aB aM aO aU aG aW] H → wD A [bMod G x xs xb xm xf xu xg xw kn bl ft vh vm vs ln th sp pl wr br aS aB aM aO aU aG aW] → va_S A s.heap H locs → W p l e rmX9_band_1 s m args below meth c H locs 0 0 Q (F0 m 0 ls []) := by
    intro H locs hP hD hS
    refine lv_aload_n hx hb dX9_band_0 rfl (lv_at hl 0 rfl) ?_
    refine jv_iconst hx hb dX9_band_1 ?_
    refine va_put (ci := 9) (v := .int (jz 0)) (ty := .int) (C := RX9) (T := TX9) (N := 19) hx hb hts wfX9 tyX9 tyX9_ok nmX9 hown hK.1 hP hD hS 0 rfl rfl 12 (by decide) (hts _ wm822) (fun _ h9 => h9) rfl (by decide +kernel) rfl rfl (Nat.le_of_ble_eq_true rfl) dX9_band_2 (fun H locs hP hD hS => ?_)
    have hP : wP G [bMod G x xs xb xm xf xu xg xw kn bl ft vh vm vs ln 0 sp pl wr br aS aB aM aO aU aG aW] H := hP
    have hD : wD A [bMod G x xs xb xm xf xu xg xw kn bl ft vh vm vs ln 0 sp pl wr br aS aB aM aO aU aG aW] := hD
    refine lv_iload_n hx hb dX9_band_5 rfl (lv_at hl 1 rfl) ?_
    refine jv_iconst hx hb dX9_band_6 ?_
    refine jv_bipush hx hb dX9_band_7 (by decide) ?_
    refine kS ⟨hx, hb, hml, hown, hts⟩ hK hA hS hP hD [.int (jz z), .int (jz 0), .int (jz 20)] [] (mX9_in_F l G z 0 20 (by omega) (by omega) (by omega) (by omega)) lkX9_42 [] [0] (br := [bMod G x xs xb xm xf xu xg xw kn bl ft vh vm vs ln 0 sp pl wr br aS aB aM aO aU aG aW]) rfl rfl (by decide) rfl rfl (Nat.le_of_ble_eq_true rfl) hl.1 dX9_band_9 ⟨Nat.le_of_ble_eq_true rfl, Nat.le_of_ble_eq_true rfl⟩ ⟨Nat.le_of_ble_eq_true rfl, Nat.le_of_ble_eq_true rfl⟩ (fun u9 H locs hp9 hP hD hS => ?_)
    have hP : wP G [bMod G x xs xb xm xf xu xg xw kn bl ft vh vm vs ln 0 sp pl wr br aS aB aM aO aU aG aW] H := hP
    have hD : wD A [bMod G x xs xb xm xf xu xg xw kn bl ft vh vm vs ln 0 sp pl wr br aS aB aM aO aU aG aW] := hD
    show W p l e rmX9_band_1 s m args below meth c H locs 0 0 Q (F0 m 12 ls [.int (jz 0)])
    refine jv_if_ne (tgt := 21) hx hb dX9_band_12 (by decide) (by omega) (fun c_2 => ?_) (fun c_2 => ?_)
    · exfalso; omega
    · refine lv_aload_n hx hb dX9_band_15 rfl (lv_at hl 0 rfl) ?_
      refine jv_iconst hx hb dX9_band_16 ?_
      refine kV ⟨hx, hb, hml, hown, hts⟩ hK hA hS hP hD [.int (jz 1)] [] (mX9_throwing l G x xs xb xm xf xu xg xw kn bl ft vh vm vs ln 0 sp pl wr br aS aB aM aO aU aG aW 1 ) lkX9_98 [0] [] (br := []) rfl rfl (by decide) 0 9 rfl rfl rfl rfl (Nat.le_of_ble_eq_true rfl) hl.1 dX9_band_17 ⟨Nat.le_of_ble_eq_true rfl, Nat.le_of_ble_eq_true rfl⟩ ⟨Nat.le_of_ble_eq_true rfl, Nat.le_of_ble_eq_true rfl⟩ (fun u9 H locs hp9 hP hD hS => ?_)
      have hP : wP G [bMod G x xs xb xm xf xu xg xw kn bl ft vh vm vs ln 1 sp pl wr br aS aB aM aO aU aG aW] H := hP
      have hD : wD A [bMod G x xs xb xm xf xu xg xw kn bl ft vh vm vs ln 1 sp pl wr br aS aB aM aO aU aG aW] := hD
      show W p l e rmX9_band_1 s m args below meth c H locs 0 0 Q (F0 m 20 ls [.int (jz 0)])
      exact cret_i hx hb hr hlocks hS hP hD (Nat.le_of_ble_eq_true rfl) (Nat.le_of_ble_eq_true rfl) rfl dX9_band_20 [0] (by decide) () rfl trivial (congrArg (fun z : Int => some (Value.int (jz z))) (show 0 = 0 from by first | rfl | omega | (split <;> first | rfl | omega | (exfalso; omega)))) hQ
  exact KH s.heap [] hP hD hS
abbrev rmX9_setBlock_1 : Room := { frames := 1, cells := 0, slots := 0, locals := 22 }
set_option maxHeartbeats 4000000 in
set_option maxRecDepth 100000 in
theorem mX9_setBlock_1 (l : Launch) (G : GG) (x : Nat) (xs : Nat) (xb : Nat) (xm : Nat) (xf : Nat) (xu : Nat) (xg : Nat) (xw : Nat) (kn : Int) (bl : Int) (ft : Int) (vh : Int) (vm : Int) (vs : Int) (ln : Int) (th : Int) (sp : Int) (pl : Int) (wr : Int) (br : Int) (aS : Int → Int) (aB : Int → Int) (aM : Int → Int) (aO : Int → Int) (aU : Int → Int) (aG : Int → Int) (aW : Int → Int) (z : Int) (hzj : jr z) (hz : ¬ (1 ≤ z ∧ z ≤ 2)) : Ct l yX9_setBlock cX9_setBlock 4 (some .int) rmX9_setBlock_1 G [.ref x, .int (jz z)] [bMod G x xs xb xm xf xu xg xw kn bl ft vh vm vs ln th sp pl wr br aS aB aM aO aU aG aW] (fun uo : Unit => some (.int (jz 0))) (fun uo => True) (fun uo => [bMod G x xs xb xm xf xu xg xw kn bl ft vh vm vs ln 1 sp pl wr br aS aB aM aO aU aG aW]) := by
  refine cof (by decide) (Nat.le_of_ble_eq_true rfl) ?_
  intro p e s m args below meth c A ls hx hb hr hml hown hts hlocks hin hA hK hP hD hS hl Q hQ
  have hown : s.vm.findClass RX9 = some m.cls := hown
  have hl : lv_has ls 4 [(0, .ref x), (1, .int (jz z))] := hl
  have KH : ∀ (H : Heap) (locs : List Loc), wP G [bMod G x xs xb xm xf xu xg xw kn bl ft vh vm vs ln th sp pl wr br aS aB aM aO aU aG aW] H → wD A [bMod G x xs xb xm xf xu xg xw kn bl ft vh vm vs ln th sp pl wr br aS aB aM aO aU aG aW] → va_S A s.heap H locs → W p l e rmX9_setBlock_1 s m args below meth c H locs 0 0 Q (F0 m 0 ls []) := by
    intro H locs hP hD hS
    refine lv_aload_n hx hb dX9_setBlock_0 rfl (lv_at hl 0 rfl) ?_
    refine jv_iconst hx hb dX9_setBlock_1 ?_
    refine va_put (ci := 9) (v := .int (jz 0)) (ty := .int) (C := RX9) (T := TX9) (N := 19) hx hb hts wfX9 tyX9 tyX9_ok nmX9 hown hK.1 hP hD hS 0 rfl rfl 12 (by decide) (hts _ wm822) (fun _ h9 => h9) rfl (by decide +kernel) rfl rfl (Nat.le_of_ble_eq_true rfl) dX9_setBlock_2 (fun H locs hP hD hS => ?_)
    have hP : wP G [bMod G x xs xb xm xf xu xg xw kn bl ft vh vm vs ln 0 sp pl wr br aS aB aM aO aU aG aW] H := hP
    have hD : wD A [bMod G x xs xb xm xf xu xg xw kn bl ft vh vm vs ln 0 sp pl wr br aS aB aM aO aU aG aW] := hD
    refine lv_iload_n hx hb dX9_setBlock_5 rfl (lv_at hl 1 rfl) ?_
    refine jv_iconst hx hb dX9_setBlock_6 ?_
    refine jv_iconst hx hb dX9_setBlock_7 ?_
    refine kS ⟨hx, hb, hml, hown, hts⟩ hK hA hS hP hD [.int (jz z), .int (jz 1), .int (jz 2)] [] (mX9_in_F l G z 1 2 (by omega) (by omega) (by omega) (by omega)) lkX9_42 [] [0] (br := [bMod G x xs xb xm xf xu xg xw kn bl ft vh vm vs ln 0 sp pl wr br aS aB aM aO aU aG aW]) rfl rfl (by decide) rfl rfl (Nat.le_of_ble_eq_true rfl) hl.1 dX9_setBlock_8 ⟨Nat.le_of_ble_eq_true rfl, Nat.le_of_ble_eq_true rfl⟩ ⟨Nat.le_of_ble_eq_true rfl, Nat.le_of_ble_eq_true rfl⟩ (fun u9 H locs hp9 hP hD hS => ?_)
    have hP : wP G [bMod G x xs xb xm xf xu xg xw kn bl ft vh vm vs ln 0 sp pl wr br aS aB aM aO aU aG aW] H := hP
    have hD : wD A [bMod G x xs xb xm xf xu xg xw kn bl ft vh vm vs ln 0 sp pl wr br aS aB aM aO aU aG aW] := hD
    show W p l e rmX9_setBlock_1 s m args below meth c H locs 0 0 Q (F0 m 11 ls [.int (jz 0)])
    refine jv_if_ne (tgt := 20) hx hb dX9_setBlock_11 (by decide) (by omega) (fun c_2 => ?_) (fun c_2 => ?_)
    · exfalso; omega
    · refine lv_aload_n hx hb dX9_setBlock_14 rfl (lv_at hl 0 rfl) ?_
      refine jv_iconst hx hb dX9_setBlock_15 ?_
      refine kV ⟨hx, hb, hml, hown, hts⟩ hK hA hS hP hD [.int (jz 1)] [] (mX9_throwing l G x xs xb xm xf xu xg xw kn bl ft vh vm vs ln 0 sp pl wr br aS aB aM aO aU aG aW 1 ) lkX9_98 [0] [] (br := []) rfl rfl (by decide) 0 9 rfl rfl rfl rfl (Nat.le_of_ble_eq_true rfl) hl.1 dX9_setBlock_16 ⟨Nat.le_of_ble_eq_true rfl, Nat.le_of_ble_eq_true rfl⟩ ⟨Nat.le_of_ble_eq_true rfl, Nat.le_of_ble_eq_true rfl⟩ (fun u9 H locs hp9 hP hD hS => ?_)
      have hP : wP G [bMod G x xs xb xm xf xu xg xw kn bl ft vh vm vs ln 1 sp pl wr br aS aB aM aO aU aG aW] H := hP
      have hD : wD A [bMod G x xs xb xm xf xu xg xw kn bl ft vh vm vs ln 1 sp pl wr br aS aB aM aO aU aG aW] := hD
      show W p l e rmX9_setBlock_1 s m args below meth c H locs 0 0 Q (F0 m 19 ls [.int (jz 0)])
      exact cret_i hx hb hr hlocks hS hP hD (Nat.le_of_ble_eq_true rfl) (Nat.le_of_ble_eq_true rfl) rfl dX9_setBlock_19 [0] (by decide) () rfl trivial (congrArg (fun z : Int => some (Value.int (jz z))) (show 0 = 0 from by first | rfl | omega | (split <;> first | rfl | omega | (exfalso; omega)))) hQ
  exact KH s.heap [] hP hD hS
abbrev rmX9_setBlock : Room := { frames := 1, cells := 0, slots := 0, locals := 22 }
set_option maxHeartbeats 4000000 in
set_option maxRecDepth 100000 in
theorem mX9_setBlock (l : Launch) (G : GG) (x : Nat) (xs : Nat) (xb : Nat) (xm : Nat) (xf : Nat) (xu : Nat) (xg : Nat) (xw : Nat) (kn : Int) (bl : Int) (ft : Int) (vh : Int) (vm : Int) (vs : Int) (ln : Int) (th : Int) (sp : Int) (pl : Int) (wr : Int) (br : Int) (aS : Int → Int) (aB : Int → Int) (aM : Int → Int) (aO : Int → Int) (aU : Int → Int) (aG : Int → Int) (aW : Int → Int) (z : Int) (hz : 1 ≤ z ∧ z ≤ 2) : Ct l yX9_setBlock cX9_setBlock 4 (some .int) rmX9_setBlock G [.ref x, .int (jz z)] [bMod G x xs xb xm xf xu xg xw kn bl ft vh vm vs ln th sp pl wr br aS aB aM aO aU aG aW] (fun uo : (Int → Int) => some (.int (jz bl))) (fun uo => (∀ q : Int, 0 ≤ q → q < 20736 → uo q = 0)) (fun uo => [bMod G x xs xb xm xf xu xg xw kn z ft 0 0 0 ln 0 sp pl wr br aS aB uo aO aU aG aW]) := by
  refine cof (by decide) (Nat.le_of_ble_eq_true rfl) ?_
  intro p e s m args below meth c A ls hx hb hr hml hown hts hlocks hin hA hK hP hD hS hl Q hQ
  have hown : s.vm.findClass RX9 = some m.cls := hown
  have hl : lv_has ls 4 [(0, .ref x), (1, .int (jz z))] := hl
  have KH : ∀ (H : Heap) (locs : List Loc), wP G [bMod G x xs xb xm xf xu xg xw kn bl ft vh vm vs ln th sp pl wr br aS aB aM aO aU aG aW] H → wD A [bMod G x xs xb xm xf xu xg xw kn bl ft vh vm vs ln th sp pl wr br aS aB aM aO aU aG aW] → va_S A s.heap H locs → W p l e rmX9_setBlock s m args below meth c H locs 0 0 Q (F0 m 0 ls []) := by
    intro H locs hP hD hS
    refine lv_aload_n hx hb dX9_setBlock_0 rfl (lv_at hl 0 rfl) ?_
    refine jv_iconst hx hb dX9_setBlock_1 ?_
    refine va_put (ci := 9) (v := .int (jz 0)) (ty := .int) (C := RX9) (T := TX9) (N := 19) hx hb hts wfX9 tyX9 tyX9_ok nmX9 hown hK.1 hP hD hS 0 rfl rfl 12 (by decide) (hts _ wm822) (fun _ h9 => h9) rfl (by decide +kernel) rfl rfl (Nat.le_of_ble_eq_true rfl) dX9_setBlock_2 (fun H locs hP hD hS => ?_)
    have hP : wP G [bMod G x xs xb xm xf xu xg xw kn bl ft vh vm vs ln 0 sp pl wr br aS aB aM aO aU aG aW] H := hP
    have hD : wD A [bMod G x xs xb xm xf xu xg xw kn bl ft vh vm vs ln 0 sp pl wr br aS aB aM aO aU aG aW] := hD
    refine lv_iload_n hx hb dX9_setBlock_5 rfl (lv_at hl 1 rfl) ?_
    refine jv_iconst hx hb dX9_setBlock_6 ?_
    refine jv_iconst hx hb dX9_setBlock_7 ?_
    refine kS ⟨hx, hb, hml, hown, hts⟩ hK hA hS hP hD [.int (jz z), .int (jz 1), .int (jz 2)] [] (mX9_in_T l G z 1 2 (by omega) (by omega) (by omega) (by omega)) lkX9_42 [] [0] (br := [bMod G x xs xb xm xf xu xg xw kn bl ft vh vm vs ln 0 sp pl wr br aS aB aM aO aU aG aW]) rfl rfl (by decide) rfl rfl (Nat.le_of_ble_eq_true rfl) hl.1 dX9_setBlock_8 ⟨Nat.le_of_ble_eq_true rfl, Nat.le_of_ble_eq_true rfl⟩ ⟨Nat.le_of_ble_eq_true rfl, Nat.le_of_ble_eq_true rfl⟩ (fun u9 H locs hp9 hP hD hS => ?_)
    have hP : wP G [bMod G x xs xb xm xf xu xg xw kn bl ft vh vm vs ln 0 sp pl wr br aS aB aM aO aU aG aW] H := hP
    have hD : wD A [bMod G x xs xb xm xf xu xg xw kn bl ft vh vm vs ln 0 sp pl wr br aS aB aM aO aU aG aW] := hD
    show W p l e rmX9_setBlock s m args below meth c H locs 0 0 Q (F0 m 11 ls [.int (jz 1)])
    refine jv_if_ne (tgt := 20) hx hb dX9_setBlock_11 (by decide) (by omega) (fun c_2 => ?_) (fun c_2 => ?_)
    · refine lv_aload_n hx hb dX9_setBlock_20 rfl (lv_at hl 0 rfl) ?_
      refine va_get (ci := 9) (v := .int (jz bl)) (C := RX9) (T := TX9) (N := 19) hx hb hts wfX9 hown hK.1 hP 0 rfl rfl 3 (by decide) (hts _ wm813) (fun _ h9 => h9) rfl dX9_setBlock_21 ?_
      refine lv_istore_n (lv' := [(2, .int (jz bl)), (0, .ref x), (1, .int (jz z))]) hx hb dX9_setBlock_24 rfl hl (by decide) rfl (fun ls hl => ?_)
      refine lv_aload_n hx hb dX9_setBlock_25 rfl (lv_at hl 1 rfl) ?_
      refine lv_iload_n hx hb dX9_setBlock_26 rfl (lv_at hl 2 rfl) ?_
      refine va_put (ci := 9) (v := .int (jz z)) (ty := .int) (C := RX9) (T := TX9) (N := 19) hx hb hts wfX9 tyX9 tyX9_ok nmX9 hown hK.1 hP hD hS 0 rfl rfl 3 (by decide) (hts _ wm813) (fun _ h9 => h9) rfl (by decide +kernel) rfl rfl (Nat.le_of_ble_eq_true rfl) dX9_setBlock_27 (fun H locs hP hD hS => ?_)
      have hP : wP G [bMod G x xs xb xm xf xu xg xw kn z ft vh vm vs ln 0 sp pl wr br aS aB aM aO aU aG aW] H := hP
      have hD : wD A [bMod G x xs xb xm xf xu xg xw kn z ft vh vm vs ln 0 sp pl wr br aS aB aM aO aU aG aW] := hD
      refine jv_iconst hx hb dX9_setBlock_30 ?_
      refine lv_istore_n (lv' := [(3, .int (jz 0)), (2, .int (jz bl)), (0, .ref x), (1, .int (jz z))]) hx hb dX9_setBlock_31 rfl hl (by decide) rfl (fun ls hl => ?_)
      have K32 : ∀ (n9 : Nat) (k : Int) (f : Int → Int) , (((20736 : Int) - k).toNat) < n9 → (0 ≤ k ∧ k ≤ 20736) → (∀ q : Int, 0 ≤ q → q < k → f q = 0) → ∀ (H : Heap) (locs : List Loc) (ls : Array Slot), wP G [bMod G x xs xb xm xf xu xg xw kn z ft vh vm vs ln 0 sp pl wr br aS aB f aO aU aG aW] H → wD A [bMod G x xs xb xm xf xu xg xw kn z ft vh vm vs ln 0 sp pl wr br aS aB f aO aU aG aW] → va_S A s.heap H locs → lv_has ls 4 [(0, .ref x), (1, .int (jz z)), (2, .int (jz bl)), (3, .int (jz k))] → W p l e rmX9_setBlock s m args below meth c H locs 0 0 Q (F0 m 32 ls []) := by
        intro n9
        induction n9 with
        | zero => intro k f hm9; exact absurd hm9 (Nat.not_lt_zero _)
        | succ n9 ih32 =>
          intro k f hm9 hk hf H locs ls hP hD hS hl
          refine lv_iload_n hx hb dX9_setBlock_32 rfl (lv_at hl 3 rfl) ?_
          refine jv_sipush hx hb dX9_setBlock_33 (by decide) ?_
          refine jv_icmp_ge (tgt := 52) hx hb dX9_setBlock_36 (by decide) (by omega) (by omega) (fun c_3 => ?_) (fun c_3 => ?_)
          · refine lv_aload_n hx hb dX9_setBlock_52 rfl (lv_at hl 0 rfl) ?_
            refine jv_iconst hx hb dX9_setBlock_53 ?_
            refine va_put (ci := 9) (v := .int (jz 0)) (ty := .int) (C := RX9) (T := TX9) (N := 19) hx hb hts wfX9 tyX9 tyX9_ok nmX9 hown hK.1 hP hD hS 0 rfl rfl 7 (by decide) (hts _ wm817) (fun _ h9 => h9) rfl (by decide +kernel) rfl rfl (Nat.le_of_ble_eq_true rfl) dX9_setBlock_54 (fun H locs hP hD hS => ?_)
            have hP : wP G [bMod G x xs xb xm xf xu xg xw kn z ft 0 vm vs ln 0 sp pl wr br aS aB f aO aU aG aW] H := hP
            have hD : wD A [bMod G x xs xb xm xf xu xg xw kn z ft 0 vm vs ln 0 sp pl wr br aS aB f aO aU aG aW] := hD
            refine lv_aload_n hx hb dX9_setBlock_57 rfl (lv_at hl 0 rfl) ?_
            refine jv_iconst hx hb dX9_setBlock_58 ?_
            refine va_put (ci := 9) (v := .int (jz 0)) (ty := .int) (C := RX9) (T := TX9) (N := 19) hx hb hts wfX9 tyX9 tyX9_ok nmX9 hown hK.1 hP hD hS 0 rfl rfl 8 (by decide) (hts _ wm818) (fun _ h9 => h9) rfl (by decide +kernel) rfl rfl (Nat.le_of_ble_eq_true rfl) dX9_setBlock_59 (fun H locs hP hD hS => ?_)
            have hP : wP G [bMod G x xs xb xm xf xu xg xw kn z ft 0 0 vs ln 0 sp pl wr br aS aB f aO aU aG aW] H := hP
            have hD : wD A [bMod G x xs xb xm xf xu xg xw kn z ft 0 0 vs ln 0 sp pl wr br aS aB f aO aU aG aW] := hD
            refine lv_aload_n hx hb dX9_setBlock_62 rfl (lv_at hl 0 rfl) ?_
            refine jv_iconst hx hb dX9_setBlock_63 ?_
            refine va_put (ci := 9) (v := .int (jz 0)) (ty := .int) (C := RX9) (T := TX9) (N := 19) hx hb hts wfX9 tyX9 tyX9_ok nmX9 hown hK.1 hP hD hS 0 rfl rfl 9 (by decide) (hts _ wm819) (fun _ h9 => h9) rfl (by decide +kernel) rfl rfl (Nat.le_of_ble_eq_true rfl) dX9_setBlock_64 (fun H locs hP hD hS => ?_)
            have hP : wP G [bMod G x xs xb xm xf xu xg xw kn z ft 0 0 0 ln 0 sp pl wr br aS aB f aO aU aG aW] H := hP
            have hD : wD A [bMod G x xs xb xm xf xu xg xw kn z ft 0 0 0 ln 0 sp pl wr br aS aB f aO aU aG aW] := hD
            refine lv_iload_n hx hb dX9_setBlock_67 rfl (lv_at hl 2 rfl) ?_
            exact cret_i hx hb hr hlocks hS hP hD (Nat.le_of_ble_eq_true rfl) (Nat.le_of_ble_eq_true rfl) rfl dX9_setBlock_68 [0] (by decide) f rfl (show ∀ q : Int, 0 ≤ q → q < 20736 → f q = 0 from by exact fun q h1 h2 => hf q h1 (by omega)) (congrArg (fun z : Int => some (Value.int (jz z))) (show bl = bl from by first | rfl | omega | (split <;> first | rfl | omega | (exfalso; omega)))) hQ
          · refine lv_aload_n hx hb dX9_setBlock_39 rfl (lv_at hl 0 rfl) ?_
            refine va_get (ci := 9) (v := .ref xm) (C := RX9) (T := TX9) (N := 19) hx hb hts wfX9 hown hK.1 hP 0 rfl rfl 4 (by decide) (hts _ wm814) (fun _ h9 => h9) rfl dX9_setBlock_40 ?_
            refine lv_iload_n hx hb dX9_setBlock_43 rfl (lv_at hl 3 rfl) ?_
            refine jv_iconst hx hb dX9_setBlock_44 ?_
            refine jv_zast hx hb hK.1 hP hD hS 3 (g := f) rfl (by omega) (by omega) (by decide) (by omega) dX9_setBlock_45 (fun H locs hP hD hS => ?_)
            have hP : wP G [bMod G x xs xb xm xf xu xg xw kn z ft vh vm vs ln 0 sp pl wr br aS aB (up f k 0) aO aU aG aW] H := hP
            have hD : wD A [bMod G x xs xb xm xf xu xg xw kn z ft vh vm vs ln 0 sp pl wr br aS aB (up f k 0) aO aU aG aW] := hD
            refine jv_iinc (lv' := [(3, .int (jz (k + 1))), (0, .ref x), (1, .int (jz z)), (2, .int (jz bl))]) (k := 3) hx hb dX9_setBlock_46 hl rfl (by decide) rfl (fun ls hl => ?_)
            refine lv_goto (tgt := 32) hx hb dX9_setBlock_49 (by decide) ?_
            exact ih32 (k + 1) (up f k 0) (by omega) (by omega) (by intro q h1 h2; unfold up; if e1 : q = k then (rw [if_pos e1]) else (rw [if_neg e1]; exact hf q h1 (by omega))) H _ _ hP hD hS (lv_sub hl [1, 2, 3, 0] rfl)
      exact K32 ((((20736 : Int) - 0).toNat) + 1) 0 aM (Nat.lt_succ_self _) (by omega) (by intro q h1 h2; omega) H _ _ hP hD hS (lv_sub hl [2, 3, 1, 0] rfl)
    · exfalso; omega
  exact KH s.heap [] hP hD hS
abbrev rmX9_hits : Room := { frames := 0, cells := 0, slots := 0, locals := 0 }
set_option maxHeartbeats 4000000 in
set_option maxRecDepth 100000 in
theorem mX9_hits (l : Launch) (G : GG) (x : Nat) (xs : Nat) (xb : Nat) (xm : Nat) (xf : Nat) (xu : Nat) (xg : Nat) (xw : Nat) (kn : Int) (bl : Int) (ft : Int) (vh : Int) (vm : Int) (vs : Int) (ln : Int) (th : Int) (sp : Int) (pl : Int) (wr : Int) (br : Int) (aS : Int → Int) (aB : Int → Int) (aM : Int → Int) (aO : Int → Int) (aU : Int → Int) (aG : Int → Int) (aW : Int → Int)  : Ct l yX9_hits cX9_hits 1 (some .int) rmX9_hits G [.ref x] [bMod G x xs xb xm xf xu xg xw kn bl ft vh vm vs ln th sp pl wr br aS aB aM aO aU aG aW] (fun uo : Unit => some (.int (jz vh))) (fun uo => True) (fun uo => [bMod G x xs xb xm xf xu xg xw kn bl ft vh vm vs ln 0 sp pl wr br aS aB aM aO aU aG aW]) := by
  refine cof (by decide) (Nat.le_of_ble_eq_true rfl) ?_
  intro p e s m args below meth c A ls hx hb hr hml hown hts hlocks hin hA hK hP hD hS hl Q hQ
  have hown : s.vm.findClass RX9 = some m.cls := hown
  have hl : lv_has ls 1 [(0, .ref x)] := hl
  have KH : ∀ (H : Heap) (locs : List Loc), wP G [bMod G x xs xb xm xf xu xg xw kn bl ft vh vm vs ln th sp pl wr br aS aB aM aO aU aG aW] H → wD A [bMod G x xs xb xm xf xu xg xw kn bl ft vh vm vs ln th sp pl wr br aS aB aM aO aU aG aW] → va_S A s.heap H locs → W p l e rmX9_hits s m args below meth c H locs 0 0 Q (F0 m 0 ls []) := by
    intro H locs hP hD hS
    refine lv_aload_n hx hb dX9_hits_0 rfl (lv_at hl 0 rfl) ?_
    refine jv_iconst hx hb dX9_hits_1 ?_
    refine va_put (ci := 9) (v := .int (jz 0)) (ty := .int) (C := RX9) (T := TX9) (N := 19) hx hb hts wfX9 tyX9 tyX9_ok nmX9 hown hK.1 hP hD hS 0 rfl rfl 12 (by decide) (hts _ wm822) (fun _ h9 => h9) rfl (by decide +kernel) rfl rfl (Nat.le_of_ble_eq_true rfl) dX9_hits_2 (fun H locs hP hD hS => ?_)
    have hP : wP G [bMod G x xs xb xm xf xu xg xw kn bl ft vh vm vs ln 0 sp pl wr br aS aB aM aO aU aG aW] H := hP
    have hD : wD A [bMod G x xs xb xm xf xu xg xw kn bl ft vh vm vs ln 0 sp pl wr br aS aB aM aO aU aG aW] := hD
    refine lv_aload_n hx hb dX9_hits_5 rfl (lv_at hl 0 rfl) ?_
    refine va_get (ci := 9) (v := .int (jz vh)) (C := RX9) (T := TX9) (N := 19) hx hb hts wfX9 hown hK.1 hP 0 rfl rfl 7 (by decide) (hts _ wm817) (fun _ h9 => h9) rfl dX9_hits_6 ?_
    exact cret_i hx hb hr hlocks hS hP hD (Nat.le_of_ble_eq_true rfl) (Nat.le_of_ble_eq_true rfl) rfl dX9_hits_9 [0] (by decide) () rfl trivial (congrArg (fun z : Int => some (Value.int (jz z))) (show vh = vh from by first | rfl | omega | (split <;> first | rfl | omega | (exfalso; omega)))) hQ
  exact KH s.heap [] hP hD hS
abbrev rmX9_misses : Room := { frames := 0, cells := 0, slots := 0, locals := 0 }
set_option maxHeartbeats 4000000 in
set_option maxRecDepth 100000 in
theorem mX9_misses (l : Launch) (G : GG) (x : Nat) (xs : Nat) (xb : Nat) (xm : Nat) (xf : Nat) (xu : Nat) (xg : Nat) (xw : Nat) (kn : Int) (bl : Int) (ft : Int) (vh : Int) (vm : Int) (vs : Int) (ln : Int) (th : Int) (sp : Int) (pl : Int) (wr : Int) (br : Int) (aS : Int → Int) (aB : Int → Int) (aM : Int → Int) (aO : Int → Int) (aU : Int → Int) (aG : Int → Int) (aW : Int → Int)  : Ct l yX9_misses cX9_misses 1 (some .int) rmX9_misses G [.ref x] [bMod G x xs xb xm xf xu xg xw kn bl ft vh vm vs ln th sp pl wr br aS aB aM aO aU aG aW] (fun uo : Unit => some (.int (jz vm))) (fun uo => True) (fun uo => [bMod G x xs xb xm xf xu xg xw kn bl ft vh vm vs ln 0 sp pl wr br aS aB aM aO aU aG aW]) := by
  refine cof (by decide) (Nat.le_of_ble_eq_true rfl) ?_
  intro p e s m args below meth c A ls hx hb hr hml hown hts hlocks hin hA hK hP hD hS hl Q hQ
  have hown : s.vm.findClass RX9 = some m.cls := hown
  have hl : lv_has ls 1 [(0, .ref x)] := hl
  have KH : ∀ (H : Heap) (locs : List Loc), wP G [bMod G x xs xb xm xf xu xg xw kn bl ft vh vm vs ln th sp pl wr br aS aB aM aO aU aG aW] H → wD A [bMod G x xs xb xm xf xu xg xw kn bl ft vh vm vs ln th sp pl wr br aS aB aM aO aU aG aW] → va_S A s.heap H locs → W p l e rmX9_misses s m args below meth c H locs 0 0 Q (F0 m 0 ls []) := by
    intro H locs hP hD hS
    refine lv_aload_n hx hb dX9_misses_0 rfl (lv_at hl 0 rfl) ?_
    refine jv_iconst hx hb dX9_misses_1 ?_
    refine va_put (ci := 9) (v := .int (jz 0)) (ty := .int) (C := RX9) (T := TX9) (N := 19) hx hb hts wfX9 tyX9 tyX9_ok nmX9 hown hK.1 hP hD hS 0 rfl rfl 12 (by decide) (hts _ wm822) (fun _ h9 => h9) rfl (by decide +kernel) rfl rfl (Nat.le_of_ble_eq_true rfl) dX9_misses_2 (fun H locs hP hD hS => ?_)
    have hP : wP G [bMod G x xs xb xm xf xu xg xw kn bl ft vh vm vs ln 0 sp pl wr br aS aB aM aO aU aG aW] H := hP
    have hD : wD A [bMod G x xs xb xm xf xu xg xw kn bl ft vh vm vs ln 0 sp pl wr br aS aB aM aO aU aG aW] := hD
    refine lv_aload_n hx hb dX9_misses_5 rfl (lv_at hl 0 rfl) ?_
    refine va_get (ci := 9) (v := .int (jz vm)) (C := RX9) (T := TX9) (N := 19) hx hb hts wfX9 hown hK.1 hP 0 rfl rfl 8 (by decide) (hts _ wm818) (fun _ h9 => h9) rfl dX9_misses_6 ?_
    exact cret_i hx hb hr hlocks hS hP hD (Nat.le_of_ble_eq_true rfl) (Nat.le_of_ble_eq_true rfl) rfl dX9_misses_9 [0] (by decide) () rfl trivial (congrArg (fun z : Int => some (Value.int (jz z))) (show vm = vm from by first | rfl | omega | (split <;> first | rfl | omega | (exfalso; omega)))) hQ
  exact KH s.heap [] hP hD hS
abbrev rmX9_singleSteps : Room := { frames := 0, cells := 0, slots := 0, locals := 0 }
set_option maxHeartbeats 4000000 in
set_option maxRecDepth 100000 in
theorem mX9_singleSteps (l : Launch) (G : GG) (x : Nat) (xs : Nat) (xb : Nat) (xm : Nat) (xf : Nat) (xu : Nat) (xg : Nat) (xw : Nat) (kn : Int) (bl : Int) (ft : Int) (vh : Int) (vm : Int) (vs : Int) (ln : Int) (th : Int) (sp : Int) (pl : Int) (wr : Int) (br : Int) (aS : Int → Int) (aB : Int → Int) (aM : Int → Int) (aO : Int → Int) (aU : Int → Int) (aG : Int → Int) (aW : Int → Int)  : Ct l yX9_singleSteps cX9_singleSteps 1 (some .int) rmX9_singleSteps G [.ref x] [bMod G x xs xb xm xf xu xg xw kn bl ft vh vm vs ln th sp pl wr br aS aB aM aO aU aG aW] (fun uo : Unit => some (.int (jz vs))) (fun uo => True) (fun uo => [bMod G x xs xb xm xf xu xg xw kn bl ft vh vm vs ln 0 sp pl wr br aS aB aM aO aU aG aW]) := by
  refine cof (by decide) (Nat.le_of_ble_eq_true rfl) ?_
  intro p e s m args below meth c A ls hx hb hr hml hown hts hlocks hin hA hK hP hD hS hl Q hQ
  have hown : s.vm.findClass RX9 = some m.cls := hown
  have hl : lv_has ls 1 [(0, .ref x)] := hl
  have KH : ∀ (H : Heap) (locs : List Loc), wP G [bMod G x xs xb xm xf xu xg xw kn bl ft vh vm vs ln th sp pl wr br aS aB aM aO aU aG aW] H → wD A [bMod G x xs xb xm xf xu xg xw kn bl ft vh vm vs ln th sp pl wr br aS aB aM aO aU aG aW] → va_S A s.heap H locs → W p l e rmX9_singleSteps s m args below meth c H locs 0 0 Q (F0 m 0 ls []) := by
    intro H locs hP hD hS
    refine lv_aload_n hx hb dX9_singleSteps_0 rfl (lv_at hl 0 rfl) ?_
    refine jv_iconst hx hb dX9_singleSteps_1 ?_
    refine va_put (ci := 9) (v := .int (jz 0)) (ty := .int) (C := RX9) (T := TX9) (N := 19) hx hb hts wfX9 tyX9 tyX9_ok nmX9 hown hK.1 hP hD hS 0 rfl rfl 12 (by decide) (hts _ wm822) (fun _ h9 => h9) rfl (by decide +kernel) rfl rfl (Nat.le_of_ble_eq_true rfl) dX9_singleSteps_2 (fun H locs hP hD hS => ?_)
    have hP : wP G [bMod G x xs xb xm xf xu xg xw kn bl ft vh vm vs ln 0 sp pl wr br aS aB aM aO aU aG aW] H := hP
    have hD : wD A [bMod G x xs xb xm xf xu xg xw kn bl ft vh vm vs ln 0 sp pl wr br aS aB aM aO aU aG aW] := hD
    refine lv_aload_n hx hb dX9_singleSteps_5 rfl (lv_at hl 0 rfl) ?_
    refine va_get (ci := 9) (v := .int (jz vs)) (C := RX9) (T := TX9) (N := 19) hx hb hts wfX9 hown hK.1 hP 0 rfl rfl 9 (by decide) (hts _ wm819) (fun _ h9 => h9) rfl dX9_singleSteps_6 ?_
    exact cret_i hx hb hr hlocks hS hP hD (Nat.le_of_ble_eq_true rfl) (Nat.le_of_ble_eq_true rfl) rfl dX9_singleSteps_9 [0] (by decide) () rfl trivial (congrArg (fun z : Int => some (Value.int (jz z))) (show vs = vs from by first | rfl | omega | (split <;> first | rfl | omega | (exfalso; omega)))) hQ
  exact KH s.heap [] hP hD hS
abbrev rmX9_savedStates : Room := { frames := 0, cells := 0, slots := 0, locals := 0 }
set_option maxHeartbeats 4000000 in
set_option maxRecDepth 100000 in
theorem mX9_savedStates (l : Launch) (G : GG) (x : Nat) (xs : Nat) (xb : Nat) (xm : Nat) (xf : Nat) (xu : Nat) (xg : Nat) (xw : Nat) (kn : Int) (bl : Int) (ft : Int) (vh : Int) (vm : Int) (vs : Int) (ln : Int) (th : Int) (sp : Int) (pl : Int) (wr : Int) (br : Int) (aS : Int → Int) (aB : Int → Int) (aM : Int → Int) (aO : Int → Int) (aU : Int → Int) (aG : Int → Int) (aW : Int → Int)  : Ct l yX9_savedStates cX9_savedStates 1 (some .int) rmX9_savedStates G [.ref x] [bMod G x xs xb xm xf xu xg xw kn bl ft vh vm vs ln th sp pl wr br aS aB aM aO aU aG aW] (fun uo : Unit => some (.int (jz kn))) (fun uo => True) (fun uo => [bMod G x xs xb xm xf xu xg xw kn bl ft vh vm vs ln 0 sp pl wr br aS aB aM aO aU aG aW]) := by
  refine cof (by decide) (Nat.le_of_ble_eq_true rfl) ?_
  intro p e s m args below meth c A ls hx hb hr hml hown hts hlocks hin hA hK hP hD hS hl Q hQ
  have hown : s.vm.findClass RX9 = some m.cls := hown
  have hl : lv_has ls 1 [(0, .ref x)] := hl
  have KH : ∀ (H : Heap) (locs : List Loc), wP G [bMod G x xs xb xm xf xu xg xw kn bl ft vh vm vs ln th sp pl wr br aS aB aM aO aU aG aW] H → wD A [bMod G x xs xb xm xf xu xg xw kn bl ft vh vm vs ln th sp pl wr br aS aB aM aO aU aG aW] → va_S A s.heap H locs → W p l e rmX9_savedStates s m args below meth c H locs 0 0 Q (F0 m 0 ls []) := by
    intro H locs hP hD hS
    refine lv_aload_n hx hb dX9_savedStates_0 rfl (lv_at hl 0 rfl) ?_
    refine jv_iconst hx hb dX9_savedStates_1 ?_
    refine va_put (ci := 9) (v := .int (jz 0)) (ty := .int) (C := RX9) (T := TX9) (N := 19) hx hb hts wfX9 tyX9 tyX9_ok nmX9 hown hK.1 hP hD hS 0 rfl rfl 12 (by decide) (hts _ wm822) (fun _ h9 => h9) rfl (by decide +kernel) rfl rfl (Nat.le_of_ble_eq_true rfl) dX9_savedStates_2 (fun H locs hP hD hS => ?_)
    have hP : wP G [bMod G x xs xb xm xf xu xg xw kn bl ft vh vm vs ln 0 sp pl wr br aS aB aM aO aU aG aW] H := hP
    have hD : wD A [bMod G x xs xb xm xf xu xg xw kn bl ft vh vm vs ln 0 sp pl wr br aS aB aM aO aU aG aW] := hD
    refine lv_aload_n hx hb dX9_savedStates_5 rfl (lv_at hl 0 rfl) ?_
    refine va_get (ci := 9) (v := .int (jz kn)) (C := RX9) (T := TX9) (N := 19) hx hb hts wfX9 hown hK.1 hP 0 rfl rfl 2 (by decide) (hts _ wm812) (fun _ h9 => h9) rfl dX9_savedStates_6 ?_
    exact cret_i hx hb hr hlocks hS hP hD (Nat.le_of_ble_eq_true rfl) (Nat.le_of_ble_eq_true rfl) rfl dX9_savedStates_9 [0] (by decide) () rfl trivial (congrArg (fun z : Int => some (Value.int (jz z))) (show kn = kn from by first | rfl | omega | (split <;> first | rfl | omega | (exfalso; omega)))) hQ
  exact KH s.heap [] hP hD hS
abbrev rmX9_clearBuffer : Room := { frames := 0, cells := 0, slots := 0, locals := 0 }
set_option maxHeartbeats 4000000 in
set_option maxRecDepth 100000 in
theorem mX9_clearBuffer (l : Launch) (G : GG) (x : Nat) (xs : Nat) (xb : Nat) (xm : Nat) (xf : Nat) (xu : Nat) (xg : Nat) (xw : Nat) (kn : Int) (bl : Int) (ft : Int) (vh : Int) (vm : Int) (vs : Int) (ln : Int) (th : Int) (sp : Int) (pl : Int) (wr : Int) (br : Int) (aS : Int → Int) (aB : Int → Int) (aM : Int → Int) (aO : Int → Int) (aU : Int → Int) (aG : Int → Int) (aW : Int → Int)  : Ct l yX9_clearBuffer cX9_clearBuffer 2 (some .int) rmX9_clearBuffer G [.ref x] [bMod G x xs xb xm xf xu xg xw kn bl ft vh vm vs ln th sp pl wr br aS aB aM aO aU aG aW] (fun uo : Unit => some (.int (jz ln))) (fun uo => True) (fun uo => [bMod G x xs xb xm xf xu xg xw kn bl ft vh vm vs 0 0 sp pl wr br aS aB aM aO aU aG aW]) := by
  refine cof (by decide) (Nat.le_of_ble_eq_true rfl) ?_
  intro p e s m args below meth c A ls hx hb hr hml hown hts hlocks hin hA hK hP hD hS hl Q hQ
  have hown : s.vm.findClass RX9 = some m.cls := hown
  have hl : lv_has ls 2 [(0, .ref x)] := hl
  have KH : ∀ (H : Heap) (locs : List Loc), wP G [bMod G x xs xb xm xf xu xg xw kn bl ft vh vm vs ln th sp pl wr br aS aB aM aO aU aG aW] H → wD A [bMod G x xs xb xm xf xu xg xw kn bl ft vh vm vs ln th sp pl wr br aS aB aM aO aU aG aW] → va_S A s.heap H locs → W p l e rmX9_clearBuffer s m args below meth c H locs 0 0 Q (F0 m 0 ls []) := by
    intro H locs hP hD hS
    refine lv_aload_n hx hb dX9_clearBuffer_0 rfl (lv_at hl 0 rfl) ?_
    refine jv_iconst hx hb dX9_clearBuffer_1 ?_
    refine va_put (ci := 9) (v := .int (jz 0)) (ty := .int) (C := RX9) (T := TX9) (N := 19) hx hb hts wfX9 tyX9 tyX9_ok nmX9 hown hK.1 hP hD hS 0 rfl rfl 12 (by decide) (hts _ wm822) (fun _ h9 => h9) rfl (by decide +kernel) rfl rfl (Nat.le_of_ble_eq_true rfl) dX9_clearBuffer_2 (fun H locs hP hD hS => ?_)
    have hP : wP G [bMod G x xs xb xm xf xu xg xw kn bl ft vh vm vs ln 0 sp pl wr br aS aB aM aO aU aG aW] H := hP
    have hD : wD A [bMod G x xs xb xm xf xu xg xw kn bl ft vh vm vs ln 0 sp pl wr br aS aB aM aO aU aG aW] := hD
    refine lv_aload_n hx hb dX9_clearBuffer_5 rfl (lv_at hl 0 rfl) ?_
    refine va_get (ci := 9) (v := .int (jz ln)) (C := RX9) (T := TX9) (N := 19) hx hb hts wfX9 hown hK.1 hP 0 rfl rfl 11 (by decide) (hts _ wm821) (fun _ h9 => h9) rfl dX9_clearBuffer_6 ?_
    refine lv_istore_n (lv' := [(1, .int (jz ln)), (0, .ref x)]) hx hb dX9_clearBuffer_9 rfl hl (by decide) rfl (fun ls hl => ?_)
    refine lv_aload_n hx hb dX9_clearBuffer_10 rfl (lv_at hl 1 rfl) ?_
    refine jv_iconst hx hb dX9_clearBuffer_11 ?_
    refine va_put (ci := 9) (v := .int (jz 0)) (ty := .int) (C := RX9) (T := TX9) (N := 19) hx hb hts wfX9 tyX9 tyX9_ok nmX9 hown hK.1 hP hD hS 0 rfl rfl 11 (by decide) (hts _ wm821) (fun _ h9 => h9) rfl (by decide +kernel) rfl rfl (Nat.le_of_ble_eq_true rfl) dX9_clearBuffer_12 (fun H locs hP hD hS => ?_)
    have hP : wP G [bMod G x xs xb xm xf xu xg xw kn bl ft vh vm vs 0 0 sp pl wr br aS aB aM aO aU aG aW] H := hP
    have hD : wD A [bMod G x xs xb xm xf xu xg xw kn bl ft vh vm vs 0 0 sp pl wr br aS aB aM aO aU aG aW] := hD
    refine lv_iload_n hx hb dX9_clearBuffer_15 rfl (lv_at hl 0 rfl) ?_
    exact cret_i hx hb hr hlocks hS hP hD (Nat.le_of_ble_eq_true rfl) (Nat.le_of_ble_eq_true rfl) rfl dX9_clearBuffer_16 [0] (by decide) () rfl trivial (congrArg (fun z : Int => some (Value.int (jz z))) (show ln = ln from by first | rfl | omega | (split <;> first | rfl | omega | (exfalso; omega)))) hQ
  exact KH s.heap [] hP hD hS
abbrev rmX9_firstError : Room := { frames := 2, cells := 0, slots := 0, locals := 45 }
set_option maxHeartbeats 4000000 in
set_option maxRecDepth 100000 in
theorem mX9_firstError (l : Launch) (G : GG) (x : Nat) (xs : Nat) (xb : Nat) (xm : Nat) (xf : Nat) (xu : Nat) (xg : Nat) (xw : Nat) (kn : Int) (bl : Int) (ft : Int) (vh : Int) (vm : Int) (vs : Int) (ln : Int) (th : Int) (sp : Int) (pl : Int) (wr : Int) (br : Int) (aS : Int → Int) (aB : Int → Int) (aM : Int → Int) (aO : Int → Int) (aU : Int → Int) (aG : Int → Int) (aW : Int → Int) (hln : 0 ≤ ln ∧ ln ≤ 60) (hbu : ∀ x : Int, 0 ≤ x → x < ln → 33 ≤ aU x ∧ aU x ≤ 126) : Ct l yX9_firstError cX9_firstError 1 (some .int) rmX9_firstError G [.ref x] [bMod G x xs xb xm xf xu xg xw kn bl ft vh vm vs ln th sp pl wr br aS aB aM aO aU aG aW] (fun uo : Int × Int × Int => some (.int (jz ((sc aU ln).1)))) (fun uo => True) (fun uo => [bMod G x xs xb xm xf xu xg xw kn bl ft vh vm vs ln 0 sp uo.1 uo.2.1 uo.2.2 aS aB aM aO aU aG aW]) := by
  refine cof (by decide) (Nat.le_of_ble_eq_true rfl) ?_
  intro p e s m args below meth c A ls hx hb hr hml hown hts hlocks hin hA hK hP hD hS hl Q hQ
  have hown : s.vm.findClass RX9 = some m.cls := hown
  have hl : lv_has ls 1 [(0, .ref x)] := hl
  have KH : ∀ (H : Heap) (locs : List Loc), wP G [bMod G x xs xb xm xf xu xg xw kn bl ft vh vm vs ln th sp pl wr br aS aB aM aO aU aG aW] H → wD A [bMod G x xs xb xm xf xu xg xw kn bl ft vh vm vs ln th sp pl wr br aS aB aM aO aU aG aW] → va_S A s.heap H locs → W p l e rmX9_firstError s m args below meth c H locs 0 0 Q (F0 m 0 ls []) := by
    intro H locs hP hD hS
    refine lv_aload_n hx hb dX9_firstError_0 rfl (lv_at hl 0 rfl) ?_
    refine jv_iconst hx hb dX9_firstError_1 ?_
    refine va_put (ci := 9) (v := .int (jz 0)) (ty := .int) (C := RX9) (T := TX9) (N := 19) hx hb hts wfX9 tyX9 tyX9_ok nmX9 hown hK.1 hP hD hS 0 rfl rfl 12 (by decide) (hts _ wm822) (fun _ h9 => h9) rfl (by decide +kernel) rfl rfl (Nat.le_of_ble_eq_true rfl) dX9_firstError_2 (fun H locs hP hD hS => ?_)
    have hP : wP G [bMod G x xs xb xm xf xu xg xw kn bl ft vh vm vs ln 0 sp pl wr br aS aB aM aO aU aG aW] H := hP
    have hD : wD A [bMod G x xs xb xm xf xu xg xw kn bl ft vh vm vs ln 0 sp pl wr br aS aB aM aO aU aG aW] := hD
    refine lv_aload_n hx hb dX9_firstError_5 rfl (lv_at hl 0 rfl) ?_
    refine kV ⟨hx, hb, hml, hown, hts⟩ hK hA hS hP hD [] [] (mX9_go l G x xs xb xm xf xu xg xw kn bl ft vh vm vs ln 0 sp pl wr br aS aB aM aO aU aG aW (by omega) (by omega)) lkX9_95 [0] [] (br := []) rfl rfl (by decide) 0 9 rfl rfl rfl rfl (Nat.le_of_ble_eq_true rfl) hl.1 dX9_firstError_6 ⟨Nat.le_of_ble_eq_true rfl, Nat.le_of_ble_eq_true rfl⟩ ⟨Nat.le_of_ble_eq_true rfl, Nat.le_of_ble_eq_true rfl⟩ (fun u9 H locs hp9 hP hD hS => ?_)
    obtain ⟨u_1, u_2, u_3⟩ := u9
    have hc_4 : sc aU ln = (u_1, u_3) := hp9.1
    have hd_5 : (u_2 = 0 ∧ u_1 = ln) ∨ (u_2 = 1 ∧ u_1 < ln) := hp9.2
    have hP : wP G [bMod G x xs xb xm xf xu xg xw kn bl ft vh vm vs ln 0 sp u_1 u_2 u_3 aS aB aM aO aU aG aW] H := hP
    have hD : wD A [bMod G x xs xb xm xf xu xg xw kn bl ft vh vm vs ln 0 sp u_1 u_2 u_3 aS aB aM aO aU aG aW] := hD
    show W p l e rmX9_firstError s m args below meth c H locs 0 0 Q (F0 m 9 ls [])
    have hgc := hc_4
    refine lv_aload_n hx hb dX9_firstError_9 rfl (lv_at hl 0 rfl) ?_
    refine va_get (ci := 9) (v := .int (jz u_1)) (C := RX9) (T := TX9) (N := 19) hx hb hts wfX9 hown hK.1 hP 0 rfl rfl 16 (by decide) (hts _ wm826) (fun _ h9 => h9) rfl dX9_firstError_10 ?_
    exact cret_i hx hb hr hlocks hS hP hD (Nat.le_of_ble_eq_true rfl) (Nat.le_of_ble_eq_true rfl) rfl dX9_firstError_13 [0] (by decide) ⟨u_1, u_2, u_3⟩ rfl trivial (congrArg (fun z : Int => some (Value.int (jz z))) (show u_1 = (sc aU ln).1 from by rw [hgc])) hQ
  exact KH s.heap [] hP hD hS
abbrev rmX9_append : Room := { frames := 1, cells := 0, slots := 0, locals := 22 }
set_option maxHeartbeats 4000000 in
set_option maxRecDepth 100000 in
theorem mX9_append (l : Launch) (G : GG) (x : Nat) (xs : Nat) (xb : Nat) (xm : Nat) (xf : Nat) (xu : Nat) (xg : Nat) (xw : Nat) (kn : Int) (bl : Int) (ft : Int) (vh : Int) (vm : Int) (vs : Int) (ln : Int) (th : Int) (sp : Int) (pl : Int) (wr : Int) (br : Int) (aS : Int → Int) (aB : Int → Int) (aM : Int → Int) (aO : Int → Int) (aU : Int → Int) (aG : Int → Int) (aW : Int → Int) (z : Int) (hz : 33 ≤ z ∧ z ≤ 126) (hln : 0 ≤ ln ∧ ln < 60) : Ct l yX9_append cX9_append 2 (some .int) rmX9_append G [.ref x, .int (jz z)] [bMod G x xs xb xm xf xu xg xw kn bl ft vh vm vs ln th sp pl wr br aS aB aM aO aU aG aW] (fun uo : Unit => some (.int (jz (ln + 1)))) (fun uo => True) (fun uo => [bMod G x xs xb xm xf xu xg xw kn bl ft vh vm vs ((ln + 1)) 0 sp pl wr br aS aB aM aO ((up aU ln z)) aG aW]) := by
  refine cof (by decide) (Nat.le_of_ble_eq_true rfl) ?_
  intro p e s m args below meth c A ls hx hb hr hml hown hts hlocks hin hA hK hP hD hS hl Q hQ
  have hown : s.vm.findClass RX9 = some m.cls := hown
  have hl : lv_has ls 2 [(0, .ref x), (1, .int (jz z))] := hl
  have KH : ∀ (H : Heap) (locs : List Loc), wP G [bMod G x xs xb xm xf xu xg xw kn bl ft vh vm vs ln th sp pl wr br aS aB aM aO aU aG aW] H → wD A [bMod G x xs xb xm xf xu xg xw kn bl ft vh vm vs ln th sp pl wr br aS aB aM aO aU aG aW] → va_S A s.heap H locs → W p l e rmX9_append s m args below meth c H locs 0 0 Q (F0 m 0 ls []) := by
    intro H locs hP hD hS
    refine lv_aload_n hx hb dX9_append_0 rfl (lv_at hl 0 rfl) ?_
    refine jv_iconst hx hb dX9_append_1 ?_
    refine va_put (ci := 9) (v := .int (jz 0)) (ty := .int) (C := RX9) (T := TX9) (N := 19) hx hb hts wfX9 tyX9 tyX9_ok nmX9 hown hK.1 hP hD hS 0 rfl rfl 12 (by decide) (hts _ wm822) (fun _ h9 => h9) rfl (by decide +kernel) rfl rfl (Nat.le_of_ble_eq_true rfl) dX9_append_2 (fun H locs hP hD hS => ?_)
    have hP : wP G [bMod G x xs xb xm xf xu xg xw kn bl ft vh vm vs ln 0 sp pl wr br aS aB aM aO aU aG aW] H := hP
    have hD : wD A [bMod G x xs xb xm xf xu xg xw kn bl ft vh vm vs ln 0 sp pl wr br aS aB aM aO aU aG aW] := hD
    refine lv_iload_n hx hb dX9_append_5 rfl (lv_at hl 1 rfl) ?_
    refine jv_bipush hx hb dX9_append_6 (by decide) ?_
    refine jv_bipush hx hb dX9_append_8 (by decide) ?_
    refine kS ⟨hx, hb, hml, hown, hts⟩ hK hA hS hP hD [.int (jz z), .int (jz 33), .int (jz 126)] [] (mX9_in_T l G z 33 126 (by omega) (by omega) (by omega) (by omega)) lkX9_42 [] [0] (br := [bMod G x xs xb xm xf xu xg xw kn bl ft vh vm vs ln 0 sp pl wr br aS aB aM aO aU aG aW]) rfl rfl (by decide) rfl rfl (Nat.le_of_ble_eq_true rfl) hl.1 dX9_append_10 ⟨Nat.le_of_ble_eq_true rfl, Nat.le_of_ble_eq_true rfl⟩ ⟨Nat.le_of_ble_eq_true rfl, Nat.le_of_ble_eq_true rfl⟩ (fun u9 H locs hp9 hP hD hS => ?_)
    have hP : wP G [bMod G x xs xb xm xf xu xg xw kn bl ft vh vm vs ln 0 sp pl wr br aS aB aM aO aU aG aW] H := hP
    have hD : wD A [bMod G x xs xb xm xf xu xg xw kn bl ft vh vm vs ln 0 sp pl wr br aS aB aM aO aU aG aW] := hD
    show W p l e rmX9_append s m args below meth c H locs 0 0 Q (F0 m 13 ls [.int (jz 1)])
    refine jv_if_ne (tgt := 22) hx hb dX9_append_13 (by decide) (by omega) (fun c_2 => ?_) (fun c_2 => ?_)
    · refine lv_aload_n hx hb dX9_append_22 rfl (lv_at hl 0 rfl) ?_
      refine va_get (ci := 9) (v := .int (jz ln)) (C := RX9) (T := TX9) (N := 19) hx hb hts wfX9 hown hK.1 hP 0 rfl rfl 11 (by decide) (hts _ wm821) (fun _ h9 => h9) rfl dX9_append_23 ?_
      refine jv_bipush hx hb dX9_append_26 (by decide) ?_
      refine jv_icmp_ne (tgt := 37) hx hb dX9_append_28 (by decide) (by omega) (by omega) (fun c_3 => ?_) (fun c_3 => ?_)
      · refine lv_aload_n hx hb dX9_append_37 rfl (lv_at hl 0 rfl) ?_
        refine va_get (ci := 9) (v := .ref xu) (C := RX9) (T := TX9) (N := 19) hx hb hts wfX9 hown hK.1 hP 0 rfl rfl 10 (by decide) (hts _ wm820) (fun _ h9 => h9) rfl dX9_append_38 ?_
        refine lv_aload_n hx hb dX9_append_41 rfl (lv_at hl 0 rfl) ?_
        refine va_get (ci := 9) (v := .int (jz ln)) (C := RX9) (T := TX9) (N := 19) hx hb hts wfX9 hown hK.1 hP 0 rfl rfl 11 (by decide) (hts _ wm821) (fun _ h9 => h9) rfl dX9_append_42 ?_
        refine lv_iload_n hx hb dX9_append_45 rfl (lv_at hl 1 rfl) ?_
        refine jv_iast hx hb hK.1 hP hD hS 5 (g := aU) rfl (by omega) (by omega) (by decide) dX9_append_46 (fun H locs hP hD hS => ?_)
        have hP : wP G [bMod G x xs xb xm xf xu xg xw kn bl ft vh vm vs ln 0 sp pl wr br aS aB aM aO (up aU ln z) aG aW] H := hP
        have hD : wD A [bMod G x xs xb xm xf xu xg xw kn bl ft vh vm vs ln 0 sp pl wr br aS aB aM aO (up aU ln z) aG aW] := hD
        refine lv_aload_n hx hb dX9_append_47 rfl (lv_at hl 0 rfl) ?_
        refine lv_dup hx hb dX9_append_48 rfl ?_
        refine va_get (ci := 9) (v := .int (jz ln)) (C := RX9) (T := TX9) (N := 19) hx hb hts wfX9 hown hK.1 hP 0 rfl rfl 11 (by decide) (hts _ wm821) (fun _ h9 => h9) rfl dX9_append_49 ?_
        refine jv_iconst hx hb dX9_append_52 ?_
        refine jv_iadd hx hb dX9_append_53 ?_
        refine va_put (ci := 9) (v := .int (jz (ln + 1))) (ty := .int) (C := RX9) (T := TX9) (N := 19) hx hb hts wfX9 tyX9 tyX9_ok nmX9 hown hK.1 hP hD hS 0 rfl rfl 11 (by decide) (hts _ wm821) (fun _ h9 => h9) rfl (by decide +kernel) rfl rfl (Nat.le_of_ble_eq_true rfl) dX9_append_54 (fun H locs hP hD hS => ?_)
        have hP : wP G [bMod G x xs xb xm xf xu xg xw kn bl ft vh vm vs (ln + 1) 0 sp pl wr br aS aB aM aO (up aU ln z) aG aW] H := hP
        have hD : wD A [bMod G x xs xb xm xf xu xg xw kn bl ft vh vm vs (ln + 1) 0 sp pl wr br aS aB aM aO (up aU ln z) aG aW] := hD
        refine lv_aload_n hx hb dX9_append_57 rfl (lv_at hl 0 rfl) ?_
        refine va_get (ci := 9) (v := .int (jz (ln + 1))) (C := RX9) (T := TX9) (N := 19) hx hb hts wfX9 hown hK.1 hP 0 rfl rfl 11 (by decide) (hts _ wm821) (fun _ h9 => h9) rfl dX9_append_58 ?_
        exact cret_i hx hb hr hlocks hS hP hD (Nat.le_of_ble_eq_true rfl) (Nat.le_of_ble_eq_true rfl) rfl dX9_append_61 [0] (by decide) () rfl trivial (congrArg (fun z : Int => some (Value.int (jz z))) (show (ln + 1) = ln + 1 from by first | rfl | omega | (split <;> first | rfl | omega | (exfalso; omega)))) hQ
      · exfalso; omega
    · exfalso; omega
  exact KH s.heap [] hP hD hS
abbrev rmX9_append_1 : Room := { frames := 1, cells := 0, slots := 0, locals := 22 }
set_option maxHeartbeats 4000000 in
set_option maxRecDepth 100000 in
theorem mX9_append_1 (l : Launch) (G : GG) (x : Nat) (xs : Nat) (xb : Nat) (xm : Nat) (xf : Nat) (xu : Nat) (xg : Nat) (xw : Nat) (kn : Int) (bl : Int) (ft : Int) (vh : Int) (vm : Int) (vs : Int) (ln : Int) (th : Int) (sp : Int) (pl : Int) (wr : Int) (br : Int) (aS : Int → Int) (aB : Int → Int) (aM : Int → Int) (aO : Int → Int) (aU : Int → Int) (aG : Int → Int) (aW : Int → Int) (z : Int) (hzj : jr z) (hz : ¬ (33 ≤ z ∧ z ≤ 126)) : Ct l yX9_append cX9_append 2 (some .int) rmX9_append_1 G [.ref x, .int (jz z)] [bMod G x xs xb xm xf xu xg xw kn bl ft vh vm vs ln th sp pl wr br aS aB aM aO aU aG aW] (fun uo : Unit => some (.int (jz 0))) (fun uo => True) (fun uo => [bMod G x xs xb xm xf xu xg xw kn bl ft vh vm vs ln 1 sp pl wr br aS aB aM aO aU aG aW]) := by
  refine cof (by decide) (Nat.le_of_ble_eq_true rfl) ?_
  intro p e s m args below meth c A ls hx hb hr hml hown hts hlocks hin hA hK hP hD hS hl Q hQ
  have hown : s.vm.findClass RX9 = some m.cls := hown
  have hl : lv_has ls 2 [(0, .ref x), (1, .int (jz z))] := hl
  have KH : ∀ (H : Heap) (locs : List Loc), wP G [bMod G x xs xb xm xf xu xg xw kn bl ft vh vm vs ln th sp pl wr br aS aB aM aO aU aG aW] H → wD A [bMod G x xs xb xm xf xu xg xw kn bl ft vh vm vs ln th sp pl wr br aS aB aM aO aU aG aW] → va_S A s.heap H locs → W p l e rmX9_append_1 s m args below meth c H locs 0 0 Q (F0 m 0 ls []) := by
    intro H locs hP hD hS
    refine lv_aload_n hx hb dX9_append_0 rfl (lv_at hl 0 rfl) ?_
    refine jv_iconst hx hb dX9_append_1 ?_
    refine va_put (ci := 9) (v := .int (jz 0)) (ty := .int) (C := RX9) (T := TX9) (N := 19) hx hb hts wfX9 tyX9 tyX9_ok nmX9 hown hK.1 hP hD hS 0 rfl rfl 12 (by decide) (hts _ wm822) (fun _ h9 => h9) rfl (by decide +kernel) rfl rfl (Nat.le_of_ble_eq_true rfl) dX9_append_2 (fun H locs hP hD hS => ?_)
    have hP : wP G [bMod G x xs xb xm xf xu xg xw kn bl ft vh vm vs ln 0 sp pl wr br aS aB aM aO aU aG aW] H := hP
    have hD : wD A [bMod G x xs xb xm xf xu xg xw kn bl ft vh vm vs ln 0 sp pl wr br aS aB aM aO aU aG aW] := hD
    refine lv_iload_n hx hb dX9_append_5 rfl (lv_at hl 1 rfl) ?_
    refine jv_bipush hx hb dX9_append_6 (by decide) ?_
    refine jv_bipush hx hb dX9_append_8 (by decide) ?_
    refine kS ⟨hx, hb, hml, hown, hts⟩ hK hA hS hP hD [.int (jz z), .int (jz 33), .int (jz 126)] [] (mX9_in_F l G z 33 126 (by omega) (by omega) (by omega) (by omega)) lkX9_42 [] [0] (br := [bMod G x xs xb xm xf xu xg xw kn bl ft vh vm vs ln 0 sp pl wr br aS aB aM aO aU aG aW]) rfl rfl (by decide) rfl rfl (Nat.le_of_ble_eq_true rfl) hl.1 dX9_append_10 ⟨Nat.le_of_ble_eq_true rfl, Nat.le_of_ble_eq_true rfl⟩ ⟨Nat.le_of_ble_eq_true rfl, Nat.le_of_ble_eq_true rfl⟩ (fun u9 H locs hp9 hP hD hS => ?_)
    have hP : wP G [bMod G x xs xb xm xf xu xg xw kn bl ft vh vm vs ln 0 sp pl wr br aS aB aM aO aU aG aW] H := hP
    have hD : wD A [bMod G x xs xb xm xf xu xg xw kn bl ft vh vm vs ln 0 sp pl wr br aS aB aM aO aU aG aW] := hD
    show W p l e rmX9_append_1 s m args below meth c H locs 0 0 Q (F0 m 13 ls [.int (jz 0)])
    refine jv_if_ne (tgt := 22) hx hb dX9_append_13 (by decide) (by omega) (fun c_2 => ?_) (fun c_2 => ?_)
    · exfalso; omega
    · refine lv_aload_n hx hb dX9_append_16 rfl (lv_at hl 0 rfl) ?_
      refine jv_iconst hx hb dX9_append_17 ?_
      refine kV ⟨hx, hb, hml, hown, hts⟩ hK hA hS hP hD [.int (jz 1)] [] (mX9_throwing l G x xs xb xm xf xu xg xw kn bl ft vh vm vs ln 0 sp pl wr br aS aB aM aO aU aG aW 1 ) lkX9_98 [0] [] (br := []) rfl rfl (by decide) 0 9 rfl rfl rfl rfl (Nat.le_of_ble_eq_true rfl) hl.1 dX9_append_18 ⟨Nat.le_of_ble_eq_true rfl, Nat.le_of_ble_eq_true rfl⟩ ⟨Nat.le_of_ble_eq_true rfl, Nat.le_of_ble_eq_true rfl⟩ (fun u9 H locs hp9 hP hD hS => ?_)
      have hP : wP G [bMod G x xs xb xm xf xu xg xw kn bl ft vh vm vs ln 1 sp pl wr br aS aB aM aO aU aG aW] H := hP
      have hD : wD A [bMod G x xs xb xm xf xu xg xw kn bl ft vh vm vs ln 1 sp pl wr br aS aB aM aO aU aG aW] := hD
      show W p l e rmX9_append_1 s m args below meth c H locs 0 0 Q (F0 m 21 ls [.int (jz 0)])
      exact cret_i hx hb hr hlocks hS hP hD (Nat.le_of_ble_eq_true rfl) (Nat.le_of_ble_eq_true rfl) rfl dX9_append_21 [0] (by decide) () rfl trivial (congrArg (fun z : Int => some (Value.int (jz z))) (show 0 = 0 from by first | rfl | omega | (split <;> first | rfl | omega | (exfalso; omega)))) hQ
  exact KH s.heap [] hP hD hS
abbrev rmX9_append_2 : Room := { frames := 1, cells := 0, slots := 0, locals := 22 }
set_option maxHeartbeats 4000000 in
set_option maxRecDepth 100000 in
theorem mX9_append_2 (l : Launch) (G : GG) (x : Nat) (xs : Nat) (xb : Nat) (xm : Nat) (xf : Nat) (xu : Nat) (xg : Nat) (xw : Nat) (kn : Int) (bl : Int) (ft : Int) (vh : Int) (vm : Int) (vs : Int) (ln : Int) (th : Int) (sp : Int) (pl : Int) (wr : Int) (br : Int) (aS : Int → Int) (aB : Int → Int) (aM : Int → Int) (aO : Int → Int) (aU : Int → Int) (aG : Int → Int) (aW : Int → Int) (z : Int) (hz : 33 ≤ z ∧ z ≤ 126) (hln : ln = 60) : Ct l yX9_append cX9_append 2 (some .int) rmX9_append_2 G [.ref x, .int (jz z)] [bMod G x xs xb xm xf xu xg xw kn bl ft vh vm vs ln th sp pl wr br aS aB aM aO aU aG aW] (fun uo : Unit => some (.int (jz 0))) (fun uo => True) (fun uo => [bMod G x xs xb xm xf xu xg xw kn bl ft vh vm vs ln 2 sp pl wr br aS aB aM aO aU aG aW]) := by
  refine cof (by decide) (Nat.le_of_ble_eq_true rfl) ?_
  intro p e s m args below meth c A ls hx hb hr hml hown hts hlocks hin hA hK hP hD hS hl Q hQ
  have hown : s.vm.findClass RX9 = some m.cls := hown
  have hl : lv_has ls 2 [(0, .ref x), (1, .int (jz z))] := hl
  have KH : ∀ (H : Heap) (locs : List Loc), wP G [bMod G x xs xb xm xf xu xg xw kn bl ft vh vm vs ln th sp pl wr br aS aB aM aO aU aG aW] H → wD A [bMod G x xs xb xm xf xu xg xw kn bl ft vh vm vs ln th sp pl wr br aS aB aM aO aU aG aW] → va_S A s.heap H locs → W p l e rmX9_append_2 s m args below meth c H locs 0 0 Q (F0 m 0 ls []) := by
    intro H locs hP hD hS
    refine lv_aload_n hx hb dX9_append_0 rfl (lv_at hl 0 rfl) ?_
    refine jv_iconst hx hb dX9_append_1 ?_
    refine va_put (ci := 9) (v := .int (jz 0)) (ty := .int) (C := RX9) (T := TX9) (N := 19) hx hb hts wfX9 tyX9 tyX9_ok nmX9 hown hK.1 hP hD hS 0 rfl rfl 12 (by decide) (hts _ wm822) (fun _ h9 => h9) rfl (by decide +kernel) rfl rfl (Nat.le_of_ble_eq_true rfl) dX9_append_2 (fun H locs hP hD hS => ?_)
    have hP : wP G [bMod G x xs xb xm xf xu xg xw kn bl ft vh vm vs ln 0 sp pl wr br aS aB aM aO aU aG aW] H := hP
    have hD : wD A [bMod G x xs xb xm xf xu xg xw kn bl ft vh vm vs ln 0 sp pl wr br aS aB aM aO aU aG aW] := hD
    refine lv_iload_n hx hb dX9_append_5 rfl (lv_at hl 1 rfl) ?_
    refine jv_bipush hx hb dX9_append_6 (by decide) ?_
    refine jv_bipush hx hb dX9_append_8 (by decide) ?_
    refine kS ⟨hx, hb, hml, hown, hts⟩ hK hA hS hP hD [.int (jz z), .int (jz 33), .int (jz 126)] [] (mX9_in_T l G z 33 126 (by omega) (by omega) (by omega) (by omega)) lkX9_42 [] [0] (br := [bMod G x xs xb xm xf xu xg xw kn bl ft vh vm vs ln 0 sp pl wr br aS aB aM aO aU aG aW]) rfl rfl (by decide) rfl rfl (Nat.le_of_ble_eq_true rfl) hl.1 dX9_append_10 ⟨Nat.le_of_ble_eq_true rfl, Nat.le_of_ble_eq_true rfl⟩ ⟨Nat.le_of_ble_eq_true rfl, Nat.le_of_ble_eq_true rfl⟩ (fun u9 H locs hp9 hP hD hS => ?_)
    have hP : wP G [bMod G x xs xb xm xf xu xg xw kn bl ft vh vm vs ln 0 sp pl wr br aS aB aM aO aU aG aW] H := hP
    have hD : wD A [bMod G x xs xb xm xf xu xg xw kn bl ft vh vm vs ln 0 sp pl wr br aS aB aM aO aU aG aW] := hD
    show W p l e rmX9_append_2 s m args below meth c H locs 0 0 Q (F0 m 13 ls [.int (jz 1)])
    refine jv_if_ne (tgt := 22) hx hb dX9_append_13 (by decide) (by omega) (fun c_2 => ?_) (fun c_2 => ?_)
    · refine lv_aload_n hx hb dX9_append_22 rfl (lv_at hl 0 rfl) ?_
      refine va_get (ci := 9) (v := .int (jz ln)) (C := RX9) (T := TX9) (N := 19) hx hb hts wfX9 hown hK.1 hP 0 rfl rfl 11 (by decide) (hts _ wm821) (fun _ h9 => h9) rfl dX9_append_23 ?_
      refine jv_bipush hx hb dX9_append_26 (by decide) ?_
      refine jv_icmp_ne (tgt := 37) hx hb dX9_append_28 (by decide) (by omega) (by omega) (fun c_3 => ?_) (fun c_3 => ?_)
      · exfalso; omega
      · refine lv_aload_n hx hb dX9_append_31 rfl (lv_at hl 0 rfl) ?_
        refine jv_iconst hx hb dX9_append_32 ?_
        refine kV ⟨hx, hb, hml, hown, hts⟩ hK hA hS hP hD [.int (jz 2)] [] (mX9_throwing l G x xs xb xm xf xu xg xw kn bl ft vh vm vs ln 0 sp pl wr br aS aB aM aO aU aG aW 2 ) lkX9_98 [0] [] (br := []) rfl rfl (by decide) 0 9 rfl rfl rfl rfl (Nat.le_of_ble_eq_true rfl) hl.1 dX9_append_33 ⟨Nat.le_of_ble_eq_true rfl, Nat.le_of_ble_eq_true rfl⟩ ⟨Nat.le_of_ble_eq_true rfl, Nat.le_of_ble_eq_true rfl⟩ (fun u9 H locs hp9 hP hD hS => ?_)
        have hP : wP G [bMod G x xs xb xm xf xu xg xw kn bl ft vh vm vs ln 2 sp pl wr br aS aB aM aO aU aG aW] H := hP
        have hD : wD A [bMod G x xs xb xm xf xu xg xw kn bl ft vh vm vs ln 2 sp pl wr br aS aB aM aO aU aG aW] := hD
        show W p l e rmX9_append_2 s m args below meth c H locs 0 0 Q (F0 m 36 ls [.int (jz 0)])
        exact cret_i hx hb hr hlocks hS hP hD (Nat.le_of_ble_eq_true rfl) (Nat.le_of_ble_eq_true rfl) rfl dX9_append_36 [0] (by decide) () rfl trivial (congrArg (fun z : Int => some (Value.int (jz z))) (show 0 = 0 from by first | rfl | omega | (split <;> first | rfl | omega | (exfalso; omega)))) hQ
    · exfalso; omega
  exact KH s.heap [] hP hD hS
abbrev rmX9_measure : Room := { frames := 4, cells := 0, slots := 0, locals := 95 }
set_option maxHeartbeats 4000000 in
set_option maxRecDepth 100000 in
theorem mX9_measure (l : Launch) (G : GG) (x : Nat) (xs : Nat) (xb : Nat) (xm : Nat) (xf : Nat) (xu : Nat) (xg : Nat) (xw : Nat) (kn : Int) (bl : Int) (ft : Int) (vh : Int) (vm : Int) (vs : Int) (ln : Int) (th : Int) (sp : Int) (pl : Int) (wr : Int) (br : Int) (aS : Int → Int) (aB : Int → Int) (aM : Int → Int) (aO : Int → Int) (aU : Int → Int) (aG : Int → Int) (aW : Int → Int) (M : Int → Bool) (hs0 : 0 ≤ aS 0 ∧ aS 0 ≤ 20) (hs1 : 0 ≤ aS 1 ∧ aS 1 ≤ 20) (hg0 : ∀ j : Int, 0 ≤ j → j < aS 0 → 0 ≤ T9 aS 0 j ∧ T9 aS 0 j < 4) (hg1 : ∀ j : Int, 0 ≤ j → j < aS 1 → 0 ≤ T9 aS 1 j ∧ T9 aS 1 j < 4) (hbl : bl = 1 ∨ bl = 2) (hft : 0 ≤ ft ∧ ft ≤ 100000) (hJ : rJ bl aM M) (hO : ∀ k : Int, 0 ≤ k → k < 20736 → 0 ≤ aO k ∧ aO k ≤ ft) : Ct l yX9_measure cX9_measure 2 (some .int) rmX9_measure G [.ref x] [bMod G x xs xb xm xf xu xg xw kn bl ft vh vm vs ln th sp pl wr br aS aB aM aO aU aG aW] (fun uo : Int × Int × Int × (Int → Bool) × (Int → Int) × (Int → Int) × (Int → Int) => some (.int (jz (D 1 (T9 aS 0) (T9 aS 1) (aS 0) (aS 1))))) (fun uo => ((uo.2.2.2.1, uo.1, uo.2.1, uo.2.2.1) = tGo bl (T9 aS 0) (T9 aS 1) (aS 0) (aS 1) (M, vh, vm, vs)) ∧ (rJ bl uo.2.2.2.2.1 uo.2.2.2.1) ∧ (∀ k : Int, 0 ≤ k → k < 20736 → 0 ≤ uo.2.2.2.2.2.1 k ∧ uo.2.2.2.2.2.1 k ≤ ft + 1)) (fun uo => [bMod G x xs xb xm xf xu xg xw kn bl ((ft + 1)) uo.1 uo.2.1 uo.2.2.1 ln 0 sp pl wr br aS aB uo.2.2.2.2.1 uo.2.2.2.2.2.1 aU uo.2.2.2.2.2.2 aW]) := by
  refine cof (by decide) (Nat.le_of_ble_eq_true rfl) ?_
  intro p e s m args below meth c A ls hx hb hr hml hown hts hlocks hin hA hK hP hD hS hl Q hQ
  have hown : s.vm.findClass RX9 = some m.cls := hown
  have hl : lv_has ls 2 [(0, .ref x)] := hl
  have KH : ∀ (H : Heap) (locs : List Loc), wP G [bMod G x xs xb xm xf xu xg xw kn bl ft vh vm vs ln th sp pl wr br aS aB aM aO aU aG aW] H → wD A [bMod G x xs xb xm xf xu xg xw kn bl ft vh vm vs ln th sp pl wr br aS aB aM aO aU aG aW] → va_S A s.heap H locs → W p l e rmX9_measure s m args below meth c H locs 0 0 Q (F0 m 0 ls []) := by
    intro H locs hP hD hS
    refine lv_aload_n hx hb dX9_measure_0 rfl (lv_at hl 0 rfl) ?_
    refine jv_iconst hx hb dX9_measure_1 ?_
    refine va_put (ci := 9) (v := .int (jz 0)) (ty := .int) (C := RX9) (T := TX9) (N := 19) hx hb hts wfX9 tyX9 tyX9_ok nmX9 hown hK.1 hP hD hS 0 rfl rfl 12 (by decide) (hts _ wm822) (fun _ h9 => h9) rfl (by decide +kernel) rfl rfl (Nat.le_of_ble_eq_true rfl) dX9_measure_2 (fun H locs hP hD hS => ?_)
    have hP : wP G [bMod G x xs xb xm xf xu xg xw kn bl ft vh vm vs ln 0 sp pl wr br aS aB aM aO aU aG aW] H := hP
    have hD : wD A [bMod G x xs xb xm xf xu xg xw kn bl ft vh vm vs ln 0 sp pl wr br aS aB aM aO aU aG aW] := hD
    refine lv_aload_n hx hb dX9_measure_5 rfl (lv_at hl 0 rfl) ?_
    refine jv_iconst hx hb dX9_measure_6 ?_
    refine kV ⟨hx, hb, hml, hown, hts⟩ hK hA hS hP hD [.int (jz 1)] [] (mX9_goBlocks_1 l G x xs xb xm xf xu xg xw kn bl ft vh vm vs ln 0 sp pl wr br aS aB aM aO aU aG aW M 1 (by omega) (by omega) (by exact hg0) (by exact hg1) (by exact hbl) (by omega) (by exact hJ) (by exact hO) (by omega)) lkX9_119 [0] [] (br := []) rfl rfl (by decide) 0 9 rfl rfl rfl rfl (Nat.le_of_ble_eq_true rfl) hl.1 dX9_measure_7 ⟨Nat.le_of_ble_eq_true rfl, Nat.le_of_ble_eq_true rfl⟩ ⟨Nat.le_of_ble_eq_true rfl, Nat.le_of_ble_eq_true rfl⟩ (fun u9 H locs hp9 hP hD hS => ?_)
    obtain ⟨u_1, u_2, u_3, u_4, u_5, u_6, u_7⟩ := u9
    have hc_8 : (u_4, u_1, u_2, u_3) = tGo bl (T9 aS 0) (T9 aS 1) (aS 0) (aS 1) (M, vh, vm, vs) := hp9.1
    have hd_9 : rJ bl u_5 u_4 := hp9.2.1
    have hf_10 : ∀ k : Int, 0 ≤ k → k < 20736 → 0 ≤ u_6 k ∧ u_6 k ≤ ft + 1 := hp9.2.2.1
    have hg_11 : ∀ x y : Int, 0 ≤ x → x ≤ aS 0 → 0 ≤ y → y ≤ aS 1 → u_7 (21 * x + y) = D 1 (T9 aS 0) (T9 aS 1) x y := hp9.2.2.2
    have hP : wP G [bMod G x xs xb xm xf xu xg xw kn bl ((ft + 1)) u_1 u_2 u_3 ln 0 sp pl wr br aS aB u_5 u_6 aU u_7 aW] H := hP
    have hD : wD A [bMod G x xs xb xm xf xu xg xw kn bl ((ft + 1)) u_1 u_2 u_3 ln 0 sp pl wr br aS aB u_5 u_6 aU u_7 aW] := hD
    show W p l e rmX9_measure s m args below meth c H locs 0 0 Q (F0 m 10 ls [.int (jz (u_2 - vm))])
    have k1 := hc_8
    have k2 := hd_9
    have k3 := hf_10
    have k4 := hg_11
    refine lv_istore_n (lv' := [(1, .int (jz (u_2 - vm))), (0, .ref x)]) hx hb dX9_measure_10 rfl hl (by decide) rfl (fun ls hl => ?_)
    refine lv_aload_n hx hb dX9_measure_11 rfl (lv_at hl 1 rfl) ?_
    refine lv_aload_n hx hb dX9_measure_12 rfl (lv_at hl 1 rfl) ?_
    refine va_get (ci := 9) (v := .ref xs) (C := RX9) (T := TX9) (N := 19) hx hb hts wfX9 hown hK.1 hP 0 rfl rfl 0 (by decide) (hts _ wm810) (fun _ h9 => h9) rfl dX9_measure_13 ?_
    refine jv_iconst hx hb dX9_measure_16 ?_
    refine jv_iald hx hb hK.1 hP 1 (g := aS) rfl (by omega) (by omega) (by decide) dX9_measure_17 ?_
    refine lv_aload_n hx hb dX9_measure_18 rfl (lv_at hl 1 rfl) ?_
    refine va_get (ci := 9) (v := .ref xs) (C := RX9) (T := TX9) (N := 19) hx hb hts wfX9 hown hK.1 hP 0 rfl rfl 0 (by decide) (hts _ wm810) (fun _ h9 => h9) rfl dX9_measure_19 ?_
    refine jv_iconst hx hb dX9_measure_22 ?_
    refine jv_iald hx hb hK.1 hP 1 (g := aS) rfl (by omega) (by omega) (by decide) dX9_measure_23 ?_
    refine kV ⟨hx, hb, hml, hown, hts⟩ hK hA hS hP hD [.int (jz (aS 0)), .int (jz (aS 1))] [] (mX9_d l G x xs xb xm xf xu xg xw kn bl ((ft + 1)) u_1 u_2 u_3 ln 0 sp pl wr br aS aB u_5 u_6 aU u_7 aW (aS 0) (aS 1) (by omega) (by omega)) lkX9_50 [0] [] (br := []) rfl rfl (by decide) 0 9 rfl rfl rfl rfl (Nat.le_of_ble_eq_true rfl) hl.1 dX9_measure_24 ⟨Nat.le_of_ble_eq_true rfl, Nat.le_of_ble_eq_true rfl⟩ ⟨Nat.le_of_ble_eq_true rfl, Nat.le_of_ble_eq_true rfl⟩ (fun u9 H locs hp9 hP hD hS => ?_)
    have hP : wP G [bMod G x xs xb xm xf xu xg xw kn bl ((ft + 1)) u_1 u_2 u_3 ln 0 sp pl wr br aS aB u_5 u_6 aU u_7 aW] H := hP
    have hD : wD A [bMod G x xs xb xm xf xu xg xw kn bl ((ft + 1)) u_1 u_2 u_3 ln 0 sp pl wr br aS aB u_5 u_6 aU u_7 aW] := hD
    show W p l e rmX9_measure s m args below meth c H locs 0 0 Q (F0 m 27 ls [.int (jz (u_7 (21 * (aS 0) + (aS 1))))])
    exact cret_i hx hb hr hlocks hS hP hD (Nat.le_of_ble_eq_true rfl) (Nat.le_of_ble_eq_true rfl) rfl dX9_measure_27 [0] (by decide) ⟨u_1, u_2, u_3, u_4, u_5, u_6, u_7⟩ rfl ⟨(show (u_4, u_1, u_2, u_3) = tGo bl (T9 aS 0) (T9 aS 1) (aS 0) (aS 1) (M, vh, vm, vs) from by exact k1), (show rJ bl u_5 u_4 from by exact k2), (show ∀ k : Int, 0 ≤ k → k < 20736 → 0 ≤ u_6 k ∧ u_6 k ≤ ft + 1 from by exact k3)⟩ (congrArg (fun z : Int => some (Value.int (jz z))) (show (u_7 (21 * (aS 0) + (aS 1))) = D 1 (T9 aS 0) (T9 aS 1) (aS 0) (aS 1) from by exact k4 _ _ (by omega) (by omega) (by omega) (by omega))) hQ
  exact KH s.heap [] hP hD hS
abbrev rmX9_missesToCome : Room := { frames := 4, cells := 0, slots := 0, locals := 95 }
set_option maxHeartbeats 4000000 in
set_option maxRecDepth 100000 in
theorem mX9_missesToCome (l : Launch) (G : GG) (x : Nat) (xs : Nat) (xb : Nat) (xm : Nat) (xf : Nat) (xu : Nat) (xg : Nat) (xw : Nat) (kn : Int) (bl : Int) (ft : Int) (vh : Int) (vm : Int) (vs : Int) (ln : Int) (th : Int) (sp : Int) (pl : Int) (wr : Int) (br : Int) (aS : Int → Int) (aB : Int → Int) (aM : Int → Int) (aO : Int → Int) (aU : Int → Int) (aG : Int → Int) (aW : Int → Int) (M : Int → Bool) (hs0 : 0 ≤ aS 0 ∧ aS 0 ≤ 20) (hs1 : 0 ≤ aS 1 ∧ aS 1 ≤ 20) (hg0 : ∀ j : Int, 0 ≤ j → j < aS 0 → 0 ≤ T9 aS 0 j ∧ T9 aS 0 j < 4) (hg1 : ∀ j : Int, 0 ≤ j → j < aS 1 → 0 ≤ T9 aS 1 j ∧ T9 aS 1 j < 4) (hbl : bl = 1 ∨ bl = 2) (hft : 0 ≤ ft ∧ ft ≤ 100000) (hJ : rJ bl aM M) (hO : ∀ k : Int, 0 ≤ k → k < 20736 → 0 ≤ aO k ∧ aO k ≤ ft) : Ct l yX9_missesToCome cX9_missesToCome 1 (some .int) rmX9_missesToCome G [.ref x] [bMod G x xs xb xm xf xu xg xw kn bl ft vh vm vs ln th sp pl wr br aS aB aM aO aU aG aW] (fun uo : (Int → Int) × (Int → Int) => some (.int (jz ((tGo bl (T9 aS 0) (T9 aS 1) (aS 0) (aS 1) (M, vh, vm, vs)).2.2.1 - vm)))) (fun uo => (∀ k : Int, 0 ≤ k → k < 20736 → 0 ≤ uo.1 k ∧ uo.1 k ≤ ft + 1)) (fun uo => [bMod G x xs xb xm xf xu xg xw kn bl ((ft + 1)) vh vm vs ln 0 sp pl wr br aS aB aM uo.1 aU uo.2 aW]) := by
  refine cof (by decide) (Nat.le_of_ble_eq_true rfl) ?_
  intro p e s m args below meth c A ls hx hb hr hml hown hts hlocks hin hA hK hP hD hS hl Q hQ
  have hown : s.vm.findClass RX9 = some m.cls := hown
  have hl : lv_has ls 1 [(0, .ref x)] := hl
  have KH : ∀ (H : Heap) (locs : List Loc), wP G [bMod G x xs xb xm xf xu xg xw kn bl ft vh vm vs ln th sp pl wr br aS aB aM aO aU aG aW] H → wD A [bMod G x xs xb xm xf xu xg xw kn bl ft vh vm vs ln th sp pl wr br aS aB aM aO aU aG aW] → va_S A s.heap H locs → W p l e rmX9_missesToCome s m args below meth c H locs 0 0 Q (F0 m 0 ls []) := by
    intro H locs hP hD hS
    refine lv_aload_n hx hb dX9_missesToCome_0 rfl (lv_at hl 0 rfl) ?_
    refine jv_iconst hx hb dX9_missesToCome_1 ?_
    refine va_put (ci := 9) (v := .int (jz 0)) (ty := .int) (C := RX9) (T := TX9) (N := 19) hx hb hts wfX9 tyX9 tyX9_ok nmX9 hown hK.1 hP hD hS 0 rfl rfl 12 (by decide) (hts _ wm822) (fun _ h9 => h9) rfl (by decide +kernel) rfl rfl (Nat.le_of_ble_eq_true rfl) dX9_missesToCome_2 (fun H locs hP hD hS => ?_)
    have hP : wP G [bMod G x xs xb xm xf xu xg xw kn bl ft vh vm vs ln 0 sp pl wr br aS aB aM aO aU aG aW] H := hP
    have hD : wD A [bMod G x xs xb xm xf xu xg xw kn bl ft vh vm vs ln 0 sp pl wr br aS aB aM aO aU aG aW] := hD
    refine lv_aload_n hx hb dX9_missesToCome_5 rfl (lv_at hl 0 rfl) ?_
    refine jv_iconst hx hb dX9_missesToCome_6 ?_
    refine kV ⟨hx, hb, hml, hown, hts⟩ hK hA hS hP hD [.int (jz 0)] [] (mX9_goBlocks_0 l G x xs xb xm xf xu xg xw kn bl ft vh vm vs ln 0 sp pl wr br aS aB aM aO aU aG aW M 0 (by omega) (by omega) (by exact hg0) (by exact hg1) (by exact hbl) (by omega) (by exact hJ) (by exact hO) (by omega)) lkX9_119 [0] [] (br := []) rfl rfl (by decide) 0 9 rfl rfl rfl rfl (Nat.le_of_ble_eq_true rfl) hl.1 dX9_missesToCome_7 ⟨Nat.le_of_ble_eq_true rfl, Nat.le_of_ble_eq_true rfl⟩ ⟨Nat.le_of_ble_eq_true rfl, Nat.le_of_ble_eq_true rfl⟩ (fun u9 H locs hp9 hP hD hS => ?_)
    obtain ⟨u_1, u_2⟩ := u9
    have hf_3 : ∀ k : Int, 0 ≤ k → k < 20736 → 0 ≤ u_1 k ∧ u_1 k ≤ ft + 1 := hp9.1
    have hg_4 : ∀ x y : Int, 0 ≤ x → x ≤ aS 0 → 0 ≤ y → y ≤ aS 1 → u_2 (21 * x + y) = D 1 (T9 aS 0) (T9 aS 1) x y := hp9.2
    have hP : wP G [bMod G x xs xb xm xf xu xg xw kn bl ((ft + 1)) vh vm vs ln 0 sp pl wr br aS aB aM u_1 aU u_2 aW] H := hP
    have hD : wD A [bMod G x xs xb xm xf xu xg xw kn bl ((ft + 1)) vh vm vs ln 0 sp pl wr br aS aB aM u_1 aU u_2 aW] := hD
    show W p l e rmX9_missesToCome s m args below meth c H locs 0 0 Q (F0 m 10 ls [.int (jz ((tGo bl (T9 aS 0) (T9 aS 1) (aS 0) (aS 1) (M, vh, vm, vs)).2.2.1 - vm))])
    have k3 := hf_3
    exact cret_i hx hb hr hlocks hS hP hD (Nat.le_of_ble_eq_true rfl) (Nat.le_of_ble_eq_true rfl) rfl dX9_missesToCome_10 [0] (by decide) ⟨u_1, u_2⟩ rfl (show ∀ k : Int, 0 ≤ k → k < 20736 → 0 ≤ u_1 k ∧ u_1 k ≤ ft + 1 from by exact k3) (congrArg (fun z : Int => some (Value.int (jz z))) (show ((tGo bl (T9 aS 0) (T9 aS 1) (aS 0) (aS 1) (M, vh, vm, vs)).2.2.1 - vm) = (tGo bl (T9 aS 0) (T9 aS 1) (aS 0) (aS 1) (M, vh, vm, vs)).2.2.1 - vm from by first | rfl | omega | (split <;> first | rfl | omega | (exfalso; omega)))) hQ
  exact KH s.heap [] hP hD hS
