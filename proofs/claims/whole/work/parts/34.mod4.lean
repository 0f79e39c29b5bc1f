def ldF (b ln : Int) (aU : Int → Int) (k : Int) : Int := if k < 20 then (if k < b then aU k - 97 else 0) else (if k - 20 < ln - b - 1 then aU (b + 1 + (k - 20)) - 97 else 0)
theorem ldF_1 {b ln k : Int} {aU : Int → Int} (h : k < 20) (h2 : k < b) : ldF b ln aU k = aU k - 97 := by unfold ldF; rw [if_pos h, if_pos h2]
theorem ldF_2 {b ln k : Int} {aU : Int → Int} (h : k < 20) (h2 : ¬ k < b) : ldF b ln aU k = 0 := by unfold ldF; rw [if_pos h, if_neg h2]
theorem ldF_3 {b ln k : Int} {aU : Int → Int} (h : ¬ k < 20) (h2 : k - 20 < ln - b - 1) : ldF b ln aU k = aU (b + 1 + (k - 20)) - 97 := by unfold ldF; rw [if_neg h, if_pos h2]
theorem ldF_4 {b ln k : Int} {aU : Int → Int} (h : ¬ k < 20) (h2 : ¬ k - 20 < ln - b - 1) : ldF b ln aU k = 0 := by unfold ldF; rw [if_neg h, if_neg h2]
abbrev rmX9_isText : Room := { frames := 1, cells := 0, slots := 0, locals := 22 }
set_option maxHeartbeats 4000000 in
set_option maxRecDepth 100000 in
theorem mX9_isText (l : Launch) (G : GG) (z : Int) (hz : jr z) : Ct l yX9_isText cX9_isText 1 (some .boolean) rmX9_isText G [.int (jz z)] [] (fun uo : Unit => some (.int (jz (if 0 ≤ z ∧ z ≤ 1 then 1 else 0)))) (fun uo => True) (fun uo => []) := by
  refine cof (by decide) (Nat.le_of_ble_eq_true rfl) ?_
  intro p e s m args below meth c A ls hx hb hr hml hown hts hlocks hin hA hK hP hD hS hl Q hQ
  have hown : s.vm.findClass RX9 = some m.cls := hown
  have hl : lv_has ls 1 [(0, .int (jz z))] := hl
  have KH : ∀ (H : Heap) (locs : List Loc), wP G [] H → wD A [] → va_S A s.heap H locs → W p l e rmX9_isText s m args below meth c H locs 0 0 Q (F0 m 0 ls []) := by
    intro H locs hP hD hS
    refine lv_iload_n hx hb dX9_isText_0 rfl (lv_at hl 0 rfl) ?_
    refine jv_iconst hx hb dX9_isText_1 ?_
    refine jv_iconst hx hb dX9_isText_2 ?_
    refine kS ⟨hx, hb, hml, hown, hts⟩ hK hA hS hP hD [.int (jz z), .int (jz 0), .int (jz 1)] [] (mX9_in l G z 0 1 (by omega) (by omega) (by omega)) lkX9_42 [] [] (br := []) rfl rfl (by decide) rfl rfl (Nat.le_of_ble_eq_true rfl) hl.1 dX9_isText_3 ⟨Nat.le_of_ble_eq_true rfl, Nat.le_of_ble_eq_true rfl⟩ ⟨Nat.le_of_ble_eq_true rfl, Nat.le_of_ble_eq_true rfl⟩ (fun u9 H locs hp9 hP hD hS => ?_)
    have hP : wP G [] H := hP
    have hD : wD A [] := hD
    show W p l e rmX9_isText s m args below meth c H locs 0 0 Q (F0 m 6 ls [.int (jz (if 0 ≤ z ∧ z ≤ 1 then 1 else 0))])
    exact cret_i hx hb hr hlocks hS hP hD (Nat.le_of_ble_eq_true rfl) (Nat.le_of_ble_eq_true rfl) (jz_nb (show (if 0 ≤ z ∧ z ≤ 1 then 1 else 0) = 0 ∨ (if 0 ≤ z ∧ z ≤ 1 then 1 else 0) = 1 by split <;> omega)) dX9_isText_6 [] (by decide) () rfl trivial (congrArg (fun z : Int => some (Value.int (jz z))) (show (if 0 ≤ z ∧ z ≤ 1 then 1 else 0) = if 0 ≤ z ∧ z ≤ 1 then 1 else 0 from by first | rfl | omega | (split <;> first | rfl | omega | (exfalso; omega)))) hQ
  exact KH s.heap [] hP hD hS
abbrev rmX9_isLetter : Room := { frames := 1, cells := 0, slots := 0, locals := 22 }
set_option maxHeartbeats 4000000 in
set_option maxRecDepth 100000 in
theorem mX9_isLetter (l : Launch) (G : GG) (x : Nat) (xs : Nat) (xb : Nat) (xm : Nat) (xf : Nat) (xu : Nat) (xg : Nat) (xw : Nat) (kn : Int) (bl : Int) (ft : Int) (vh : Int) (vm : Int) (vs : Int) (ln : Int) (th : Int) (sp : Int) (pl : Int) (wr : Int) (br : Int) (aS : Int → Int) (aB : Int → Int) (aM : Int → Int) (aO : Int → Int) (aU : Int → Int) (aG : Int → Int) (aW : Int → Int) (z : Int) (hs2 : 2 ≤ aS 2 ∧ aS 2 ≤ 4) (hz : jr z) : Ct l yX9_isLetter cX9_isLetter 2 (some .boolean) rmX9_isLetter G [.ref x, .int (jz z)] [bMod G x xs xb xm xf xu xg xw kn bl ft vh vm vs ln th sp pl wr br aS aB aM aO aU aG aW] (fun uo : Unit => some (.int (jz (if 0 ≤ z ∧ z < aS 2 then 1 else 0)))) (fun uo => True) (fun uo => [bMod G x xs xb xm xf xu xg xw kn bl ft vh vm vs ln th sp pl wr br aS aB aM aO aU aG aW]) := by
  refine cof (by decide) (Nat.le_of_ble_eq_true rfl) ?_
  intro p e s m args below meth c A ls hx hb hr hml hown hts hlocks hin hA hK hP hD hS hl Q hQ
  have hown : s.vm.findClass RX9 = some m.cls := hown
  have hl : lv_has ls 2 [(0, .ref x), (1, .int (jz z))] := hl
  have KH : ∀ (H : Heap) (locs : List Loc), wP G [bMod G x xs xb xm xf xu xg xw kn bl ft vh vm vs ln th sp pl wr br aS aB aM aO aU aG aW] H → wD A [bMod G x xs xb xm xf xu xg xw kn bl ft vh vm vs ln th sp pl wr br aS aB aM aO aU aG aW] → va_S A s.heap H locs → W p l e rmX9_isLetter s m args below meth c H locs 0 0 Q (F0 m 0 ls []) := by
    intro H locs hP hD hS
    refine lv_iload_n hx hb dX9_isLetter_0 rfl (lv_at hl 1 rfl) ?_
    refine jv_iconst hx hb dX9_isLetter_1 ?_
    refine lv_aload_n hx hb dX9_isLetter_2 rfl (lv_at hl 0 rfl) ?_
    refine va_get (ci := 9) (v := .ref xs) (C := RX9) (T := TX9) (N := 19) hx hb hts wfX9 hown hK.1 hP 0 rfl rfl 0 (by decide) (hts _ wm810) (fun _ h9 => h9) rfl dX9_isLetter_3 ?_
    refine jv_iconst hx hb dX9_isLetter_6 ?_
    refine jv_iald hx hb hK.1 hP 1 (g := aS) rfl (by omega) (by omega) (by decide) dX9_isLetter_7 ?_
    refine jv_iconst hx hb dX9_isLetter_8 ?_
    refine jv_isub hx hb dX9_isLetter_9 ?_
    refine kS ⟨hx, hb, hml, hown, hts⟩ hK hA hS hP hD [.int (jz z), .int (jz 0), .int (jz ((aS 2) - 1))] [] (mX9_in l G z 0 ((aS 2) - 1) (by omega) (by omega) (by omega)) lkX9_42 [] [0] (br := [bMod G x xs xb xm xf xu xg xw kn bl ft vh vm vs ln th sp pl wr br aS aB aM aO aU aG aW]) rfl rfl (by decide) rfl rfl (Nat.le_of_ble_eq_true rfl) hl.1 dX9_isLetter_10 ⟨Nat.le_of_ble_eq_true rfl, Nat.le_of_ble_eq_true rfl⟩ ⟨Nat.le_of_ble_eq_true rfl, Nat.le_of_ble_eq_true rfl⟩ (fun u9 H locs hp9 hP hD hS => ?_)
    have hP : wP G [bMod G x xs xb xm xf xu xg xw kn bl ft vh vm vs ln th sp pl wr br aS aB aM aO aU aG aW] H := hP
    have hD : wD A [bMod G x xs xb xm xf xu xg xw kn bl ft vh vm vs ln th sp pl wr br aS aB aM aO aU aG aW] := hD
    show W p l e rmX9_isLetter s m args below meth c H locs 0 0 Q (F0 m 13 ls [.int (jz (if 0 ≤ z ∧ z ≤ ((aS 2) - 1) then 1 else 0))])
    exact cret_i hx hb hr hlocks hS hP hD (Nat.le_of_ble_eq_true rfl) (Nat.le_of_ble_eq_true rfl) (jz_nb (show (if 0 ≤ z ∧ z ≤ ((aS 2) - 1) then 1 else 0) = 0 ∨ (if 0 ≤ z ∧ z ≤ ((aS 2) - 1) then 1 else 0) = 1 by split <;> omega)) dX9_isLetter_13 [0] (by decide) () rfl trivial (congrArg (fun z : Int => some (Value.int (jz z))) (show (if 0 ≤ z ∧ z ≤ ((aS 2) - 1) then 1 else 0) = if 0 ≤ z ∧ z < aS 2 then 1 else 0 from by if e1 : 0 ≤ z ∧ z < aS 2 then rw [if_pos (by omega), if_pos e1] else rw [if_neg (by omega), if_neg e1])) hQ
  exact KH s.heap [] hP hD hS
abbrev rmX9_go : Room := { frames := 1, cells := 0, slots := 0, locals := 22 }
set_option maxHeartbeats 4000000 in
set_option maxRecDepth 100000 in
theorem mX9_go (l : Launch) (G : GG) (x : Nat) (xs : Nat) (xb : Nat) (xm : Nat) (xf : Nat) (xu : Nat) (xg : Nat) (xw : Nat) (kn : Int) (bl : Int) (ft : Int) (vh : Int) (vm : Int) (vs : Int) (ln : Int) (th : Int) (sp : Int) (pl : Int) (wr : Int) (br : Int) (aS : Int → Int) (aB : Int → Int) (aM : Int → Int) (aO : Int → Int) (aU : Int → Int) (aG : Int → Int) (aW : Int → Int) (hln : 0 ≤ ln ∧ ln ≤ 60) (hbu : ∀ x : Int, 0 ≤ x → x < ln → 33 ≤ aU x ∧ aU x ≤ 126) : Ct l yX9_go cX9_go 4 none rmX9_go G [.ref x] [bMod G x xs xb xm xf xu xg xw kn bl ft vh vm vs ln th sp pl wr br aS aB aM aO aU aG aW] (fun uo : Int × Int × Int => none) (fun uo => (sc aU ln = (uo.1, uo.2.2)) ∧ ((uo.2.1 = 0 ∧ uo.1 = ln) ∨ (uo.2.1 = 1 ∧ uo.1 < ln))) (fun uo => [bMod G x xs xb xm xf xu xg xw kn bl ft vh vm vs ln th sp uo.1 uo.2.1 uo.2.2 aS aB aM aO aU aG aW]) := by
  refine cof (by decide) (Nat.le_of_ble_eq_true rfl) ?_
  intro p e s m args below meth c A ls hx hb hr hml hown hts hlocks hin hA hK hP hD hS hl Q hQ
  have hown : s.vm.findClass RX9 = some m.cls := hown
  have hl : lv_has ls 4 [(0, .ref x)] := hl
  have KH : ∀ (H : Heap) (locs : List Loc), wP G [bMod G x xs xb xm xf xu xg xw kn bl ft vh vm vs ln th sp pl wr br aS aB aM aO aU aG aW] H → wD A [bMod G x xs xb xm xf xu xg xw kn bl ft vh vm vs ln th sp pl wr br aS aB aM aO aU aG aW] → va_S A s.heap H locs → W p l e rmX9_go s m args below meth c H locs 0 0 Q (F0 m 0 ls []) := by
    intro H locs hP hD hS
    refine lv_aload_n hx hb dX9_go_0 rfl (lv_at hl 0 rfl) ?_
    refine jv_iconst hx hb dX9_go_1 ?_
    refine va_put (ci := 9) (v := .int (jz 0)) (ty := .int) (C := RX9) (T := TX9) (N := 19) hx hb hts wfX9 tyX9 tyX9_ok nmX9 hown hK.1 hP hD hS 0 rfl rfl 16 (by decide) (hts _ wm826) (fun _ h9 => h9) rfl (by decide +kernel) rfl rfl (Nat.le_of_ble_eq_true rfl) dX9_go_2 (fun H locs hP hD hS => ?_)
    have hP : wP G [bMod G x xs xb xm xf xu xg xw kn bl ft vh vm vs ln th sp 0 wr br aS aB aM aO aU aG aW] H := hP
    have hD : wD A [bMod G x xs xb xm xf xu xg xw kn bl ft vh vm vs ln th sp 0 wr br aS aB aM aO aU aG aW] := hD
    refine lv_aload_n hx hb dX9_go_5 rfl (lv_at hl 0 rfl) ?_
    refine jv_iconst hx hb dX9_go_6 ?_
    refine va_put (ci := 9) (v := .int (jz 0)) (ty := .boolean) (C := RX9) (T := TX9) (N := 19) hx hb hts wfX9 tyX9 tyX9_ok nmX9 hown hK.1 hP hD hS 0 rfl rfl 17 (by decide) (hts _ wm827) (fun _ h9 => h9) rfl (by decide +kernel) (jz_nb (by omega)) (jz_fb (by omega)) (Nat.le_of_ble_eq_true rfl) dX9_go_7 (fun H locs hP hD hS => ?_)
    have hP : wP G [bMod G x xs xb xm xf xu xg xw kn bl ft vh vm vs ln th sp 0 0 br aS aB aM aO aU aG aW] H := hP
    have hD : wD A [bMod G x xs xb xm xf xu xg xw kn bl ft vh vm vs ln th sp 0 0 br aS aB aM aO aU aG aW] := hD
    refine lv_aload_n hx hb dX9_go_10 rfl (lv_at hl 0 rfl) ?_
    refine jv_iconst hx hb dX9_go_11 ?_
    refine va_put (ci := 9) (v := .int (jz ((-1)))) (ty := .int) (C := RX9) (T := TX9) (N := 19) hx hb hts wfX9 tyX9 tyX9_ok nmX9 hown hK.1 hP hD hS 0 rfl rfl 18 (by decide) (hts _ wm828) (fun _ h9 => h9) rfl (by decide +kernel) rfl rfl (Nat.le_of_ble_eq_true rfl) dX9_go_12 (fun H locs hP hD hS => ?_)
    have hP : wP G [bMod G x xs xb xm xf xu xg xw kn bl ft vh vm vs ln th sp 0 0 ((-1)) aS aB aM aO aU aG aW] H := hP
    have hD : wD A [bMod G x xs xb xm xf xu xg xw kn bl ft vh vm vs ln th sp 0 0 ((-1)) aS aB aM aO aU aG aW] := hD
    have K15 : ∀ (n9 : Nat) (q1 : Int) (w1 : Int) (b1 : Int) , ((2 * (ln - q1) + (1 - w1)).toNat) < n9 → (0 ≤ q1 ∧ q1 ≤ ln ∧ (w1 = 0 ∨ w1 = 1)) → (-1 ≤ b1 ∧ b1 ≤ 60) → ((w1 = 0 ∧ sc aU q1 = (q1, b1)) ∨ (w1 = 1 ∧ q1 < ln ∧ sc aU ln = (q1, b1))) → ∀ (H : Heap) (locs : List Loc) (ls : Array Slot), wP G [bMod G x xs xb xm xf xu xg xw kn bl ft vh vm vs ln th sp q1 w1 b1 aS aB aM aO aU aG aW] H → wD A [bMod G x xs xb xm xf xu xg xw kn bl ft vh vm vs ln th sp q1 w1 b1 aS aB aM aO aU aG aW] → va_S A s.heap H locs → lv_has ls 4 [(0, .ref x)] → W p l e rmX9_go s m args below meth c H locs 0 0 Q (F0 m 15 ls []) := by
      intro n9
      induction n9 with
      | zero => intro q1 w1 b1 hm9; exact absurd hm9 (Nat.not_lt_zero _)
      | succ n9 ih15 =>
        intro q1 w1 b1 hm9 hp hbr hs H locs ls hP hD hS hl
        refine lv_aload_n hx hb dX9_go_15 rfl (lv_at hl 0 rfl) ?_
        refine va_get (ci := 9) (v := .int (jz q1)) (C := RX9) (T := TX9) (N := 19) hx hb hts wfX9 hown hK.1 hP 0 rfl rfl 16 (by decide) (hts _ wm826) (fun _ h9 => h9) rfl dX9_go_16 ?_
        refine lv_aload_n hx hb dX9_go_19 rfl (lv_at hl 0 rfl) ?_
        refine va_get (ci := 9) (v := .int (jz ln)) (C := RX9) (T := TX9) (N := 19) hx hb hts wfX9 hown hK.1 hP 0 rfl rfl 11 (by decide) (hts _ wm821) (fun _ h9 => h9) rfl dX9_go_20 ?_
        refine jv_icmp_ge (tgt := 158) hx hb dX9_go_23 (by decide) (by omega) (by omega) (fun c_1 => ?_) (fun c_1 => ?_)
        · exact cret_v hx hb hr hlocks hS hP hD (Nat.le_of_ble_eq_true rfl) (Nat.le_of_ble_eq_true rfl) dX9_go_158 [0] (by decide) ⟨q1, w1, b1⟩ rfl ⟨(show sc aU ln = (q1, b1) from by rcases hs with ⟨q0, q⟩ | ⟨-, -, q⟩; (first | (exfalso; omega) | (rw [show q1 = ln by omega] at q; rw [show q1 = ln by omega]; exact q)); exact q), (show (w1 = 0 ∧ q1 = ln) ∨ (w1 = 1 ∧ q1 < ln) from by omega)⟩ rfl hQ
        · refine lv_aload_n hx hb dX9_go_26 rfl (lv_at hl 0 rfl) ?_
          refine va_get (ci := 9) (v := .int (jz w1)) (C := RX9) (T := TX9) (N := 19) hx hb hts wfX9 hown hK.1 hP 0 rfl rfl 17 (by decide) (hts _ wm827) (fun _ h9 => h9) rfl dX9_go_27 ?_
          refine jv_if_ne (tgt := 158) hx hb dX9_go_30 (by decide) (by omega) (fun c_2 => ?_) (fun c_2 => ?_)
          · exact cret_v hx hb hr hlocks hS hP hD (Nat.le_of_ble_eq_true rfl) (Nat.le_of_ble_eq_true rfl) dX9_go_158 [0] (by decide) ⟨q1, w1, b1⟩ rfl ⟨(show sc aU ln = (q1, b1) from by rcases hs with ⟨q0, q⟩ | ⟨-, -, q⟩; (first | (exfalso; omega) | (rw [show q1 = ln by omega] at q; rw [show q1 = ln by omega]; exact q)); exact q), (show (w1 = 0 ∧ q1 = ln) ∨ (w1 = 1 ∧ q1 < ln) from by omega)⟩ rfl hQ
          · have hs0 : sc aU q1 = (q1, b1) := by rcases hs with ⟨-, q⟩ | ⟨q, -⟩; exact q; omega
            have hb9 := hbu q1 (by omega) (by omega)
            refine lv_aload_n hx hb dX9_go_33 rfl (lv_at hl 0 rfl) ?_
            refine va_get (ci := 9) (v := .ref xu) (C := RX9) (T := TX9) (N := 19) hx hb hts wfX9 hown hK.1 hP 0 rfl rfl 10 (by decide) (hts _ wm820) (fun _ h9 => h9) rfl dX9_go_34 ?_
            refine lv_aload_n hx hb dX9_go_37 rfl (lv_at hl 0 rfl) ?_
            refine va_get (ci := 9) (v := .int (jz q1)) (C := RX9) (T := TX9) (N := 19) hx hb hts wfX9 hown hK.1 hP 0 rfl rfl 16 (by decide) (hts _ wm826) (fun _ h9 => h9) rfl dX9_go_38 ?_
            refine jv_iald hx hb hK.1 hP 5 (g := aU) rfl (by omega) (by omega) (by decide) dX9_go_41 ?_
            refine lv_istore_n (lv' := [(1, .int (jz (aU q1))), (0, .ref x)]) hx hb dX9_go_42 rfl hl (by decide) rfl (fun ls hl => ?_)
            refine lv_aload_n hx hb dX9_go_43 rfl (lv_at hl 1 rfl) ?_
            refine va_get (ci := 9) (v := .int (jz b1)) (C := RX9) (T := TX9) (N := 19) hx hb hts wfX9 hown hK.1 hP 0 rfl rfl 18 (by decide) (hts _ wm828) (fun _ h9 => h9) rfl dX9_go_44 ?_
            refine jv_iconst hx hb dX9_go_47 ?_
            refine jv_iadd hx hb dX9_go_48 ?_
            refine lv_istore_n (lv' := [(2, .int (jz (b1 + 1))), (1, .int (jz (aU q1))), (0, .ref x)]) hx hb dX9_go_49 rfl hl (by decide) rfl (fun ls hl => ?_)
            refine lv_iload_n hx hb dX9_go_50 rfl (lv_at hl 1 rfl) ?_
            refine jv_bipush hx hb dX9_go_51 (by decide) ?_
            refine jv_bipush hx hb dX9_go_53 (by decide) ?_
            refine kS ⟨hx, hb, hml, hown, hts⟩ hK hA hS hP hD [.int (jz (aU q1)), .int (jz 97), .int (jz 100)] [] (mX9_in l G (aU q1) 97 100 (by omega) (by omega) (by omega)) lkX9_42 [] [0] (br := [bMod G x xs xb xm xf xu xg xw kn bl ft vh vm vs ln th sp q1 w1 b1 aS aB aM aO aU aG aW]) rfl rfl (by decide) rfl rfl (Nat.le_of_ble_eq_true rfl) hl.1 dX9_go_55 ⟨Nat.le_of_ble_eq_true rfl, Nat.le_of_ble_eq_true rfl⟩ ⟨Nat.le_of_ble_eq_true rfl, Nat.le_of_ble_eq_true rfl⟩ (fun u9 H locs hp9 hP hD hS => ?_)
            have hP : wP G [bMod G x xs xb xm xf xu xg xw kn bl ft vh vm vs ln th sp q1 w1 b1 aS aB aM aO aU aG aW] H := hP
            have hD : wD A [bMod G x xs xb xm xf xu xg xw kn bl ft vh vm vs ln th sp q1 w1 b1 aS aB aM aO aU aG aW] := hD
            show W p l e rmX9_go s m args below meth c H locs 0 0 Q (F0 m 58 ls [.int (jz (if 97 ≤ (aU q1) ∧ (aU q1) ≤ 100 then 1 else 0))])
            refine jv_top (fun r_4 er_4 => ?_)
            refine jv_if_eq (tgt := 80) hx hb dX9_go_58 (by decide) (by rw [er_4]; split <;> omega) (fun c_5 => ?_) (fun c_5 => ?_)
            · have hlt9 : ¬ (97 ≤ aU q1 ∧ aU q1 ≤ 100) := by have q9 := er_4; split at q9 <;> omega
              refine lv_iload_n hx hb dX9_go_80 rfl (lv_at hl 1 rfl) ?_
              refine jv_bipush hx hb dX9_go_81 (by decide) ?_
              refine jv_icmp_ne (tgt := 97) hx hb dX9_go_83 (by decide) (by omega) (by omega) (fun c_6 => ?_) (fun c_6 => ?_)
              · refine jv_iconst hx hb dX9_go_97 ?_
                refine lv_istore_n (lv' := [(3, .int (jz 0)), (2, .int (jz (b1 + 1))), (1, .int (jz (aU q1))), (0, .ref x)]) hx hb dX9_go_98 rfl hl (by decide) rfl (fun ls hl => ?_)
                refine lv_aload_n hx hb dX9_go_99 rfl (lv_at hl 3 rfl) ?_
                refine lv_iload_n hx hb dX9_go_100 rfl (lv_at hl 2 rfl) ?_
                refine jv_bipush hx hb dX9_go_101 (by decide) ?_
                refine jv_icmp_ne (tgt := 117) hx hb dX9_go_103 (by decide) (by omega) (by omega) (fun c_7 => ?_) (fun c_7 => ?_)
                · refine lv_aload_n hx hb dX9_go_117 rfl (lv_at hl 3 rfl) ?_
                  refine va_get (ci := 9) (v := .int (jz b1)) (C := RX9) (T := TX9) (N := 19) hx hb hts wfX9 hown hK.1 hP 0 rfl rfl 18 (by decide) (hts _ wm828) (fun _ h9 => h9) rfl dX9_go_118 ?_
                  refine va_put (ci := 9) (v := .int (jz b1)) (ty := .int) (C := RX9) (T := TX9) (N := 19) hx hb hts wfX9 tyX9 tyX9_ok nmX9 hown hK.1 hP hD hS 0 rfl rfl 18 (by decide) (hts _ wm828) (fun _ h9 => h9) rfl (by decide +kernel) rfl rfl (Nat.le_of_ble_eq_true rfl) dX9_go_121 (fun H locs hP hD hS => ?_)
                  have hP : wP G [bMod G x xs xb xm xf xu xg xw kn bl ft vh vm vs ln th sp q1 w1 b1 aS aB aM aO aU aG aW] H := hP
                  have hD : wD A [bMod G x xs xb xm xf xu xg xw kn bl ft vh vm vs ln th sp q1 w1 b1 aS aB aM aO aU aG aW] := hD
                  refine lv_aload_n hx hb dX9_go_124 rfl (lv_at hl 3 rfl) ?_
                  refine lv_iload_n hx hb dX9_go_125 rfl (lv_at hl 0 rfl) ?_
                  refine jv_if_ne (tgt := 133) hx hb dX9_go_126 (by decide) (by omega) (fun c_8 => ?_) (fun c_8 => ?_)
                  · exfalso; omega
                  · refine jv_iconst hx hb dX9_go_129 ?_
                    refine lv_goto (tgt := 134) hx hb dX9_go_130 (by decide) ?_
                    refine va_put (ci := 9) (v := .int (jz 1)) (ty := .boolean) (C := RX9) (T := TX9) (N := 19) hx hb hts wfX9 tyX9 tyX9_ok nmX9 hown hK.1 hP hD hS 0 rfl rfl 17 (by decide) (hts _ wm827) (fun _ h9 => h9) rfl (by decide +kernel) (jz_nb (by omega)) (jz_fb (by omega)) (Nat.le_of_ble_eq_true rfl) dX9_go_134 (fun H locs hP hD hS => ?_)
                    have hP : wP G [bMod G x xs xb xm xf xu xg xw kn bl ft vh vm vs ln th sp q1 1 b1 aS aB aM aO aU aG aW] H := hP
                    have hD : wD A [bMod G x xs xb xm xf xu xg xw kn bl ft vh vm vs ln th sp q1 1 b1 aS aB aM aO aU aG aW] := hD
                    refine lv_aload_n hx hb dX9_go_137 rfl (lv_at hl 3 rfl) ?_
                    refine lv_dup hx hb dX9_go_138 rfl ?_
                    refine va_get (ci := 9) (v := .int (jz q1)) (C := RX9) (T := TX9) (N := 19) hx hb hts wfX9 hown hK.1 hP 0 rfl rfl 16 (by decide) (hts _ wm826) (fun _ h9 => h9) rfl dX9_go_139 ?_
                    refine lv_iload_n hx hb dX9_go_142 rfl (lv_at hl 0 rfl) ?_
                    refine jv_if_eq (tgt := 150) hx hb dX9_go_143 (by decide) (by omega) (fun c_9 => ?_) (fun c_9 => ?_)
                    · refine jv_iconst hx hb dX9_go_150 ?_
                      refine jv_iadd hx hb dX9_go_151 ?_
                      refine va_put (ci := 9) (v := .int (jz (q1 + 0))) (ty := .int) (C := RX9) (T := TX9) (N := 19) hx hb hts wfX9 tyX9 tyX9_ok nmX9 hown hK.1 hP hD hS 0 rfl rfl 16 (by decide) (hts _ wm826) (fun _ h9 => h9) rfl (by decide +kernel) rfl rfl (Nat.le_of_ble_eq_true rfl) dX9_go_152 (fun H locs hP hD hS => ?_)
                      have hP : wP G [bMod G x xs xb xm xf xu xg xw kn bl ft vh vm vs ln th sp (q1 + 0) 1 b1 aS aB aM aO aU aG aW] H := hP
                      have hD : wD A [bMod G x xs xb xm xf xu xg xw kn bl ft vh vm vs ln th sp (q1 + 0) 1 b1 aS aB aM aO aU aG aW] := hD
                      refine lv_goto (tgt := 15) hx hb dX9_go_155 (by decide) ?_
                      exact ih15 (q1 + 0) 1 b1 (by omega) (by omega) (by omega) (by exact Or.inr ⟨rfl, by omega, by rw [Int.add_zero]; exact sc_err (by omega) hs0 (fun q => by unfold right at q; omega) (by omega)⟩) H _ _ hP hD hS (lv_sub hl [3] rfl)
                    · exfalso; omega
                · refine lv_iload_n hx hb dX9_go_106 rfl (lv_at hl 0 rfl) ?_
                  refine jv_if_eq (tgt := 117) hx hb dX9_go_107 (by decide) (by omega) (fun c_10 => ?_) (fun c_10 => ?_)
                  · refine lv_aload_n hx hb dX9_go_117 rfl (lv_at hl 3 rfl) ?_
                    refine va_get (ci := 9) (v := .int (jz b1)) (C := RX9) (T := TX9) (N := 19) hx hb hts wfX9 hown hK.1 hP 0 rfl rfl 18 (by decide) (hts _ wm828) (fun _ h9 => h9) rfl dX9_go_118 ?_
                    refine va_put (ci := 9) (v := .int (jz b1)) (ty := .int) (C := RX9) (T := TX9) (N := 19) hx hb hts wfX9 tyX9 tyX9_ok nmX9 hown hK.1 hP hD hS 0 rfl rfl 18 (by decide) (hts _ wm828) (fun _ h9 => h9) rfl (by decide +kernel) rfl rfl (Nat.le_of_ble_eq_true rfl) dX9_go_121 (fun H locs hP hD hS => ?_)
                    have hP : wP G [bMod G x xs xb xm xf xu xg xw kn bl ft vh vm vs ln th sp q1 w1 b1 aS aB aM aO aU aG aW] H := hP
                    have hD : wD A [bMod G x xs xb xm xf xu xg xw kn bl ft vh vm vs ln th sp q1 w1 b1 aS aB aM aO aU aG aW] := hD
                    refine lv_aload_n hx hb dX9_go_124 rfl (lv_at hl 3 rfl) ?_
                    refine lv_iload_n hx hb dX9_go_125 rfl (lv_at hl 0 rfl) ?_
                    refine jv_if_ne (tgt := 133) hx hb dX9_go_126 (by decide) (by omega) (fun c_11 => ?_) (fun c_11 => ?_)
                    · exfalso; omega
                    · refine jv_iconst hx hb dX9_go_129 ?_
                      refine lv_goto (tgt := 134) hx hb dX9_go_130 (by decide) ?_
                      refine va_put (ci := 9) (v := .int (jz 1)) (ty := .boolean) (C := RX9) (T := TX9) (N := 19) hx hb hts wfX9 tyX9 tyX9_ok nmX9 hown hK.1 hP hD hS 0 rfl rfl 17 (by decide) (hts _ wm827) (fun _ h9 => h9) rfl (by decide +kernel) (jz_nb (by omega)) (jz_fb (by omega)) (Nat.le_of_ble_eq_true rfl) dX9_go_134 (fun H locs hP hD hS => ?_)
                      have hP : wP G [bMod G x xs xb xm xf xu xg xw kn bl ft vh vm vs ln th sp q1 1 b1 aS aB aM aO aU aG aW] H := hP
                      have hD : wD A [bMod G x xs xb xm xf xu xg xw kn bl ft vh vm vs ln th sp q1 1 b1 aS aB aM aO aU aG aW] := hD
                      refine lv_aload_n hx hb dX9_go_137 rfl (lv_at hl 3 rfl) ?_
                      refine lv_dup hx hb dX9_go_138 rfl ?_
                      refine va_get (ci := 9) (v := .int (jz q1)) (C := RX9) (T := TX9) (N := 19) hx hb hts wfX9 hown hK.1 hP 0 rfl rfl 16 (by decide) (hts _ wm826) (fun _ h9 => h9) rfl dX9_go_139 ?_
                      refine lv_iload_n hx hb dX9_go_142 rfl (lv_at hl 0 rfl) ?_
                      refine jv_if_eq (tgt := 150) hx hb dX9_go_143 (by decide) (by omega) (fun c_12 => ?_) (fun c_12 => ?_)
                      · refine jv_iconst hx hb dX9_go_150 ?_
                        refine jv_iadd hx hb dX9_go_151 ?_
                        refine va_put (ci := 9) (v := .int (jz (q1 + 0))) (ty := .int) (C := RX9) (T := TX9) (N := 19) hx hb hts wfX9 tyX9 tyX9_ok nmX9 hown hK.1 hP hD hS 0 rfl rfl 16 (by decide) (hts _ wm826) (fun _ h9 => h9) rfl (by decide +kernel) rfl rfl (Nat.le_of_ble_eq_true rfl) dX9_go_152 (fun H locs hP hD hS => ?_)
                        have hP : wP G [bMod G x xs xb xm xf xu xg xw kn bl ft vh vm vs ln th sp (q1 + 0) 1 b1 aS aB aM aO aU aG aW] H := hP
                        have hD : wD A [bMod G x xs xb xm xf xu xg xw kn bl ft vh vm vs ln th sp (q1 + 0) 1 b1 aS aB aM aO aU aG aW] := hD
                        refine lv_goto (tgt := 15) hx hb dX9_go_155 (by decide) ?_
                        exact ih15 (q1 + 0) 1 b1 (by omega) (by omega) (by omega) (by exact Or.inr ⟨rfl, by omega, by rw [Int.add_zero]; exact sc_err (by omega) hs0 (fun q => by unfold right at q; omega) (by omega)⟩) H _ _ hP hD hS (lv_sub hl [3] rfl)
                      · exfalso; omega
                  · exfalso; omega
              · refine lv_aload_n hx hb dX9_go_86 rfl (lv_at hl 2 rfl) ?_
                refine va_get (ci := 9) (v := .int (jz b1)) (C := RX9) (T := TX9) (N := 19) hx hb hts wfX9 hown hK.1 hP 0 rfl rfl 18 (by decide) (hts _ wm828) (fun _ h9 => h9) rfl dX9_go_87 ?_
                refine jv_if_ge (tgt := 97) hx hb dX9_go_90 (by decide) (by omega) (fun c_13 => ?_) (fun c_13 => ?_)
                · refine jv_iconst hx hb dX9_go_97 ?_
                  refine lv_istore_n (lv' := [(3, .int (jz 0)), (2, .int (jz (b1 + 1))), (1, .int (jz (aU q1))), (0, .ref x)]) hx hb dX9_go_98 rfl hl (by decide) rfl (fun ls hl => ?_)
                  refine lv_aload_n hx hb dX9_go_99 rfl (lv_at hl 3 rfl) ?_
                  refine lv_iload_n hx hb dX9_go_100 rfl (lv_at hl 2 rfl) ?_
                  refine jv_bipush hx hb dX9_go_101 (by decide) ?_
                  refine jv_icmp_ne (tgt := 117) hx hb dX9_go_103 (by decide) (by omega) (by omega) (fun c_14 => ?_) (fun c_14 => ?_)
                  · refine lv_aload_n hx hb dX9_go_117 rfl (lv_at hl 3 rfl) ?_
                    refine va_get (ci := 9) (v := .int (jz b1)) (C := RX9) (T := TX9) (N := 19) hx hb hts wfX9 hown hK.1 hP 0 rfl rfl 18 (by decide) (hts _ wm828) (fun _ h9 => h9) rfl dX9_go_118 ?_
                    refine va_put (ci := 9) (v := .int (jz b1)) (ty := .int) (C := RX9) (T := TX9) (N := 19) hx hb hts wfX9 tyX9 tyX9_ok nmX9 hown hK.1 hP hD hS 0 rfl rfl 18 (by decide) (hts _ wm828) (fun _ h9 => h9) rfl (by decide +kernel) rfl rfl (Nat.le_of_ble_eq_true rfl) dX9_go_121 (fun H locs hP hD hS => ?_)
                    have hP : wP G [bMod G x xs xb xm xf xu xg xw kn bl ft vh vm vs ln th sp q1 w1 b1 aS aB aM aO aU aG aW] H := hP
                    have hD : wD A [bMod G x xs xb xm xf xu xg xw kn bl ft vh vm vs ln th sp q1 w1 b1 aS aB aM aO aU aG aW] := hD
                    refine lv_aload_n hx hb dX9_go_124 rfl (lv_at hl 3 rfl) ?_
                    refine lv_iload_n hx hb dX9_go_125 rfl (lv_at hl 0 rfl) ?_
                    refine jv_if_ne (tgt := 133) hx hb dX9_go_126 (by decide) (by omega) (fun c_15 => ?_) (fun c_15 => ?_)
                    · exfalso; omega
                    · refine jv_iconst hx hb dX9_go_129 ?_
                      refine lv_goto (tgt := 134) hx hb dX9_go_130 (by decide) ?_
                      refine va_put (ci := 9) (v := .int (jz 1)) (ty := .boolean) (C := RX9) (T := TX9) (N := 19) hx hb hts wfX9 tyX9 tyX9_ok nmX9 hown hK.1 hP hD hS 0 rfl rfl 17 (by decide) (hts _ wm827) (fun _ h9 => h9) rfl (by decide +kernel) (jz_nb (by omega)) (jz_fb (by omega)) (Nat.le_of_ble_eq_true rfl) dX9_go_134 (fun H locs hP hD hS => ?_)
                      have hP : wP G [bMod G x xs xb xm xf xu xg xw kn bl ft vh vm vs ln th sp q1 1 b1 aS aB aM aO aU aG aW] H := hP
                      have hD : wD A [bMod G x xs xb xm xf xu xg xw kn bl ft vh vm vs ln th sp q1 1 b1 aS aB aM aO aU aG aW] := hD
                      refine lv_aload_n hx hb dX9_go_137 rfl (lv_at hl 3 rfl) ?_
                      refine lv_dup hx hb dX9_go_138 rfl ?_
                      refine va_get (ci := 9) (v := .int (jz q1)) (C := RX9) (T := TX9) (N := 19) hx hb hts wfX9 hown hK.1 hP 0 rfl rfl 16 (by decide) (hts _ wm826) (fun _ h9 => h9) rfl dX9_go_139 ?_
                      refine lv_iload_n hx hb dX9_go_142 rfl (lv_at hl 0 rfl) ?_
                      refine jv_if_eq (tgt := 150) hx hb dX9_go_143 (by decide) (by omega) (fun c_16 => ?_) (fun c_16 => ?_)
                      · refine jv_iconst hx hb dX9_go_150 ?_
                        refine jv_iadd hx hb dX9_go_151 ?_
                        refine va_put (ci := 9) (v := .int (jz (q1 + 0))) (ty := .int) (C := RX9) (T := TX9) (N := 19) hx hb hts wfX9 tyX9 tyX9_ok nmX9 hown hK.1 hP hD hS 0 rfl rfl 16 (by decide) (hts _ wm826) (fun _ h9 => h9) rfl (by decide +kernel) rfl rfl (Nat.le_of_ble_eq_true rfl) dX9_go_152 (fun H locs hP hD hS => ?_)
                        have hP : wP G [bMod G x xs xb xm xf xu xg xw kn bl ft vh vm vs ln th sp (q1 + 0) 1 b1 aS aB aM aO aU aG aW] H := hP
                        have hD : wD A [bMod G x xs xb xm xf xu xg xw kn bl ft vh vm vs ln th sp (q1 + 0) 1 b1 aS aB aM aO aU aG aW] := hD
                        refine lv_goto (tgt := 15) hx hb dX9_go_155 (by decide) ?_
                        exact ih15 (q1 + 0) 1 b1 (by omega) (by omega) (by omega) (by exact Or.inr ⟨rfl, by omega, by rw [Int.add_zero]; exact sc_err (by omega) hs0 (fun q => by unfold right at q; omega) (by omega)⟩) H _ _ hP hD hS (lv_sub hl [3] rfl)
                      · exfalso; omega
                  · refine lv_iload_n hx hb dX9_go_106 rfl (lv_at hl 0 rfl) ?_
                    refine jv_if_eq (tgt := 117) hx hb dX9_go_107 (by decide) (by omega) (fun c_17 => ?_) (fun c_17 => ?_)
                    · refine lv_aload_n hx hb dX9_go_117 rfl (lv_at hl 3 rfl) ?_
                      refine va_get (ci := 9) (v := .int (jz b1)) (C := RX9) (T := TX9) (N := 19) hx hb hts wfX9 hown hK.1 hP 0 rfl rfl 18 (by decide) (hts _ wm828) (fun _ h9 => h9) rfl dX9_go_118 ?_
                      refine va_put (ci := 9) (v := .int (jz b1)) (ty := .int) (C := RX9) (T := TX9) (N := 19) hx hb hts wfX9 tyX9 tyX9_ok nmX9 hown hK.1 hP hD hS 0 rfl rfl 18 (by decide) (hts _ wm828) (fun _ h9 => h9) rfl (by decide +kernel) rfl rfl (Nat.le_of_ble_eq_true rfl) dX9_go_121 (fun H locs hP hD hS => ?_)
                      have hP : wP G [bMod G x xs xb xm xf xu xg xw kn bl ft vh vm vs ln th sp q1 w1 b1 aS aB aM aO aU aG aW] H := hP
                      have hD : wD A [bMod G x xs xb xm xf xu xg xw kn bl ft vh vm vs ln th sp q1 w1 b1 aS aB aM aO aU aG aW] := hD
                      refine lv_aload_n hx hb dX9_go_124 rfl (lv_at hl 3 rfl) ?_
                      refine lv_iload_n hx hb dX9_go_125 rfl (lv_at hl 0 rfl) ?_
                      refine jv_if_ne (tgt := 133) hx hb dX9_go_126 (by decide) (by omega) (fun c_18 => ?_) (fun c_18 => ?_)
                      · exfalso; omega
                      · refine jv_iconst hx hb dX9_go_129 ?_
                        refine lv_goto (tgt := 134) hx hb dX9_go_130 (by decide) ?_
                        refine va_put (ci := 9) (v := .int (jz 1)) (ty := .boolean) (C := RX9) (T := TX9) (N := 19) hx hb hts wfX9 tyX9 tyX9_ok nmX9 hown hK.1 hP hD hS 0 rfl rfl 17 (by decide) (hts _ wm827) (fun _ h9 => h9) rfl (by decide +kernel) (jz_nb (by omega)) (jz_fb (by omega)) (Nat.le_of_ble_eq_true rfl) dX9_go_134 (fun H locs hP hD hS => ?_)
                        have hP : wP G [bMod G x xs xb xm xf xu xg xw kn bl ft vh vm vs ln th sp q1 1 b1 aS aB aM aO aU aG aW] H := hP
                        have hD : wD A [bMod G x xs xb xm xf xu xg xw kn bl ft vh vm vs ln th sp q1 1 b1 aS aB aM aO aU aG aW] := hD
                        refine lv_aload_n hx hb dX9_go_137 rfl (lv_at hl 3 rfl) ?_
                        refine lv_dup hx hb dX9_go_138 rfl ?_
                        refine va_get (ci := 9) (v := .int (jz q1)) (C := RX9) (T := TX9) (N := 19) hx hb hts wfX9 hown hK.1 hP 0 rfl rfl 16 (by decide) (hts _ wm826) (fun _ h9 => h9) rfl dX9_go_139 ?_
                        refine lv_iload_n hx hb dX9_go_142 rfl (lv_at hl 0 rfl) ?_
                        refine jv_if_eq (tgt := 150) hx hb dX9_go_143 (by decide) (by omega) (fun c_19 => ?_) (fun c_19 => ?_)
                        · refine jv_iconst hx hb dX9_go_150 ?_
                          refine jv_iadd hx hb dX9_go_151 ?_
                          refine va_put (ci := 9) (v := .int (jz (q1 + 0))) (ty := .int) (C := RX9) (T := TX9) (N := 19) hx hb hts wfX9 tyX9 tyX9_ok nmX9 hown hK.1 hP hD hS 0 rfl rfl 16 (by decide) (hts _ wm826) (fun _ h9 => h9) rfl (by decide +kernel) rfl rfl (Nat.le_of_ble_eq_true rfl) dX9_go_152 (fun H locs hP hD hS => ?_)
                          have hP : wP G [bMod G x xs xb xm xf xu xg xw kn bl ft vh vm vs ln th sp (q1 + 0) 1 b1 aS aB aM aO aU aG aW] H := hP
                          have hD : wD A [bMod G x xs xb xm xf xu xg xw kn bl ft vh vm vs ln th sp (q1 + 0) 1 b1 aS aB aM aO aU aG aW] := hD
                          refine lv_goto (tgt := 15) hx hb dX9_go_155 (by decide) ?_
                          exact ih15 (q1 + 0) 1 b1 (by omega) (by omega) (by omega) (by exact Or.inr ⟨rfl, by omega, by rw [Int.add_zero]; exact sc_err (by omega) hs0 (fun q => by unfold right at q; omega) (by omega)⟩) H _ _ hP hD hS (lv_sub hl [3] rfl)
                        · exfalso; omega
                    · exfalso; omega
                · refine jv_iconst hx hb dX9_go_93 ?_
                  refine lv_goto (tgt := 98) hx hb dX9_go_94 (by decide) ?_
                  refine lv_istore_n (lv' := [(3, .int (jz 1)), (2, .int (jz (b1 + 1))), (1, .int (jz (aU q1))), (0, .ref x)]) hx hb dX9_go_98 rfl hl (by decide) rfl (fun ls hl => ?_)
                  refine lv_aload_n hx hb dX9_go_99 rfl (lv_at hl 3 rfl) ?_
                  refine lv_iload_n hx hb dX9_go_100 rfl (lv_at hl 2 rfl) ?_
                  refine jv_bipush hx hb dX9_go_101 (by decide) ?_
                  refine jv_icmp_ne (tgt := 117) hx hb dX9_go_103 (by decide) (by omega) (by omega) (fun c_20 => ?_) (fun c_20 => ?_)
                  · refine lv_aload_n hx hb dX9_go_117 rfl (lv_at hl 3 rfl) ?_
                    refine va_get (ci := 9) (v := .int (jz b1)) (C := RX9) (T := TX9) (N := 19) hx hb hts wfX9 hown hK.1 hP 0 rfl rfl 18 (by decide) (hts _ wm828) (fun _ h9 => h9) rfl dX9_go_118 ?_
                    refine va_put (ci := 9) (v := .int (jz b1)) (ty := .int) (C := RX9) (T := TX9) (N := 19) hx hb hts wfX9 tyX9 tyX9_ok nmX9 hown hK.1 hP hD hS 0 rfl rfl 18 (by decide) (hts _ wm828) (fun _ h9 => h9) rfl (by decide +kernel) rfl rfl (Nat.le_of_ble_eq_true rfl) dX9_go_121 (fun H locs hP hD hS => ?_)
                    have hP : wP G [bMod G x xs xb xm xf xu xg xw kn bl ft vh vm vs ln th sp q1 w1 b1 aS aB aM aO aU aG aW] H := hP
                    have hD : wD A [bMod G x xs xb xm xf xu xg xw kn bl ft vh vm vs ln th sp q1 w1 b1 aS aB aM aO aU aG aW] := hD
                    refine lv_aload_n hx hb dX9_go_124 rfl (lv_at hl 3 rfl) ?_
                    refine lv_iload_n hx hb dX9_go_125 rfl (lv_at hl 0 rfl) ?_
                    refine jv_if_ne (tgt := 133) hx hb dX9_go_126 (by decide) (by omega) (fun c_21 => ?_) (fun c_21 => ?_)
                    · refine jv_iconst hx hb dX9_go_133 ?_
                      refine va_put (ci := 9) (v := .int (jz 0)) (ty := .boolean) (C := RX9) (T := TX9) (N := 19) hx hb hts wfX9 tyX9 tyX9_ok nmX9 hown hK.1 hP hD hS 0 rfl rfl 17 (by decide) (hts _ wm827) (fun _ h9 => h9) rfl (by decide +kernel) (jz_nb (by omega)) (jz_fb (by omega)) (Nat.le_of_ble_eq_true rfl) dX9_go_134 (fun H locs hP hD hS => ?_)
                      have hP : wP G [bMod G x xs xb xm xf xu xg xw kn bl ft vh vm vs ln th sp q1 0 b1 aS aB aM aO aU aG aW] H := hP
                      have hD : wD A [bMod G x xs xb xm xf xu xg xw kn bl ft vh vm vs ln th sp q1 0 b1 aS aB aM aO aU aG aW] := hD
                      refine lv_aload_n hx hb dX9_go_137 rfl (lv_at hl 3 rfl) ?_
                      refine lv_dup hx hb dX9_go_138 rfl ?_
                      refine va_get (ci := 9) (v := .int (jz q1)) (C := RX9) (T := TX9) (N := 19) hx hb hts wfX9 hown hK.1 hP 0 rfl rfl 16 (by decide) (hts _ wm826) (fun _ h9 => h9) rfl dX9_go_139 ?_
                      refine lv_iload_n hx hb dX9_go_142 rfl (lv_at hl 0 rfl) ?_
                      refine jv_if_eq (tgt := 150) hx hb dX9_go_143 (by decide) (by omega) (fun c_22 => ?_) (fun c_22 => ?_)
                      · exfalso; omega
                      · refine jv_iconst hx hb dX9_go_146 ?_
                        refine lv_goto (tgt := 151) hx hb dX9_go_147 (by decide) ?_
                        refine jv_iadd hx hb dX9_go_151 ?_
                        refine va_put (ci := 9) (v := .int (jz (q1 + 1))) (ty := .int) (C := RX9) (T := TX9) (N := 19) hx hb hts wfX9 tyX9 tyX9_ok nmX9 hown hK.1 hP hD hS 0 rfl rfl 16 (by decide) (hts _ wm826) (fun _ h9 => h9) rfl (by decide +kernel) rfl rfl (Nat.le_of_ble_eq_true rfl) dX9_go_152 (fun H locs hP hD hS => ?_)
                        have hP : wP G [bMod G x xs xb xm xf xu xg xw kn bl ft vh vm vs ln th sp (q1 + 1) 0 b1 aS aB aM aO aU aG aW] H := hP
                        have hD : wD A [bMod G x xs xb xm xf xu xg xw kn bl ft vh vm vs ln th sp (q1 + 1) 0 b1 aS aB aM aO aU aG aW] := hD
                        refine lv_goto (tgt := 15) hx hb dX9_go_155 (by decide) ?_
                        exact ih15 (q1 + 1) 0 b1 (by omega) (by omega) (by omega) (by first | (exfalso; omega) | (have q9 := sc_ok (by omega) hs0 (show right aU q1 b1 from Or.inr ⟨by omega, by omega⟩); rw [if_pos (by omega)] at q9; exact Or.inl ⟨rfl, q9⟩)) H _ _ hP hD hS (lv_sub hl [3] rfl)
                    · exfalso; omega
                  · refine lv_iload_n hx hb dX9_go_106 rfl (lv_at hl 0 rfl) ?_
                    refine jv_if_eq (tgt := 117) hx hb dX9_go_107 (by decide) (by omega) (fun c_23 => ?_) (fun c_23 => ?_)
                    · exfalso; omega
                    · refine lv_aload_n hx hb dX9_go_110 rfl (lv_at hl 3 rfl) ?_
                      refine va_get (ci := 9) (v := .int (jz q1)) (C := RX9) (T := TX9) (N := 19) hx hb hts wfX9 hown hK.1 hP 0 rfl rfl 16 (by decide) (hts _ wm826) (fun _ h9 => h9) rfl dX9_go_111 ?_
                      refine lv_goto (tgt := 121) hx hb dX9_go_114 (by decide) ?_
                      refine va_put (ci := 9) (v := .int (jz q1)) (ty := .int) (C := RX9) (T := TX9) (N := 19) hx hb hts wfX9 tyX9 tyX9_ok nmX9 hown hK.1 hP hD hS 0 rfl rfl 18 (by decide) (hts _ wm828) (fun _ h9 => h9) rfl (by decide +kernel) rfl rfl (Nat.le_of_ble_eq_true rfl) dX9_go_121 (fun H locs hP hD hS => ?_)
                      have hP : wP G [bMod G x xs xb xm xf xu xg xw kn bl ft vh vm vs ln th sp q1 w1 q1 aS aB aM aO aU aG aW] H := hP
                      have hD : wD A [bMod G x xs xb xm xf xu xg xw kn bl ft vh vm vs ln th sp q1 w1 q1 aS aB aM aO aU aG aW] := hD
                      refine lv_aload_n hx hb dX9_go_124 rfl (lv_at hl 3 rfl) ?_
                      refine lv_iload_n hx hb dX9_go_125 rfl (lv_at hl 0 rfl) ?_
                      refine jv_if_ne (tgt := 133) hx hb dX9_go_126 (by decide) (by omega) (fun c_24 => ?_) (fun c_24 => ?_)
                      · refine jv_iconst hx hb dX9_go_133 ?_
                        refine va_put (ci := 9) (v := .int (jz 0)) (ty := .boolean) (C := RX9) (T := TX9) (N := 19) hx hb hts wfX9 tyX9 tyX9_ok nmX9 hown hK.1 hP hD hS 0 rfl rfl 17 (by decide) (hts _ wm827) (fun _ h9 => h9) rfl (by decide +kernel) (jz_nb (by omega)) (jz_fb (by omega)) (Nat.le_of_ble_eq_true rfl) dX9_go_134 (fun H locs hP hD hS => ?_)
                        have hP : wP G [bMod G x xs xb xm xf xu xg xw kn bl ft vh vm vs ln th sp q1 0 q1 aS aB aM aO aU aG aW] H := hP
                        have hD : wD A [bMod G x xs xb xm xf xu xg xw kn bl ft vh vm vs ln th sp q1 0 q1 aS aB aM aO aU aG aW] := hD
                        refine lv_aload_n hx hb dX9_go_137 rfl (lv_at hl 3 rfl) ?_
                        refine lv_dup hx hb dX9_go_138 rfl ?_
                        refine va_get (ci := 9) (v := .int (jz q1)) (C := RX9) (T := TX9) (N := 19) hx hb hts wfX9 hown hK.1 hP 0 rfl rfl 16 (by decide) (hts _ wm826) (fun _ h9 => h9) rfl dX9_go_139 ?_
                        refine lv_iload_n hx hb dX9_go_142 rfl (lv_at hl 0 rfl) ?_
                        refine jv_if_eq (tgt := 150) hx hb dX9_go_143 (by decide) (by omega) (fun c_25 => ?_) (fun c_25 => ?_)
                        · exfalso; omega
                        · refine jv_iconst hx hb dX9_go_146 ?_
                          refine lv_goto (tgt := 151) hx hb dX9_go_147 (by decide) ?_
                          refine jv_iadd hx hb dX9_go_151 ?_
                          refine va_put (ci := 9) (v := .int (jz (q1 + 1))) (ty := .int) (C := RX9) (T := TX9) (N := 19) hx hb hts wfX9 tyX9 tyX9_ok nmX9 hown hK.1 hP hD hS 0 rfl rfl 16 (by decide) (hts _ wm826) (fun _ h9 => h9) rfl (by decide +kernel) rfl rfl (Nat.le_of_ble_eq_true rfl) dX9_go_152 (fun H locs hP hD hS => ?_)
                          have hP : wP G [bMod G x xs xb xm xf xu xg xw kn bl ft vh vm vs ln th sp (q1 + 1) 0 q1 aS aB aM aO aU aG aW] H := hP
                          have hD : wD A [bMod G x xs xb xm xf xu xg xw kn bl ft vh vm vs ln th sp (q1 + 1) 0 q1 aS aB aM aO aU aG aW] := hD
                          refine lv_goto (tgt := 15) hx hb dX9_go_155 (by decide) ?_
                          exact ih15 (q1 + 1) 0 q1 (by omega) (by omega) (by omega) (by first | (exfalso; omega) | (have q9 := sc_ok (by omega) hs0 (show right aU q1 b1 from Or.inr ⟨by omega, by omega⟩); rw [if_pos (by omega)] at q9; exact Or.inl ⟨rfl, q9⟩)) H _ _ hP hD hS (lv_sub hl [3] rfl)
                      · exfalso; omega
            · have hlt9 : 97 ≤ aU q1 ∧ aU q1 ≤ 100 := by have q9 := er_4; split at q9 <;> omega
              refine lv_aload_n hx hb dX9_go_61 rfl (lv_at hl 2 rfl) ?_
              refine va_get (ci := 9) (v := .int (jz q1)) (C := RX9) (T := TX9) (N := 19) hx hb hts wfX9 hown hK.1 hP 0 rfl rfl 16 (by decide) (hts _ wm826) (fun _ h9 => h9) rfl dX9_go_62 ?_
              refine lv_iload_n hx hb dX9_go_65 rfl (lv_at hl 0 rfl) ?_
              refine jv_isub hx hb dX9_go_66 ?_
              refine jv_bipush hx hb dX9_go_67 (by decide) ?_
              refine jv_icmp_ge (tgt := 76) hx hb dX9_go_69 (by decide) (by omega) (by omega) (fun c_26 => ?_) (fun c_26 => ?_)
              · refine jv_iconst hx hb dX9_go_76 ?_
                refine lv_goto (tgt := 98) hx hb dX9_go_77 (by decide) ?_
                refine lv_istore_n (lv' := [(3, .int (jz 0)), (2, .int (jz (b1 + 1))), (1, .int (jz (aU q1))), (0, .ref x)]) hx hb dX9_go_98 rfl hl (by decide) rfl (fun ls hl => ?_)
                refine lv_aload_n hx hb dX9_go_99 rfl (lv_at hl 3 rfl) ?_
                refine lv_iload_n hx hb dX9_go_100 rfl (lv_at hl 2 rfl) ?_
                refine jv_bipush hx hb dX9_go_101 (by decide) ?_
                refine jv_icmp_ne (tgt := 117) hx hb dX9_go_103 (by decide) (by omega) (by omega) (fun c_27 => ?_) (fun c_27 => ?_)
                · refine lv_aload_n hx hb dX9_go_117 rfl (lv_at hl 3 rfl) ?_
                  refine va_get (ci := 9) (v := .int (jz b1)) (C := RX9) (T := TX9) (N := 19) hx hb hts wfX9 hown hK.1 hP 0 rfl rfl 18 (by decide) (hts _ wm828) (fun _ h9 => h9) rfl dX9_go_118 ?_
                  refine va_put (ci := 9) (v := .int (jz b1)) (ty := .int) (C := RX9) (T := TX9) (N := 19) hx hb hts wfX9 tyX9 tyX9_ok nmX9 hown hK.1 hP hD hS 0 rfl rfl 18 (by decide) (hts _ wm828) (fun _ h9 => h9) rfl (by decide +kernel) rfl rfl (Nat.le_of_ble_eq_true rfl) dX9_go_121 (fun H locs hP hD hS => ?_)
                  have hP : wP G [bMod G x xs xb xm xf xu xg xw kn bl ft vh vm vs ln th sp q1 w1 b1 aS aB aM aO aU aG aW] H := hP
                  have hD : wD A [bMod G x xs xb xm xf xu xg xw kn bl ft vh vm vs ln th sp q1 w1 b1 aS aB aM aO aU aG aW] := hD
                  refine lv_aload_n hx hb dX9_go_124 rfl (lv_at hl 3 rfl) ?_
                  refine lv_iload_n hx hb dX9_go_125 rfl (lv_at hl 0 rfl) ?_
                  refine jv_if_ne (tgt := 133) hx hb dX9_go_126 (by decide) (by omega) (fun c_28 => ?_) (fun c_28 => ?_)
                  · exfalso; omega
                  · refine jv_iconst hx hb dX9_go_129 ?_
                    refine lv_goto (tgt := 134) hx hb dX9_go_130 (by decide) ?_
                    refine va_put (ci := 9) (v := .int (jz 1)) (ty := .boolean) (C := RX9) (T := TX9) (N := 19) hx hb hts wfX9 tyX9 tyX9_ok nmX9 hown hK.1 hP hD hS 0 rfl rfl 17 (by decide) (hts _ wm827) (fun _ h9 => h9) rfl (by decide +kernel) (jz_nb (by omega)) (jz_fb (by omega)) (Nat.le_of_ble_eq_true rfl) dX9_go_134 (fun H locs hP hD hS => ?_)
                    have hP : wP G [bMod G x xs xb xm xf xu xg xw kn bl ft vh vm vs ln th sp q1 1 b1 aS aB aM aO aU aG aW] H := hP
                    have hD : wD A [bMod G x xs xb xm xf xu xg xw kn bl ft vh vm vs ln th sp q1 1 b1 aS aB aM aO aU aG aW] := hD
                    refine lv_aload_n hx hb dX9_go_137 rfl (lv_at hl 3 rfl) ?_
                    refine lv_dup hx hb dX9_go_138 rfl ?_
                    refine va_get (ci := 9) (v := .int (jz q1)) (C := RX9) (T := TX9) (N := 19) hx hb hts wfX9 hown hK.1 hP 0 rfl rfl 16 (by decide) (hts _ wm826) (fun _ h9 => h9) rfl dX9_go_139 ?_
                    refine lv_iload_n hx hb dX9_go_142 rfl (lv_at hl 0 rfl) ?_
                    refine jv_if_eq (tgt := 150) hx hb dX9_go_143 (by decide) (by omega) (fun c_29 => ?_) (fun c_29 => ?_)
                    · refine jv_iconst hx hb dX9_go_150 ?_
                      refine jv_iadd hx hb dX9_go_151 ?_
                      refine va_put (ci := 9) (v := .int (jz (q1 + 0))) (ty := .int) (C := RX9) (T := TX9) (N := 19) hx hb hts wfX9 tyX9 tyX9_ok nmX9 hown hK.1 hP hD hS 0 rfl rfl 16 (by decide) (hts _ wm826) (fun _ h9 => h9) rfl (by decide +kernel) rfl rfl (Nat.le_of_ble_eq_true rfl) dX9_go_152 (fun H locs hP hD hS => ?_)
                      have hP : wP G [bMod G x xs xb xm xf xu xg xw kn bl ft vh vm vs ln th sp (q1 + 0) 1 b1 aS aB aM aO aU aG aW] H := hP
                      have hD : wD A [bMod G x xs xb xm xf xu xg xw kn bl ft vh vm vs ln th sp (q1 + 0) 1 b1 aS aB aM aO aU aG aW] := hD
                      refine lv_goto (tgt := 15) hx hb dX9_go_155 (by decide) ?_
                      exact ih15 (q1 + 0) 1 b1 (by omega) (by omega) (by omega) (by exact Or.inr ⟨rfl, by omega, by rw [Int.add_zero]; exact sc_err (by omega) hs0 (fun q => by unfold right at q; omega) (by omega)⟩) H _ _ hP hD hS (lv_sub hl [3] rfl)
                    · exfalso; omega
                · refine lv_iload_n hx hb dX9_go_106 rfl (lv_at hl 0 rfl) ?_
                  refine jv_if_eq (tgt := 117) hx hb dX9_go_107 (by decide) (by omega) (fun c_30 => ?_) (fun c_30 => ?_)
                  · refine lv_aload_n hx hb dX9_go_117 rfl (lv_at hl 3 rfl) ?_
                    refine va_get (ci := 9) (v := .int (jz b1)) (C := RX9) (T := TX9) (N := 19) hx hb hts wfX9 hown hK.1 hP 0 rfl rfl 18 (by decide) (hts _ wm828) (fun _ h9 => h9) rfl dX9_go_118 ?_
                    refine va_put (ci := 9) (v := .int (jz b1)) (ty := .int) (C := RX9) (T := TX9) (N := 19) hx hb hts wfX9 tyX9 tyX9_ok nmX9 hown hK.1 hP hD hS 0 rfl rfl 18 (by decide) (hts _ wm828) (fun _ h9 => h9) rfl (by decide +kernel) rfl rfl (Nat.le_of_ble_eq_true rfl) dX9_go_121 (fun H locs hP hD hS => ?_)
                    have hP : wP G [bMod G x xs xb xm xf xu xg xw kn bl ft vh vm vs ln th sp q1 w1 b1 aS aB aM aO aU aG aW] H := hP
                    have hD : wD A [bMod G x xs xb xm xf xu xg xw kn bl ft vh vm vs ln th sp q1 w1 b1 aS aB aM aO aU aG aW] := hD
                    refine lv_aload_n hx hb dX9_go_124 rfl (lv_at hl 3 rfl) ?_
                    refine lv_iload_n hx hb dX9_go_125 rfl (lv_at hl 0 rfl) ?_
                    refine jv_if_ne (tgt := 133) hx hb dX9_go_126 (by decide) (by omega) (fun c_31 => ?_) (fun c_31 => ?_)
                    · exfalso; omega
                    · refine jv_iconst hx hb dX9_go_129 ?_
                      refine lv_goto (tgt := 134) hx hb dX9_go_130 (by decide) ?_
                      refine va_put (ci := 9) (v := .int (jz 1)) (ty := .boolean) (C := RX9) (T := TX9) (N := 19) hx hb hts wfX9 tyX9 tyX9_ok nmX9 hown hK.1 hP hD hS 0 rfl rfl 17 (by decide) (hts _ wm827) (fun _ h9 => h9) rfl (by decide +kernel) (jz_nb (by omega)) (jz_fb (by omega)) (Nat.le_of_ble_eq_true rfl) dX9_go_134 (fun H locs hP hD hS => ?_)
                      have hP : wP G [bMod G x xs xb xm xf xu xg xw kn bl ft vh vm vs ln th sp q1 1 b1 aS aB aM aO aU aG aW] H := hP
                      have hD : wD A [bMod G x xs xb xm xf xu xg xw kn bl ft vh vm vs ln th sp q1 1 b1 aS aB aM aO aU aG aW] := hD
                      refine lv_aload_n hx hb dX9_go_137 rfl (lv_at hl 3 rfl) ?_
                      refine lv_dup hx hb dX9_go_138 rfl ?_
                      refine va_get (ci := 9) (v := .int (jz q1)) (C := RX9) (T := TX9) (N := 19) hx hb hts wfX9 hown hK.1 hP 0 rfl rfl 16 (by decide) (hts _ wm826) (fun _ h9 => h9) rfl dX9_go_139 ?_
                      refine lv_iload_n hx hb dX9_go_142 rfl (lv_at hl 0 rfl) ?_
                      refine jv_if_eq (tgt := 150) hx hb dX9_go_143 (by decide) (by omega) (fun c_32 => ?_) (fun c_32 => ?_)
                      · refine jv_iconst hx hb dX9_go_150 ?_
                        refine jv_iadd hx hb dX9_go_151 ?_
                        refine va_put (ci := 9) (v := .int (jz (q1 + 0))) (ty := .int) (C := RX9) (T := TX9) (N := 19) hx hb hts wfX9 tyX9 tyX9_ok nmX9 hown hK.1 hP hD hS 0 rfl rfl 16 (by decide) (hts _ wm826) (fun _ h9 => h9) rfl (by decide +kernel) rfl rfl (Nat.le_of_ble_eq_true rfl) dX9_go_152 (fun H locs hP hD hS => ?_)
                        have hP : wP G [bMod G x xs xb xm xf xu xg xw kn bl ft vh vm vs ln th sp (q1 + 0) 1 b1 aS aB aM aO aU aG aW] H := hP
                        have hD : wD A [bMod G x xs xb xm xf xu xg xw kn bl ft vh vm vs ln th sp (q1 + 0) 1 b1 aS aB aM aO aU aG aW] := hD
                        refine lv_goto (tgt := 15) hx hb dX9_go_155 (by decide) ?_
                        exact ih15 (q1 + 0) 1 b1 (by omega) (by omega) (by omega) (by exact Or.inr ⟨rfl, by omega, by rw [Int.add_zero]; exact sc_err (by omega) hs0 (fun q => by unfold right at q; omega) (by omega)⟩) H _ _ hP hD hS (lv_sub hl [3] rfl)
                      · exfalso; omega
                  · exfalso; omega
              · refine jv_iconst hx hb dX9_go_72 ?_
                refine lv_goto (tgt := 98) hx hb dX9_go_73 (by decide) ?_
                refine lv_istore_n (lv' := [(3, .int (jz 1)), (2, .int (jz (b1 + 1))), (1, .int (jz (aU q1))), (0, .ref x)]) hx hb dX9_go_98 rfl hl (by decide) rfl (fun ls hl => ?_)
                refine lv_aload_n hx hb dX9_go_99 rfl (lv_at hl 3 rfl) ?_
                refine lv_iload_n hx hb dX9_go_100 rfl (lv_at hl 2 rfl) ?_
                refine jv_bipush hx hb dX9_go_101 (by decide) ?_
                refine jv_icmp_ne (tgt := 117) hx hb dX9_go_103 (by decide) (by omega) (by omega) (fun c_33 => ?_) (fun c_33 => ?_)
                · refine lv_aload_n hx hb dX9_go_117 rfl (lv_at hl 3 rfl) ?_
                  refine va_get (ci := 9) (v := .int (jz b1)) (C := RX9) (T := TX9) (N := 19) hx hb hts wfX9 hown hK.1 hP 0 rfl rfl 18 (by decide) (hts _ wm828) (fun _ h9 => h9) rfl dX9_go_118 ?_
                  refine va_put (ci := 9) (v := .int (jz b1)) (ty := .int) (C := RX9) (T := TX9) (N := 19) hx hb hts wfX9 tyX9 tyX9_ok nmX9 hown hK.1 hP hD hS 0 rfl rfl 18 (by decide) (hts _ wm828) (fun _ h9 => h9) rfl (by decide +kernel) rfl rfl (Nat.le_of_ble_eq_true rfl) dX9_go_121 (fun H locs hP hD hS => ?_)
                  have hP : wP G [bMod G x xs xb xm xf xu xg xw kn bl ft vh vm vs ln th sp q1 w1 b1 aS aB aM aO aU aG aW] H := hP
                  have hD : wD A [bMod G x xs xb xm xf xu xg xw kn bl ft vh vm vs ln th sp q1 w1 b1 aS aB aM aO aU aG aW] := hD
                  refine lv_aload_n hx hb dX9_go_124 rfl (lv_at hl 3 rfl) ?_
                  refine lv_iload_n hx hb dX9_go_125 rfl (lv_at hl 0 rfl) ?_
                  refine jv_if_ne (tgt := 133) hx hb dX9_go_126 (by decide) (by omega) (fun c_34 => ?_) (fun c_34 => ?_)
                  · refine jv_iconst hx hb dX9_go_133 ?_
                    refine va_put (ci := 9) (v := .int (jz 0)) (ty := .boolean) (C := RX9) (T := TX9) (N := 19) hx hb hts wfX9 tyX9 tyX9_ok nmX9 hown hK.1 hP hD hS 0 rfl rfl 17 (by decide) (hts _ wm827) (fun _ h9 => h9) rfl (by decide +kernel) (jz_nb (by omega)) (jz_fb (by omega)) (Nat.le_of_ble_eq_true rfl) dX9_go_134 (fun H locs hP hD hS => ?_)
                    have hP : wP G [bMod G x xs xb xm xf xu xg xw kn bl ft vh vm vs ln th sp q1 0 b1 aS aB aM aO aU aG aW] H := hP
                    have hD : wD A [bMod G x xs xb xm xf xu xg xw kn bl ft vh vm vs ln th sp q1 0 b1 aS aB aM aO aU aG aW] := hD
                    refine lv_aload_n hx hb dX9_go_137 rfl (lv_at hl 3 rfl) ?_
                    refine lv_dup hx hb dX9_go_138 rfl ?_
                    refine va_get (ci := 9) (v := .int (jz q1)) (C := RX9) (T := TX9) (N := 19) hx hb hts wfX9 hown hK.1 hP 0 rfl rfl 16 (by decide) (hts _ wm826) (fun _ h9 => h9) rfl dX9_go_139 ?_
                    refine lv_iload_n hx hb dX9_go_142 rfl (lv_at hl 0 rfl) ?_
                    refine jv_if_eq (tgt := 150) hx hb dX9_go_143 (by decide) (by omega) (fun c_35 => ?_) (fun c_35 => ?_)
                    · exfalso; omega
                    · refine jv_iconst hx hb dX9_go_146 ?_
                      refine lv_goto (tgt := 151) hx hb dX9_go_147 (by decide) ?_
                      refine jv_iadd hx hb dX9_go_151 ?_
                      refine va_put (ci := 9) (v := .int (jz (q1 + 1))) (ty := .int) (C := RX9) (T := TX9) (N := 19) hx hb hts wfX9 tyX9 tyX9_ok nmX9 hown hK.1 hP hD hS 0 rfl rfl 16 (by decide) (hts _ wm826) (fun _ h9 => h9) rfl (by decide +kernel) rfl rfl (Nat.le_of_ble_eq_true rfl) dX9_go_152 (fun H locs hP hD hS => ?_)
                      have hP : wP G [bMod G x xs xb xm xf xu xg xw kn bl ft vh vm vs ln th sp (q1 + 1) 0 b1 aS aB aM aO aU aG aW] H := hP
                      have hD : wD A [bMod G x xs xb xm xf xu xg xw kn bl ft vh vm vs ln th sp (q1 + 1) 0 b1 aS aB aM aO aU aG aW] := hD
                      refine lv_goto (tgt := 15) hx hb dX9_go_155 (by decide) ?_
                      exact ih15 (q1 + 1) 0 b1 (by omega) (by omega) (by omega) (by first | (exfalso; omega) | (have q9 := sc_ok (by omega) hs0 (show right aU q1 b1 from Or.inl ⟨by omega, by omega, by omega⟩); rw [if_neg (by omega)] at q9; exact Or.inl ⟨rfl, q9⟩)) H _ _ hP hD hS (lv_sub hl [3] rfl)
                  · exfalso; omega
                · refine lv_iload_n hx hb dX9_go_106 rfl (lv_at hl 0 rfl) ?_
                  refine jv_if_eq (tgt := 117) hx hb dX9_go_107 (by decide) (by omega) (fun c_36 => ?_) (fun c_36 => ?_)
                  · exfalso; omega
                  · refine lv_aload_n hx hb dX9_go_110 rfl (lv_at hl 3 rfl) ?_
                    refine va_get (ci := 9) (v := .int (jz q1)) (C := RX9) (T := TX9) (N := 19) hx hb hts wfX9 hown hK.1 hP 0 rfl rfl 16 (by decide) (hts _ wm826) (fun _ h9 => h9) rfl dX9_go_111 ?_
                    refine lv_goto (tgt := 121) hx hb dX9_go_114 (by decide) ?_
                    refine va_put (ci := 9) (v := .int (jz q1)) (ty := .int) (C := RX9) (T := TX9) (N := 19) hx hb hts wfX9 tyX9 tyX9_ok nmX9 hown hK.1 hP hD hS 0 rfl rfl 18 (by decide) (hts _ wm828) (fun _ h9 => h9) rfl (by decide +kernel) rfl rfl (Nat.le_of_ble_eq_true rfl) dX9_go_121 (fun H locs hP hD hS => ?_)
                    have hP : wP G [bMod G x xs xb xm xf xu xg xw kn bl ft vh vm vs ln th sp q1 w1 q1 aS aB aM aO aU aG aW] H := hP
                    have hD : wD A [bMod G x xs xb xm xf xu xg xw kn bl ft vh vm vs ln th sp q1 w1 q1 aS aB aM aO aU aG aW] := hD
                    refine lv_aload_n hx hb dX9_go_124 rfl (lv_at hl 3 rfl) ?_
                    refine lv_iload_n hx hb dX9_go_125 rfl (lv_at hl 0 rfl) ?_
                    refine jv_if_ne (tgt := 133) hx hb dX9_go_126 (by decide) (by omega) (fun c_37 => ?_) (fun c_37 => ?_)
                    · refine jv_iconst hx hb dX9_go_133 ?_
                      refine va_put (ci := 9) (v := .int (jz 0)) (ty := .boolean) (C := RX9) (T := TX9) (N := 19) hx hb hts wfX9 tyX9 tyX9_ok nmX9 hown hK.1 hP hD hS 0 rfl rfl 17 (by decide) (hts _ wm827) (fun _ h9 => h9) rfl (by decide +kernel) (jz_nb (by omega)) (jz_fb (by omega)) (Nat.le_of_ble_eq_true rfl) dX9_go_134 (fun H locs hP hD hS => ?_)
                      have hP : wP G [bMod G x xs xb xm xf xu xg xw kn bl ft vh vm vs ln th sp q1 0 q1 aS aB aM aO aU aG aW] H := hP
                      have hD : wD A [bMod G x xs xb xm xf xu xg xw kn bl ft vh vm vs ln th sp q1 0 q1 aS aB aM aO aU aG aW] := hD
                      refine lv_aload_n hx hb dX9_go_137 rfl (lv_at hl 3 rfl) ?_
                      refine lv_dup hx hb dX9_go_138 rfl ?_
                      refine va_get (ci := 9) (v := .int (jz q1)) (C := RX9) (T := TX9) (N := 19) hx hb hts wfX9 hown hK.1 hP 0 rfl rfl 16 (by decide) (hts _ wm826) (fun _ h9 => h9) rfl dX9_go_139 ?_
                      refine lv_iload_n hx hb dX9_go_142 rfl (lv_at hl 0 rfl) ?_
                      refine jv_if_eq (tgt := 150) hx hb dX9_go_143 (by decide) (by omega) (fun c_38 => ?_) (fun c_38 => ?_)
                      · exfalso; omega
                      · refine jv_iconst hx hb dX9_go_146 ?_
                        refine lv_goto (tgt := 151) hx hb dX9_go_147 (by decide) ?_
                        refine jv_iadd hx hb dX9_go_151 ?_
                        refine va_put (ci := 9) (v := .int (jz (q1 + 1))) (ty := .int) (C := RX9) (T := TX9) (N := 19) hx hb hts wfX9 tyX9 tyX9_ok nmX9 hown hK.1 hP hD hS 0 rfl rfl 16 (by decide) (hts _ wm826) (fun _ h9 => h9) rfl (by decide +kernel) rfl rfl (Nat.le_of_ble_eq_true rfl) dX9_go_152 (fun H locs hP hD hS => ?_)
                        have hP : wP G [bMod G x xs xb xm xf xu xg xw kn bl ft vh vm vs ln th sp (q1 + 1) 0 q1 aS aB aM aO aU aG aW] H := hP
                        have hD : wD A [bMod G x xs xb xm xf xu xg xw kn bl ft vh vm vs ln th sp (q1 + 1) 0 q1 aS aB aM aO aU aG aW] := hD
                        refine lv_goto (tgt := 15) hx hb dX9_go_155 (by decide) ?_
                        exact ih15 (q1 + 1) 0 q1 (by omega) (by omega) (by omega) (by first | (exfalso; omega) | (have q9 := sc_ok (by omega) hs0 (show right aU q1 b1 from Or.inl ⟨by omega, by omega, by omega⟩); rw [if_neg (by omega)] at q9; exact Or.inl ⟨rfl, q9⟩)) H _ _ hP hD hS (lv_sub hl [3] rfl)
                    · exfalso; omega
    exact K15 (((2 * (ln - 0) + (1 - 0)).toNat) + 1) 0 0 ((-1)) (Nat.lt_succ_self _) (by omega) (by omega) (by exact Or.inl ⟨rfl, rfl⟩) H _ _ hP hD hS (lv_sub hl [0] rfl)
  exact KH s.heap [] hP hD hS
abbrev rmX9_load_E : Room := { frames := 2, cells := 0, slots := 0, locals := 45 }
set_option maxHeartbeats 4000000 in
set_option maxRecDepth 100000 in
theorem mX9_load_E (l : Launch) (G : GG) (x : Nat) (xs : Nat) (xb : Nat) (xm : Nat) (xf : Nat) (xu : Nat) (xg : Nat) (xw : Nat) (kn : Int) (bl : Int) (ft : Int) (vh : Int) (vm : Int) (vs : Int) (ln : Int) (th : Int) (sp : Int) (pl : Int) (wr : Int) (br : Int) (aS : Int → Int) (aB : Int → Int) (aM : Int → Int) (aO : Int → Int) (aU : Int → Int) (aG : Int → Int) (aW : Int → Int) (hln : 0 ≤ ln ∧ ln ≤ 60) (hbu : ∀ x : Int, 0 ≤ x → x < ln → 33 ≤ aU x ∧ aU x ≤ 126) (hs2 : 2 ≤ aS 2 ∧ aS 2 ≤ 4) (hE : ¬ (((sc aU ln).1 = ln ∧ 0 ≤ (sc aU ln).2) ∧ (∀ y : Int, 0 ≤ y → y < ln → aU y ≠ 124 → aU y - 97 < aS 2))) : Ct l yX9_load cX9_load 4 (some .int) rmX9_load_E G [.ref x] [bMod G x xs xb xm xf xu xg xw kn bl ft vh vm vs ln th sp pl wr br aS aB aM aO aU aG aW] (fun uo : Int × Int × Int => some (.int (jz 0))) (fun uo => True) (fun uo => [bMod G x xs xb xm xf xu xg xw kn bl ft vh vm vs ln 1 sp uo.1 uo.2.1 uo.2.2 aS aB aM aO aU aG aW]) := by
  refine cof (by decide) (Nat.le_of_ble_eq_true rfl) ?_
  intro p e s m args below meth c A ls hx hb hr hml hown hts hlocks hin hA hK hP hD hS hl Q hQ
  have hown : s.vm.findClass RX9 = some m.cls := hown
  have hl : lv_has ls 4 [(0, .ref x)] := hl
  have KH : ∀ (H : Heap) (locs : List Loc), wP G [bMod G x xs xb xm xf xu xg xw kn bl ft vh vm vs ln th sp pl wr br aS aB aM aO aU aG aW] H → wD A [bMod G x xs xb xm xf xu xg xw kn bl ft vh vm vs ln th sp pl wr br aS aB aM aO aU aG aW] → va_S A s.heap H locs → W p l e rmX9_load_E s m args below meth c H locs 0 0 Q (F0 m 0 ls []) := by
    intro H locs hP hD hS
    refine lv_aload_n hx hb dX9_load_0 rfl (lv_at hl 0 rfl) ?_
    refine jv_iconst hx hb dX9_load_1 ?_
    refine va_put (ci := 9) (v := .int (jz 0)) (ty := .int) (C := RX9) (T := TX9) (N := 19) hx hb hts wfX9 tyX9 tyX9_ok nmX9 hown hK.1 hP hD hS 0 rfl rfl 12 (by decide) (hts _ wm822) (fun _ h9 => h9) rfl (by decide +kernel) rfl rfl (Nat.le_of_ble_eq_true rfl) dX9_load_2 (fun H locs hP hD hS => ?_)
    have hP : wP G [bMod G x xs xb xm xf xu xg xw kn bl ft vh vm vs ln 0 sp pl wr br aS aB aM aO aU aG aW] H := hP
    have hD : wD A [bMod G x xs xb xm xf xu xg xw kn bl ft vh vm vs ln 0 sp pl wr br aS aB aM aO aU aG aW] := hD
    refine lv_aload_n hx hb dX9_load_5 rfl (lv_at hl 0 rfl) ?_
    refine kV ⟨hx, hb, hml, hown, hts⟩ hK hA hS hP hD [] [] (mX9_go l G x xs xb xm xf xu xg xw kn bl ft vh vm vs ln 0 sp pl wr br aS aB aM aO aU aG aW (by omega) (by omega)) lkX9_95 [0] [] (br := []) rfl rfl (by decide) 0 9 rfl rfl rfl rfl (Nat.le_of_ble_eq_true rfl) hl.1 dX9_load_6 ⟨Nat.le_of_ble_eq_true rfl, Nat.le_of_ble_eq_true rfl⟩ ⟨Nat.le_of_ble_eq_true rfl, Nat.le_of_ble_eq_true rfl⟩ (fun u9 H locs hp9 hP hD hS => ?_)
    obtain ⟨u_1, u_2, u_3⟩ := u9
    have hc_4 : sc aU ln = (u_1, u_3) := hp9.1
    have hd_5 : (u_2 = 0 ∧ u_1 = ln) ∨ (u_2 = 1 ∧ u_1 < ln) := hp9.2
    have hP : wP G [bMod G x xs xb xm xf xu xg xw kn bl ft vh vm vs ln 0 sp u_1 u_2 u_3 aS aB aM aO aU aG aW] H := hP
    have hD : wD A [bMod G x xs xb xm xf xu xg xw kn bl ft vh vm vs ln 0 sp u_1 u_2 u_3 aS aB aM aO aU aG aW] := hD
    show W p l e rmX9_load_E s m args below meth c H locs 0 0 Q (F0 m 9 ls [])
    have hgc := hc_4
    have hgd := hd_5
    have hg9 := sc_good aU (by omega) hgc
    obtain ⟨hg1, hg2, hg3, hg4, hg5, hg6, hg7, hg8⟩ := hg9
    refine lv_aload_n hx hb dX9_load_9 rfl (lv_at hl 0 rfl) ?_
    refine va_get (ci := 9) (v := .int (jz u_2)) (C := RX9) (T := TX9) (N := 19) hx hb hts wfX9 hown hK.1 hP 0 rfl rfl 17 (by decide) (hts _ wm827) (fun _ h9 => h9) rfl dX9_load_10 ?_
    refine jv_if_ne (tgt := 23) hx hb dX9_load_13 (by decide) (by omega) (fun c_6 => ?_) (fun c_6 => ?_)
    · refine lv_aload_n hx hb dX9_load_23 rfl (lv_at hl 0 rfl) ?_
      refine jv_iconst hx hb dX9_load_24 ?_
      refine kV ⟨hx, hb, hml, hown, hts⟩ hK hA hS hP hD [.int (jz 1)] [] (mX9_throwing l G x xs xb xm xf xu xg xw kn bl ft vh vm vs ln 0 sp u_1 u_2 u_3 aS aB aM aO aU aG aW 1 ) lkX9_98 [0] [] (br := []) rfl rfl (by decide) 0 9 rfl rfl rfl rfl (Nat.le_of_ble_eq_true rfl) hl.1 dX9_load_25 ⟨Nat.le_of_ble_eq_true rfl, Nat.le_of_ble_eq_true rfl⟩ ⟨Nat.le_of_ble_eq_true rfl, Nat.le_of_ble_eq_true rfl⟩ (fun u9 H locs hp9 hP hD hS => ?_)
      have hP : wP G [bMod G x xs xb xm xf xu xg xw kn bl ft vh vm vs ln 1 sp u_1 u_2 u_3 aS aB aM aO aU aG aW] H := hP
      have hD : wD A [bMod G x xs xb xm xf xu xg xw kn bl ft vh vm vs ln 1 sp u_1 u_2 u_3 aS aB aM aO aU aG aW] := hD
      show W p l e rmX9_load_E s m args below meth c H locs 0 0 Q (F0 m 28 ls [.int (jz 0)])
      exact cret_i hx hb hr hlocks hS hP hD (Nat.le_of_ble_eq_true rfl) (Nat.le_of_ble_eq_true rfl) rfl dX9_load_28 [0] (by decide) ⟨u_1, u_2, u_3⟩ rfl trivial (congrArg (fun z : Int => some (Value.int (jz z))) (show 0 = 0 from by first | rfl | omega | (split <;> first | rfl | omega | (exfalso; omega)))) hQ
    · refine lv_aload_n hx hb dX9_load_16 rfl (lv_at hl 0 rfl) ?_
      refine va_get (ci := 9) (v := .int (jz u_3)) (C := RX9) (T := TX9) (N := 19) hx hb hts wfX9 hown hK.1 hP 0 rfl rfl 18 (by decide) (hts _ wm828) (fun _ h9 => h9) rfl dX9_load_17 ?_
      refine jv_if_ge (tgt := 29) hx hb dX9_load_20 (by decide) (by omega) (fun c_8 => ?_) (fun c_8 => ?_)
      · refine jv_iconst hx hb dX9_load_29 ?_
        refine lv_istore_n (lv' := [(1, .int (jz 0)), (0, .ref x)]) hx hb dX9_load_30 rfl hl (by decide) rfl (fun ls hl => ?_)
        have K31 : ∀ (n9 : Nat) (k : Int) , ((ln - k).toNat) < n9 → (0 ≤ k ∧ k ≤ ln) → (∀ y : Int, 0 ≤ y → y < k → aU y ≠ 124 → aU y - 97 < aS 2) → ∀ (H : Heap) (locs : List Loc) (ls : Array Slot), wP G [bMod G x xs xb xm xf xu xg xw kn bl ft vh vm vs ln 0 sp u_1 u_2 u_3 aS aB aM aO aU aG aW] H → wD A [bMod G x xs xb xm xf xu xg xw kn bl ft vh vm vs ln 0 sp u_1 u_2 u_3 aS aB aM aO aU aG aW] → va_S A s.heap H locs → lv_has ls 4 [(0, .ref x), (1, .int (jz k))] → W p l e rmX9_load_E s m args below meth c H locs 0 0 Q (F0 m 31 ls []) := by
          intro n9
          induction n9 with
          | zero => intro k hm9; exact absurd hm9 (Nat.not_lt_zero _)
          | succ n9 ih31 =>
            intro k hm9 hk hs H locs ls hP hD hS hl
            refine lv_iload_n hx hb dX9_load_31 rfl (lv_at hl 1 rfl) ?_
            refine lv_aload_n hx hb dX9_load_32 rfl (lv_at hl 0 rfl) ?_
            refine va_get (ci := 9) (v := .int (jz ln)) (C := RX9) (T := TX9) (N := 19) hx hb hts wfX9 hown hK.1 hP 0 rfl rfl 11 (by decide) (hts _ wm821) (fun _ h9 => h9) rfl dX9_load_33 ?_
            refine jv_icmp_ge (tgt := 75) hx hb dX9_load_36 (by decide) (by omega) (by omega) (fun c_9 => ?_) (fun c_9 => ?_)
            · exact absurd ⟨⟨by rw [hgc]; show u_1 = ln; omega, by rw [hgc]; show 0 ≤ u_3; omega⟩, fun y h1 h2 => hs y h1 (by omega)⟩ hE
            · refine lv_iload_n hx hb dX9_load_39 rfl (lv_at hl 1 rfl) ?_
              refine lv_aload_n hx hb dX9_load_40 rfl (lv_at hl 0 rfl) ?_
              refine va_get (ci := 9) (v := .int (jz u_3)) (C := RX9) (T := TX9) (N := 19) hx hb hts wfX9 hown hK.1 hP 0 rfl rfl 18 (by decide) (hts _ wm828) (fun _ h9 => h9) rfl dX9_load_41 ?_
              refine jv_icmp_eq (tgt := 69) hx hb dX9_load_44 (by decide) (by omega) (by omega) (fun c_10 => ?_) (fun c_10 => ?_)
              · refine jv_iinc (lv' := [(1, .int (jz (k + 1))), (0, .ref x)]) (k := 1) hx hb dX9_load_69 hl rfl (by decide) rfl (fun ls hl => ?_)
                refine lv_goto (tgt := 31) hx hb dX9_load_72 (by decide) ?_
                exact ih31 (k + 1) (by omega) (by omega) (by intro y h1 h2 h3; if e1 : y = k then (rw [e1] at h3 ⊢; first | omega | (exfalso; rw [show k = u_3 by omega] at h3; exact h3 (hg7 (by omega)))) else exact hs y h1 (by omega) h3) H _ _ hP hD hS (lv_sub hl [1, 0] rfl)
              · have hb9 := hbu k (by omega) (by omega)
                refine lv_aload_n hx hb dX9_load_47 rfl (lv_at hl 0 rfl) ?_
                refine lv_aload_n hx hb dX9_load_48 rfl (lv_at hl 0 rfl) ?_
                refine va_get (ci := 9) (v := .ref xu) (C := RX9) (T := TX9) (N := 19) hx hb hts wfX9 hown hK.1 hP 0 rfl rfl 10 (by decide) (hts _ wm820) (fun _ h9 => h9) rfl dX9_load_49 ?_
                refine lv_iload_n hx hb dX9_load_52 rfl (lv_at hl 1 rfl) ?_
                refine jv_iald hx hb hK.1 hP 5 (g := aU) rfl (by omega) (by omega) (by decide) dX9_load_53 ?_
                refine jv_bipush hx hb dX9_load_54 (by decide) ?_
                refine jv_isub hx hb dX9_load_56 ?_
                refine kV ⟨hx, hb, hml, hown, hts⟩ hK hA hS hP hD [.int (jz ((aU k) - 97))] [] (mX9_isLetter l G x xs xb xm xf xu xg xw kn bl ft vh vm vs ln 0 sp u_1 u_2 u_3 aS aB aM aO aU aG aW ((aU k) - 97) (by omega) (by omega)) lkX9_102 [0] [] (br := []) rfl rfl (by decide) 0 9 rfl rfl rfl rfl (Nat.le_of_ble_eq_true rfl) hl.1 dX9_load_57 ⟨Nat.le_of_ble_eq_true rfl, Nat.le_of_ble_eq_true rfl⟩ ⟨Nat.le_of_ble_eq_true rfl, Nat.le_of_ble_eq_true rfl⟩ (fun u9 H locs hp9 hP hD hS => ?_)
                have hP : wP G [bMod G x xs xb xm xf xu xg xw kn bl ft vh vm vs ln 0 sp u_1 u_2 u_3 aS aB aM aO aU aG aW] H := hP
                have hD : wD A [bMod G x xs xb xm xf xu xg xw kn bl ft vh vm vs ln 0 sp u_1 u_2 u_3 aS aB aM aO aU aG aW] := hD
                show W p l e rmX9_load_E s m args below meth c H locs 0 0 Q (F0 m 60 ls [.int (jz (if 0 ≤ ((aU k) - 97) ∧ ((aU k) - 97) < aS 2 then 1 else 0))])
                refine jv_top (fun r_12 er_12 => ?_)
                refine jv_if_ne (tgt := 69) hx hb dX9_load_60 (by decide) (by rw [er_12]; split <;> omega) (fun c_13 => ?_) (fun c_13 => ?_)
                · have hlt9 : aU k - 97 < aS 2 := by have q9 := er_12; split at q9 <;> omega
                  refine jv_iinc (lv' := [(1, .int (jz (k + 1))), (0, .ref x)]) (k := 1) hx hb dX9_load_69 hl rfl (by decide) rfl (fun ls hl => ?_)
                  refine lv_goto (tgt := 31) hx hb dX9_load_72 (by decide) ?_
                  exact ih31 (k + 1) (by omega) (by omega) (by intro y h1 h2 h3; if e1 : y = k then (rw [e1] at h3 ⊢; first | omega | (exfalso; rw [show k = u_3 by omega] at h3; exact h3 (hg7 (by omega)))) else exact hs y h1 (by omega) h3) H _ _ hP hD hS (lv_sub hl [1, 0] rfl)
                · refine lv_aload_n hx hb dX9_load_63 rfl (lv_at hl 0 rfl) ?_
                  refine jv_iconst hx hb dX9_load_64 ?_
                  refine kV ⟨hx, hb, hml, hown, hts⟩ hK hA hS hP hD [.int (jz 1)] [] (mX9_throwing l G x xs xb xm xf xu xg xw kn bl ft vh vm vs ln 0 sp u_1 u_2 u_3 aS aB aM aO aU aG aW 1 ) lkX9_98 [0] [] (br := []) rfl rfl (by decide) 0 9 rfl rfl rfl rfl (Nat.le_of_ble_eq_true rfl) hl.1 dX9_load_65 ⟨Nat.le_of_ble_eq_true rfl, Nat.le_of_ble_eq_true rfl⟩ ⟨Nat.le_of_ble_eq_true rfl, Nat.le_of_ble_eq_true rfl⟩ (fun u9 H locs hp9 hP hD hS => ?_)
                  have hP : wP G [bMod G x xs xb xm xf xu xg xw kn bl ft vh vm vs ln 1 sp u_1 u_2 u_3 aS aB aM aO aU aG aW] H := hP
                  have hD : wD A [bMod G x xs xb xm xf xu xg xw kn bl ft vh vm vs ln 1 sp u_1 u_2 u_3 aS aB aM aO aU aG aW] := hD
                  show W p l e rmX9_load_E s m args below meth c H locs 0 0 Q (F0 m 68 ls [.int (jz 0)])
                  exact cret_i hx hb hr hlocks hS hP hD (Nat.le_of_ble_eq_true rfl) (Nat.le_of_ble_eq_true rfl) rfl dX9_load_68 [0] (by decide) ⟨u_1, u_2, u_3⟩ rfl trivial (congrArg (fun z : Int => some (Value.int (jz z))) (show 0 = 0 from by first | rfl | omega | (split <;> first | rfl | omega | (exfalso; omega)))) hQ
        exact K31 (((ln - 0).toNat) + 1) 0 (Nat.lt_succ_self _) (by omega) (by intro y h1 h2; omega) H _ _ hP hD hS (lv_sub hl [1, 0] rfl)
      · refine lv_aload_n hx hb dX9_load_23 rfl (lv_at hl 0 rfl) ?_
        refine jv_iconst hx hb dX9_load_24 ?_
        refine kV ⟨hx, hb, hml, hown, hts⟩ hK hA hS hP hD [.int (jz 1)] [] (mX9_throwing l G x xs xb xm xf xu xg xw kn bl ft vh vm vs ln 0 sp u_1 u_2 u_3 aS aB aM aO aU aG aW 1 ) lkX9_98 [0] [] (br := []) rfl rfl (by decide) 0 9 rfl rfl rfl rfl (Nat.le_of_ble_eq_true rfl) hl.1 dX9_load_25 ⟨Nat.le_of_ble_eq_true rfl, Nat.le_of_ble_eq_true rfl⟩ ⟨Nat.le_of_ble_eq_true rfl, Nat.le_of_ble_eq_true rfl⟩ (fun u9 H locs hp9 hP hD hS => ?_)
        have hP : wP G [bMod G x xs xb xm xf xu xg xw kn bl ft vh vm vs ln 1 sp u_1 u_2 u_3 aS aB aM aO aU aG aW] H := hP
        have hD : wD A [bMod G x xs xb xm xf xu xg xw kn bl ft vh vm vs ln 1 sp u_1 u_2 u_3 aS aB aM aO aU aG aW] := hD
        show W p l e rmX9_load_E s m args below meth c H locs 0 0 Q (F0 m 28 ls [.int (jz 0)])
        exact cret_i hx hb hr hlocks hS hP hD (Nat.le_of_ble_eq_true rfl) (Nat.le_of_ble_eq_true rfl) rfl dX9_load_28 [0] (by decide) ⟨u_1, u_2, u_3⟩ rfl trivial (congrArg (fun z : Int => some (Value.int (jz z))) (show 0 = 0 from by first | rfl | omega | (split <;> first | rfl | omega | (exfalso; omega)))) hQ
  exact KH s.heap [] hP hD hS
abbrev rmX9_load : Room := { frames := 2, cells := 0, slots := 0, locals := 45 }
set_option maxHeartbeats 4000000 in
set_option maxRecDepth 100000 in
theorem mX9_load (l : Launch) (G : GG) (x : Nat) (xs : Nat) (xb : Nat) (xm : Nat) (xf : Nat) (xu : Nat) (xg : Nat) (xw : Nat) (kn : Int) (bl : Int) (ft : Int) (vh : Int) (vm : Int) (vs : Int) (ln : Int) (th : Int) (sp : Int) (pl : Int) (wr : Int) (br : Int) (aS : Int → Int) (aB : Int → Int) (aM : Int → Int) (aO : Int → Int) (aU : Int → Int) (aG : Int → Int) (aW : Int → Int) (b : Int) (hln : 0 ≤ ln ∧ ln ≤ 60) (hbu : ∀ x : Int, 0 ≤ x → x < ln → 33 ≤ aU x ∧ aU x ≤ 126) (hs2 : 2 ≤ aS 2 ∧ aS 2 ≤ 4) (hkn : 0 ≤ kn ∧ kn ≤ 6) (hE : sc aU ln = (ln, b)) (hb0 : 0 ≤ b) (hK9 : ∀ y : Int, 0 ≤ y → y < ln → aU y ≠ 124 → aU y - 97 < aS 2) : Ct l yX9_load cX9_load 4 (some .int) rmX9_load G [.ref x] [bMod G x xs xb xm xf xu xg xw kn bl ft vh vm vs ln th sp pl wr br aS aB aM aO aU aG aW] (fun uo : Int × (Int → Int) × (Int → Int) × Int × Int × Int => some (.int (jz (b + (ln - b - 1))))) (fun uo => ((uo.1 = min (kn + 1) 6) ∧ (∀ k : Int, 0 ≤ k → k < 43 * (uo.1 - 1) → uo.2.1 k = aB (k + 43 * (kn + 1 - uo.1))) ∧ (∀ k : Int, 0 ≤ k → k < 43 → uo.2.1 (43 * (uo.1 - 1) + k) = aS k)) ∧ (uo.2.2.1 0 = b ∧ uo.2.2.1 1 = ln - b - 1 ∧ uo.2.2.1 2 = aS 2) ∧ (∀ q : Int, 0 ≤ q → q < 40 → uo.2.2.1 (3 + q) = ldF b ln aU q)) (fun uo => [bMod G x xs xb xm xf xu xg xw uo.1 bl ft vh vm vs 0 0 sp uo.2.2.2.1 uo.2.2.2.2.1 uo.2.2.2.2.2 uo.2.2.1 uo.2.1 aM aO aU aG aW]) := by
  refine cof (by decide) (Nat.le_of_ble_eq_true rfl) ?_
  intro p e s m args below meth c A ls hx hb hr hml hown hts hlocks hin hA hK hP hD hS hl Q hQ
  have hown : s.vm.findClass RX9 = some m.cls := hown
  have hl : lv_has ls 4 [(0, .ref x)] := hl
  have KH : ∀ (H : Heap) (locs : List Loc), wP G [bMod G x xs xb xm xf xu xg xw kn bl ft vh vm vs ln th sp pl wr br aS aB aM aO aU aG aW] H → wD A [bMod G x xs xb xm xf xu xg xw kn bl ft vh vm vs ln th sp pl wr br aS aB aM aO aU aG aW] → va_S A s.heap H locs → W p l e rmX9_load s m args below meth c H locs 0 0 Q (F0 m 0 ls []) := by
    intro H locs hP hD hS
    have hg9 := sc_good aU (by omega) hE
    obtain ⟨hg1, hg2, hg3, hg4, hg5, hg6, hg7, hg8⟩ := hg9
    refine lv_aload_n hx hb dX9_load_0 rfl (lv_at hl 0 rfl) ?_
    refine jv_iconst hx hb dX9_load_1 ?_
    refine va_put (ci := 9) (v := .int (jz 0)) (ty := .int) (C := RX9) (T := TX9) (N := 19) hx hb hts wfX9 tyX9 tyX9_ok nmX9 hown hK.1 hP hD hS 0 rfl rfl 12 (by decide) (hts _ wm822) (fun _ h9 => h9) rfl (by decide +kernel) rfl rfl (Nat.le_of_ble_eq_true rfl) dX9_load_2 (fun H locs hP hD hS => ?_)
    have hP : wP G [bMod G x xs xb xm xf xu xg xw kn bl ft vh vm vs ln 0 sp pl wr br aS aB aM aO aU aG aW] H := hP
    have hD : wD A [bMod G x xs xb xm xf xu xg xw kn bl ft vh vm vs ln 0 sp pl wr br aS aB aM aO aU aG aW] := hD
    refine lv_aload_n hx hb dX9_load_5 rfl (lv_at hl 0 rfl) ?_
    refine kV ⟨hx, hb, hml, hown, hts⟩ hK hA hS hP hD [] [] (mX9_go l G x xs xb xm xf xu xg xw kn bl ft vh vm vs ln 0 sp pl wr br aS aB aM aO aU aG aW (by omega) (by omega)) lkX9_95 [0] [] (br := []) rfl rfl (by decide) 0 9 rfl rfl rfl rfl (Nat.le_of_ble_eq_true rfl) hl.1 dX9_load_6 ⟨Nat.le_of_ble_eq_true rfl, Nat.le_of_ble_eq_true rfl⟩ ⟨Nat.le_of_ble_eq_true rfl, Nat.le_of_ble_eq_true rfl⟩ (fun u9 H locs hp9 hP hD hS => ?_)
    obtain ⟨u_1, u_2, u_3⟩ := u9
    have hc_4 : sc aU ln = (u_1, u_3) := hp9.1
    have hd_5 : (u_2 = 0 ∧ u_1 = ln) ∨ (u_2 = 1 ∧ u_1 < ln) := hp9.2
    have hP : wP G [bMod G x xs xb xm xf xu xg xw kn bl ft vh vm vs ln 0 sp u_1 u_2 u_3 aS aB aM aO aU aG aW] H := hP
    have hD : wD A [bMod G x xs xb xm xf xu xg xw kn bl ft vh vm vs ln 0 sp u_1 u_2 u_3 aS aB aM aO aU aG aW] := hD
    show W p l e rmX9_load s m args below meth c H locs 0 0 Q (F0 m 9 ls [])
    have hgc : (ln, b) = (u_1, u_3) := hE.symm.trans hc_4
    obtain ⟨hq1, hq2⟩ := Prod.mk.inj hgc
    have hgd := hd_5
    refine lv_aload_n hx hb dX9_load_9 rfl (lv_at hl 0 rfl) ?_
    refine va_get (ci := 9) (v := .int (jz u_2)) (C := RX9) (T := TX9) (N := 19) hx hb hts wfX9 hown hK.1 hP 0 rfl rfl 17 (by decide) (hts _ wm827) (fun _ h9 => h9) rfl dX9_load_10 ?_
    refine jv_if_ne (tgt := 23) hx hb dX9_load_13 (by decide) (by omega) (fun c_6 => ?_) (fun c_6 => ?_)
    · exfalso; omega
    · refine lv_aload_n hx hb dX9_load_16 rfl (lv_at hl 0 rfl) ?_
      refine va_get (ci := 9) (v := .int (jz u_3)) (C := RX9) (T := TX9) (N := 19) hx hb hts wfX9 hown hK.1 hP 0 rfl rfl 18 (by decide) (hts _ wm828) (fun _ h9 => h9) rfl dX9_load_17 ?_
      refine jv_if_ge (tgt := 29) hx hb dX9_load_20 (by decide) (by omega) (fun c_7 => ?_) (fun c_7 => ?_)
      · refine jv_iconst hx hb dX9_load_29 ?_
        refine lv_istore_n (lv' := [(1, .int (jz 0)), (0, .ref x)]) hx hb dX9_load_30 rfl hl (by decide) rfl (fun ls hl => ?_)
        have K31 : ∀ (n9 : Nat) (k : Int) , ((ln - k).toNat) < n9 → (0 ≤ k ∧ k ≤ ln) → ∀ (H : Heap) (locs : List Loc) (ls : Array Slot), wP G [bMod G x xs xb xm xf xu xg xw kn bl ft vh vm vs ln 0 sp u_1 u_2 u_3 aS aB aM aO aU aG aW] H → wD A [bMod G x xs xb xm xf xu xg xw kn bl ft vh vm vs ln 0 sp u_1 u_2 u_3 aS aB aM aO aU aG aW] → va_S A s.heap H locs → lv_has ls 4 [(0, .ref x), (1, .int (jz k))] → W p l e rmX9_load s m args below meth c H locs 0 0 Q (F0 m 31 ls []) := by
          intro n9
          induction n9 with
          | zero => intro k hm9; exact absurd hm9 (Nat.not_lt_zero _)
          | succ n9 ih31 =>
            intro k hm9 hk H locs ls hP hD hS hl
            refine lv_iload_n hx hb dX9_load_31 rfl (lv_at hl 1 rfl) ?_
            refine lv_aload_n hx hb dX9_load_32 rfl (lv_at hl 0 rfl) ?_
            refine va_get (ci := 9) (v := .int (jz ln)) (C := RX9) (T := TX9) (N := 19) hx hb hts wfX9 hown hK.1 hP 0 rfl rfl 11 (by decide) (hts _ wm821) (fun _ h9 => h9) rfl dX9_load_33 ?_
            refine jv_icmp_ge (tgt := 75) hx hb dX9_load_36 (by decide) (by omega) (by omega) (fun c_8 => ?_) (fun c_8 => ?_)
            · refine lv_aload_n hx hb dX9_load_75 rfl (lv_at hl 0 rfl) ?_
              refine kV ⟨hx, hb, hml, hown, hts⟩ hK hA hS hP hD [] [] (mX9_save l G x xs xb xm xf xu xg xw kn bl ft vh vm vs ln 0 sp u_1 u_2 u_3 aS aB aM aO aU aG aW (by omega)) lkX9_106 [0] [] (br := []) rfl rfl (by decide) 0 9 rfl rfl rfl rfl (Nat.le_of_ble_eq_true rfl) hl.1 dX9_load_76 ⟨Nat.le_of_ble_eq_true rfl, Nat.le_of_ble_eq_true rfl⟩ ⟨Nat.le_of_ble_eq_true rfl, Nat.le_of_ble_eq_true rfl⟩ (fun u9 H locs hp9 hP hD hS => ?_)
              obtain ⟨u_9, u_10⟩ := u9
              have hc_11 : u_9 = min (kn + 1) 6 := hp9.1
              have hd_12 : ∀ k : Int, 0 ≤ k → k < 43 * (u_9 - 1) → u_10 k = aB (k + 43 * (kn + 1 - u_9)) := hp9.2.1
              have hf_13 : ∀ k : Int, 0 ≤ k → k < 43 → u_10 (43 * (u_9 - 1) + k) = aS k := hp9.2.2
              have hP : wP G [bMod G x xs xb xm xf xu xg xw u_9 bl ft vh vm vs ln 0 sp u_1 u_2 u_3 aS u_10 aM aO aU aG aW] H := hP
              have hD : wD A [bMod G x xs xb xm xf xu xg xw u_9 bl ft vh vm vs ln 0 sp u_1 u_2 u_3 aS u_10 aM aO aU aG aW] := hD
              show W p l e rmX9_load s m args below meth c H locs 0 0 Q (F0 m 79 ls [])
              have hsvp := And.intro hc_11 (And.intro hd_12 hf_13)
              refine lv_aload_n hx hb dX9_load_79 rfl (lv_at hl 0 rfl) ?_
              refine va_get (ci := 9) (v := .ref xs) (C := RX9) (T := TX9) (N := 19) hx hb hts wfX9 hown hK.1 hP 0 rfl rfl 0 (by decide) (hts _ wm810) (fun _ h9 => h9) rfl dX9_load_80 ?_
              refine jv_iconst hx hb dX9_load_83 ?_
              refine lv_aload_n hx hb dX9_load_84 rfl (lv_at hl 0 rfl) ?_
              refine va_get (ci := 9) (v := .int (jz u_3)) (C := RX9) (T := TX9) (N := 19) hx hb hts wfX9 hown hK.1 hP 0 rfl rfl 18 (by decide) (hts _ wm828) (fun _ h9 => h9) rfl dX9_load_85 ?_
              refine jv_iast hx hb hK.1 hP hD hS 1 (g := aS) rfl (by omega) (by omega) (by decide) dX9_load_88 (fun H locs hP hD hS => ?_)
              have hP : wP G [bMod G x xs xb xm xf xu xg xw u_9 bl ft vh vm vs ln 0 sp u_1 u_2 u_3 (up aS 0 u_3) u_10 aM aO aU aG aW] H := hP
              have hD : wD A [bMod G x xs xb xm xf xu xg xw u_9 bl ft vh vm vs ln 0 sp u_1 u_2 u_3 (up aS 0 u_3) u_10 aM aO aU aG aW] := hD
              refine lv_aload_n hx hb dX9_load_89 rfl (lv_at hl 0 rfl) ?_
              refine va_get (ci := 9) (v := .ref xs) (C := RX9) (T := TX9) (N := 19) hx hb hts wfX9 hown hK.1 hP 0 rfl rfl 0 (by decide) (hts _ wm810) (fun _ h9 => h9) rfl dX9_load_90 ?_
              refine jv_iconst hx hb dX9_load_93 ?_
              refine lv_aload_n hx hb dX9_load_94 rfl (lv_at hl 0 rfl) ?_
              refine va_get (ci := 9) (v := .int (jz ln)) (C := RX9) (T := TX9) (N := 19) hx hb hts wfX9 hown hK.1 hP 0 rfl rfl 11 (by decide) (hts _ wm821) (fun _ h9 => h9) rfl dX9_load_95 ?_
              refine lv_aload_n hx hb dX9_load_98 rfl (lv_at hl 0 rfl) ?_
              refine va_get (ci := 9) (v := .int (jz u_3)) (C := RX9) (T := TX9) (N := 19) hx hb hts wfX9 hown hK.1 hP 0 rfl rfl 18 (by decide) (hts _ wm828) (fun _ h9 => h9) rfl dX9_load_99 ?_
              refine jv_isub hx hb dX9_load_102 ?_
              refine jv_iconst hx hb dX9_load_103 ?_
              refine jv_isub hx hb dX9_load_104 ?_
              refine jv_iast hx hb hK.1 hP hD hS 1 (g := up aS 0 u_3) rfl (by omega) (by omega) (by decide) dX9_load_105 (fun H locs hP hD hS => ?_)
              have hP : wP G [bMod G x xs xb xm xf xu xg xw u_9 bl ft vh vm vs ln 0 sp u_1 u_2 u_3 (up (up aS 0 u_3) 1 ((ln - u_3) - 1)) u_10 aM aO aU aG aW] H := hP
              have hD : wD A [bMod G x xs xb xm xf xu xg xw u_9 bl ft vh vm vs ln 0 sp u_1 u_2 u_3 (up (up aS 0 u_3) 1 ((ln - u_3) - 1)) u_10 aM aO aU aG aW] := hD
              refine jv_iconst hx hb dX9_load_106 ?_
              refine lv_istore_n (lv' := [(1, .int (jz 0)), (0, .ref x)]) hx hb dX9_load_107 rfl hl (by decide) rfl (fun ls hl => ?_)
              have K108 : ∀ (n9 : Nat) (k : Int) (f : Int → Int) (kk : Int) (bb : Int → Int) (p9 : Int) (w9 : Int) (r9 : Int) , (((40 : Int) - k).toNat) < n9 → (0 ≤ k ∧ k ≤ 40) → (r9 = b) → ((kk = min (kn + 1) 6) ∧ (∀ k : Int, 0 ≤ k → k < 43 * (kk - 1) → bb k = aB (k + 43 * (kn + 1 - kk))) ∧ (∀ k : Int, 0 ≤ k → k < 43 → bb (43 * (kk - 1) + k) = aS k)) → (f 0 = b ∧ f 1 = ln - b - 1 ∧ f 2 = aS 2) → (∀ q : Int, 0 ≤ q → q < k → f (3 + q) = ldF b ln aU q) → ∀ (H : Heap) (locs : List Loc) (ls : Array Slot), wP G [bMod G x xs xb xm xf xu xg xw kk bl ft vh vm vs ln 0 sp p9 w9 r9 f bb aM aO aU aG aW] H → wD A [bMod G x xs xb xm xf xu xg xw kk bl ft vh vm vs ln 0 sp p9 w9 r9 f bb aM aO aU aG aW] → va_S A s.heap H locs → lv_has ls 4 [(0, .ref x), (1, .int (jz k))] → W p l e rmX9_load s m args below meth c H locs 0 0 Q (F0 m 108 ls []) := by
                intro n9
                induction n9 with
                | zero => intro k f kk bb p9 w9 r9 hm9; exact absurd hm9 (Nat.not_lt_zero _)
                | succ n9 ih108 =>
                  intro k f kk bb p9 w9 r9 hm9 hk9 hr9 hsv hf3 hf H locs ls hP hD hS hl
                  refine lv_iload_n hx hb dX9_load_108 rfl (lv_at hl 1 rfl) ?_
                  refine jv_bipush hx hb dX9_load_109 (by decide) ?_
                  refine jv_icmp_ge (tgt := 177) hx hb dX9_load_111 (by decide) (by omega) (by omega) (fun c_14 => ?_) (fun c_14 => ?_)
                  · refine lv_aload_n hx hb dX9_load_177 rfl (lv_at hl 0 rfl) ?_
                    refine jv_iconst hx hb dX9_load_178 ?_
                    refine va_put (ci := 9) (v := .int (jz 0)) (ty := .int) (C := RX9) (T := TX9) (N := 19) hx hb hts wfX9 tyX9 tyX9_ok nmX9 hown hK.1 hP hD hS 0 rfl rfl 11 (by decide) (hts _ wm821) (fun _ h9 => h9) rfl (by decide +kernel) rfl rfl (Nat.le_of_ble_eq_true rfl) dX9_load_179 (fun H locs hP hD hS => ?_)
                    have hP : wP G [bMod G x xs xb xm xf xu xg xw kk bl ft vh vm vs 0 0 sp p9 w9 r9 f bb aM aO aU aG aW] H := hP
                    have hD : wD A [bMod G x xs xb xm xf xu xg xw kk bl ft vh vm vs 0 0 sp p9 w9 r9 f bb aM aO aU aG aW] := hD
                    refine lv_aload_n hx hb dX9_load_182 rfl (lv_at hl 0 rfl) ?_
                    refine va_get (ci := 9) (v := .ref xs) (C := RX9) (T := TX9) (N := 19) hx hb hts wfX9 hown hK.1 hP 0 rfl rfl 0 (by decide) (hts _ wm810) (fun _ h9 => h9) rfl dX9_load_183 ?_
                    refine jv_iconst hx hb dX9_load_186 ?_
                    refine jv_iald hx hb hK.1 hP 1 (g := f) rfl (by omega) (by omega) (by decide) dX9_load_187 ?_
                    refine lv_aload_n hx hb dX9_load_188 rfl (lv_at hl 0 rfl) ?_
                    refine va_get (ci := 9) (v := .ref xs) (C := RX9) (T := TX9) (N := 19) hx hb hts wfX9 hown hK.1 hP 0 rfl rfl 0 (by decide) (hts _ wm810) (fun _ h9 => h9) rfl dX9_load_189 ?_
                    refine jv_iconst hx hb dX9_load_192 ?_
                    refine jv_iald hx hb hK.1 hP 1 (g := f) rfl (by omega) (by omega) (by decide) dX9_load_193 ?_
                    refine jv_iadd hx hb dX9_load_194 ?_
                    exact cret_i hx hb hr hlocks hS hP hD (Nat.le_of_ble_eq_true rfl) (Nat.le_of_ble_eq_true rfl) rfl dX9_load_195 [0] (by decide) ⟨kk, bb, f, p9, w9, r9⟩ rfl ⟨(show (kk = min (kn + 1) 6) ∧ (∀ k : Int, 0 ≤ k → k < 43 * (kk - 1) → bb k = aB (k + 43 * (kn + 1 - kk))) ∧ (∀ k : Int, 0 ≤ k → k < 43 → bb (43 * (kk - 1) + k) = aS k) from by exact hsv), (show f 0 = b ∧ f 1 = ln - b - 1 ∧ f 2 = aS 2 from by exact hf3), (show ∀ q : Int, 0 ≤ q → q < 40 → f (3 + q) = ldF b ln aU q from by exact fun q h1 h2 => hf q h1 (by omega))⟩ (congrArg (fun z : Int => some (Value.int (jz z))) (show ((f 0) + (f 1)) = b + (ln - b - 1) from by first | rfl | omega | (split <;> first | rfl | omega | (exfalso; omega)))) hQ
                  · by_cases e9 : k < 20
                    · have hnt := hf3.1
                      refine lv_iload_n hx hb dX9_load_114 rfl (lv_at hl 1 rfl) ?_
                      refine jv_bipush hx hb dX9_load_115 (by decide) ?_
                      refine jv_idiv hx hb dX9_load_117 (by omega) (by omega) (by omega) (by omega) ?_
                      refine jv_to (z' := 0) (by omega) ?_
                      refine lv_istore_n (lv' := [(2, .int (jz 0)), (0, .ref x), (1, .int (jz k))]) hx hb dX9_load_118 rfl hl (by decide) rfl (fun ls hl => ?_)
                      refine lv_iload_n hx hb dX9_load_119 rfl (lv_at hl 2 rfl) ?_
                      refine jv_bipush hx hb dX9_load_120 (by decide) ?_
                      refine jv_irem hx hb dX9_load_122 (by omega) (by omega) (by omega) (by omega) ?_
                      refine jv_to (z' := k) (by omega) ?_
                      refine lv_istore_n (lv' := [(3, .int (jz k)), (2, .int (jz 0)), (0, .ref x), (1, .int (jz k))]) hx hb dX9_load_123 rfl hl (by decide) rfl (fun ls hl => ?_)
                      refine lv_aload_n hx hb dX9_load_124 rfl (lv_at hl 2 rfl) ?_
                      refine va_get (ci := 9) (v := .ref xs) (C := RX9) (T := TX9) (N := 19) hx hb hts wfX9 hown hK.1 hP 0 rfl rfl 0 (by decide) (hts _ wm810) (fun _ h9 => h9) rfl dX9_load_125 ?_
                      refine jv_iconst hx hb dX9_load_128 ?_
                      refine lv_iload_n hx hb dX9_load_129 rfl (lv_at hl 3 rfl) ?_
                      refine jv_iadd hx hb dX9_load_130 ?_
                      refine lv_iload_n hx hb dX9_load_131 rfl (lv_at hl 0 rfl) ?_
                      refine lv_aload_n hx hb dX9_load_132 rfl (lv_at hl 2 rfl) ?_
                      refine va_get (ci := 9) (v := .ref xs) (C := RX9) (T := TX9) (N := 19) hx hb hts wfX9 hown hK.1 hP 0 rfl rfl 0 (by decide) (hts _ wm810) (fun _ h9 => h9) rfl dX9_load_133 ?_
                      refine lv_iload_n hx hb dX9_load_136 rfl (lv_at hl 1 rfl) ?_
                      refine jv_iald hx hb hK.1 hP 1 (g := f) rfl (by omega) (by omega) (by decide) dX9_load_137 ?_
                      refine jv_icmp_ge (tgt := 169) hx hb dX9_load_138 (by decide) (by omega) (by omega) (fun c_15 => ?_) (fun c_15 => ?_)
                      · refine jv_iconst hx hb dX9_load_169 ?_
                        refine jv_iast hx hb hK.1 hP hD hS 1 (g := f) rfl (by omega) (by omega) (by decide) dX9_load_170 (fun H locs hP hD hS => ?_)
                        have hP : wP G [bMod G x xs xb xm xf xu xg xw kk bl ft vh vm vs ln 0 sp p9 w9 r9 (up f (3 + k) 0) bb aM aO aU aG aW] H := hP
                        have hD : wD A [bMod G x xs xb xm xf xu xg xw kk bl ft vh vm vs ln 0 sp p9 w9 r9 (up f (3 + k) 0) bb aM aO aU aG aW] := hD
                        refine jv_iinc (lv' := [(1, .int (jz (k + 1))), (3, .int (jz k)), (2, .int (jz 0)), (0, .ref x)]) (k := 3) hx hb dX9_load_171 hl rfl (by decide) rfl (fun ls hl => ?_)
                        refine lv_goto (tgt := 108) hx hb dX9_load_174 (by decide) ?_
                        exact ih108 (k + 1) (up f (3 + k) 0) kk bb p9 w9 r9 (by omega) (by omega) (by omega) (by exact hsv) (by refine ⟨?_, ?_, ?_⟩ <;> (unfold up; rw [if_neg (by omega)]; first | exact hf3.1 | exact hf3.2.1 | exact hf3.2.2)) (by intro q h1 h2; unfold up; if e1 : q = k then (rw [if_pos (by omega), e1]; rw [ldF_2 e9 (by omega)]) else (rw [if_neg (by omega)]; exact hf q h1 (by omega))) H _ _ hP hD hS (lv_sub hl [3, 0] rfl)
                      · refine lv_aload_n hx hb dX9_load_141 rfl (lv_at hl 2 rfl) ?_
                        refine va_get (ci := 9) (v := .ref xu) (C := RX9) (T := TX9) (N := 19) hx hb hts wfX9 hown hK.1 hP 0 rfl rfl 10 (by decide) (hts _ wm820) (fun _ h9 => h9) rfl dX9_load_142 ?_
                        refine lv_iload_n hx hb dX9_load_145 rfl (lv_at hl 0 rfl) ?_
                        refine lv_iload_n hx hb dX9_load_146 rfl (lv_at hl 1 rfl) ?_
                        refine jv_iconst hx hb dX9_load_147 ?_
                        refine jv_icmp_ne (tgt := 160) hx hb dX9_load_148 (by decide) (by omega) (by omega) (fun c_16 => ?_) (fun c_16 => ?_)
                        · refine jv_iconst hx hb dX9_load_160 ?_
                          refine jv_iadd hx hb dX9_load_161 ?_
                          refine jv_iald hx hb hK.1 hP 5 (g := aU) rfl (by omega) (by omega) (by decide) dX9_load_162 ?_
                          refine jv_bipush hx hb dX9_load_163 (by decide) ?_
                          refine jv_isub hx hb dX9_load_165 ?_
                          refine lv_goto (tgt := 170) hx hb dX9_load_166 (by decide) ?_
                          refine jv_iast hx hb hK.1 hP hD hS 1 (g := f) rfl (by omega) (by omega) (by decide) dX9_load_170 (fun H locs hP hD hS => ?_)
                          have hP : wP G [bMod G x xs xb xm xf xu xg xw kk bl ft vh vm vs ln 0 sp p9 w9 r9 (up f (3 + k) ((aU (k + 0)) - 97)) bb aM aO aU aG aW] H := hP
                          have hD : wD A [bMod G x xs xb xm xf xu xg xw kk bl ft vh vm vs ln 0 sp p9 w9 r9 (up f (3 + k) ((aU (k + 0)) - 97)) bb aM aO aU aG aW] := hD
                          refine jv_iinc (lv' := [(1, .int (jz (k + 1))), (3, .int (jz k)), (2, .int (jz 0)), (0, .ref x)]) (k := 3) hx hb dX9_load_171 hl rfl (by decide) rfl (fun ls hl => ?_)
                          refine lv_goto (tgt := 108) hx hb dX9_load_174 (by decide) ?_
                          exact ih108 (k + 1) (up f (3 + k) ((aU (k + 0)) - 97)) kk bb p9 w9 r9 (by omega) (by omega) (by omega) (by exact hsv) (by refine ⟨?_, ?_, ?_⟩ <;> (unfold up; rw [if_neg (by omega)]; first | exact hf3.1 | exact hf3.2.1 | exact hf3.2.2)) (by intro q h1 h2; unfold up; if e1 : q = k then (rw [if_pos (by omega), e1]; rw [Int.add_zero, ldF_1 e9 (by omega)]) else (rw [if_neg (by omega)]; exact hf q h1 (by omega))) H _ _ hP hD hS (lv_sub hl [3, 0] rfl)
                        · exfalso; omega
                    · have hnt := hf3.2.1
                      refine lv_iload_n hx hb dX9_load_114 rfl (lv_at hl 1 rfl) ?_
                      refine jv_bipush hx hb dX9_load_115 (by decide) ?_
                      refine jv_idiv hx hb dX9_load_117 (by omega) (by omega) (by omega) (by omega) ?_
                      refine jv_to (z' := 1) (by omega) ?_
                      refine lv_istore_n (lv' := [(2, .int (jz 1)), (0, .ref x), (1, .int (jz k))]) hx hb dX9_load_118 rfl hl (by decide) rfl (fun ls hl => ?_)
                      refine lv_iload_n hx hb dX9_load_119 rfl (lv_at hl 2 rfl) ?_
                      refine jv_bipush hx hb dX9_load_120 (by decide) ?_
                      refine jv_irem hx hb dX9_load_122 (by omega) (by omega) (by omega) (by omega) ?_
                      refine jv_to (z' := k - 20) (by omega) ?_
                      refine lv_istore_n (lv' := [(3, .int (jz (k - 20))), (2, .int (jz 1)), (0, .ref x), (1, .int (jz k))]) hx hb dX9_load_123 rfl hl (by decide) rfl (fun ls hl => ?_)
                      refine lv_aload_n hx hb dX9_load_124 rfl (lv_at hl 2 rfl) ?_
                      refine va_get (ci := 9) (v := .ref xs) (C := RX9) (T := TX9) (N := 19) hx hb hts wfX9 hown hK.1 hP 0 rfl rfl 0 (by decide) (hts _ wm810) (fun _ h9 => h9) rfl dX9_load_125 ?_
                      refine jv_iconst hx hb dX9_load_128 ?_
                      refine lv_iload_n hx hb dX9_load_129 rfl (lv_at hl 3 rfl) ?_
                      refine jv_iadd hx hb dX9_load_130 ?_
                      refine lv_iload_n hx hb dX9_load_131 rfl (lv_at hl 0 rfl) ?_
                      refine lv_aload_n hx hb dX9_load_132 rfl (lv_at hl 2 rfl) ?_
                      refine va_get (ci := 9) (v := .ref xs) (C := RX9) (T := TX9) (N := 19) hx hb hts wfX9 hown hK.1 hP 0 rfl rfl 0 (by decide) (hts _ wm810) (fun _ h9 => h9) rfl dX9_load_133 ?_
                      refine lv_iload_n hx hb dX9_load_136 rfl (lv_at hl 1 rfl) ?_
                      refine jv_iald hx hb hK.1 hP 1 (g := f) rfl (by omega) (by omega) (by decide) dX9_load_137 ?_
                      refine jv_icmp_ge (tgt := 169) hx hb dX9_load_138 (by decide) (by omega) (by omega) (fun c_17 => ?_) (fun c_17 => ?_)
                      · refine jv_iconst hx hb dX9_load_169 ?_
                        refine jv_iast hx hb hK.1 hP hD hS 1 (g := f) rfl (by omega) (by omega) (by decide) dX9_load_170 (fun H locs hP hD hS => ?_)
                        have hP : wP G [bMod G x xs xb xm xf xu xg xw kk bl ft vh vm vs ln 0 sp p9 w9 r9 (up f (3 + k) 0) bb aM aO aU aG aW] H := hP
                        have hD : wD A [bMod G x xs xb xm xf xu xg xw kk bl ft vh vm vs ln 0 sp p9 w9 r9 (up f (3 + k) 0) bb aM aO aU aG aW] := hD
                        refine jv_iinc (lv' := [(1, .int (jz (k + 1))), (3, .int (jz (k - 20))), (2, .int (jz 1)), (0, .ref x)]) (k := 3) hx hb dX9_load_171 hl rfl (by decide) rfl (fun ls hl => ?_)
                        refine lv_goto (tgt := 108) hx hb dX9_load_174 (by decide) ?_
                        exact ih108 (k + 1) (up f (3 + k) 0) kk bb p9 w9 r9 (by omega) (by omega) (by omega) (by exact hsv) (by refine ⟨?_, ?_, ?_⟩ <;> (unfold up; rw [if_neg (by omega)]; first | exact hf3.1 | exact hf3.2.1 | exact hf3.2.2)) (by intro q h1 h2; unfold up; if e1 : q = k then (rw [if_pos (by omega), e1]; rw [ldF_4 e9 (by omega)]) else (rw [if_neg (by omega)]; exact hf q h1 (by omega))) H _ _ hP hD hS (lv_sub hl [3, 0] rfl)
                      · refine lv_aload_n hx hb dX9_load_141 rfl (lv_at hl 2 rfl) ?_
                        refine va_get (ci := 9) (v := .ref xu) (C := RX9) (T := TX9) (N := 19) hx hb hts wfX9 hown hK.1 hP 0 rfl rfl 10 (by decide) (hts _ wm820) (fun _ h9 => h9) rfl dX9_load_142 ?_
                        refine lv_iload_n hx hb dX9_load_145 rfl (lv_at hl 0 rfl) ?_
                        refine lv_iload_n hx hb dX9_load_146 rfl (lv_at hl 1 rfl) ?_
                        refine jv_iconst hx hb dX9_load_147 ?_
                        refine jv_icmp_ne (tgt := 160) hx hb dX9_load_148 (by decide) (by omega) (by omega) (fun c_18 => ?_) (fun c_18 => ?_)
                        · exfalso; omega
                        · refine lv_aload_n hx hb dX9_load_151 rfl (lv_at hl 2 rfl) ?_
                          refine va_get (ci := 9) (v := .int (jz r9)) (C := RX9) (T := TX9) (N := 19) hx hb hts wfX9 hown hK.1 hP 0 rfl rfl 18 (by decide) (hts _ wm828) (fun _ h9 => h9) rfl dX9_load_152 ?_
                          refine jv_iconst hx hb dX9_load_155 ?_
                          refine jv_iadd hx hb dX9_load_156 ?_
                          refine lv_goto (tgt := 161) hx hb dX9_load_157 (by decide) ?_
                          refine jv_iadd hx hb dX9_load_161 ?_
                          refine jv_iald hx hb hK.1 hP 5 (g := aU) rfl (by omega) (by omega) (by decide) dX9_load_162 ?_
                          refine jv_bipush hx hb dX9_load_163 (by decide) ?_
                          refine jv_isub hx hb dX9_load_165 ?_
                          refine lv_goto (tgt := 170) hx hb dX9_load_166 (by decide) ?_
                          refine jv_iast hx hb hK.1 hP hD hS 1 (g := f) rfl (by omega) (by omega) (by decide) dX9_load_170 (fun H locs hP hD hS => ?_)
                          have hP : wP G [bMod G x xs xb xm xf xu xg xw kk bl ft vh vm vs ln 0 sp p9 w9 r9 (up f (3 + k) ((aU ((k - 20) + (r9 + 1))) - 97)) bb aM aO aU aG aW] H := hP
                          have hD : wD A [bMod G x xs xb xm xf xu xg xw kk bl ft vh vm vs ln 0 sp p9 w9 r9 (up f (3 + k) ((aU ((k - 20) + (r9 + 1))) - 97)) bb aM aO aU aG aW] := hD
                          refine jv_iinc (lv' := [(1, .int (jz (k + 1))), (3, .int (jz (k - 20))), (2, .int (jz 1)), (0, .ref x)]) (k := 3) hx hb dX9_load_171 hl rfl (by decide) rfl (fun ls hl => ?_)
                          refine lv_goto (tgt := 108) hx hb dX9_load_174 (by decide) ?_
                          exact ih108 (k + 1) (up f (3 + k) ((aU ((k - 20) + (r9 + 1))) - 97)) kk bb p9 w9 r9 (by omega) (by omega) (by omega) (by exact hsv) (by refine ⟨?_, ?_, ?_⟩ <;> (unfold up; rw [if_neg (by omega)]; first | exact hf3.1 | exact hf3.2.1 | exact hf3.2.2)) (by intro q h1 h2; unfold up; if e1 : q = k then (rw [if_pos (by omega), e1]; rw [ldF_3 e9 (by omega)]; exact congrArg (fun q => aU q - 97) (by omega)) else (rw [if_neg (by omega)]; exact hf q h1 (by omega))) H _ _ hP hD hS (lv_sub hl [3, 0] rfl)
              exact K108 ((((40 : Int) - 0).toNat) + 1) 0 (up (up aS 0 u_3) 1 ((ln - u_3) - 1)) u_9 u_10 u_1 u_2 u_3 (Nat.lt_succ_self _) (by omega) (by omega) (by exact hsvp) (by exact ⟨by simp [up, hq2], by simp [up, hq2], by simp [up]⟩) (by intro q h1 h2; omega) H _ _ hP hD hS (lv_sub hl [1, 0] rfl)
            · refine lv_iload_n hx hb dX9_load_39 rfl (lv_at hl 1 rfl) ?_
              refine lv_aload_n hx hb dX9_load_40 rfl (lv_at hl 0 rfl) ?_
              refine va_get (ci := 9) (v := .int (jz u_3)) (C := RX9) (T := TX9) (N := 19) hx hb hts wfX9 hown hK.1 hP 0 rfl rfl 18 (by decide) (hts _ wm828) (fun _ h9 => h9) rfl dX9_load_41 ?_
              refine jv_icmp_eq (tgt := 69) hx hb dX9_load_44 (by decide) (by omega) (by omega) (fun c_19 => ?_) (fun c_19 => ?_)
              · refine jv_iinc (lv' := [(1, .int (jz (k + 1))), (0, .ref x)]) (k := 1) hx hb dX9_load_69 hl rfl (by decide) rfl (fun ls hl => ?_)
                refine lv_goto (tgt := 31) hx hb dX9_load_72 (by decide) ?_
                exact ih31 (k + 1) (by omega) (by omega) H _ _ hP hD hS (lv_sub hl [1, 0] rfl)
              · have hb9 := hbu k (by omega) (by omega)
                have hb8 := hg8 k (by omega) (by omega)
                have hb7 := hK9 k (by omega) (by omega) (by omega)
                refine lv_aload_n hx hb dX9_load_47 rfl (lv_at hl 0 rfl) ?_
                refine lv_aload_n hx hb dX9_load_48 rfl (lv_at hl 0 rfl) ?_
                refine va_get (ci := 9) (v := .ref xu) (C := RX9) (T := TX9) (N := 19) hx hb hts wfX9 hown hK.1 hP 0 rfl rfl 10 (by decide) (hts _ wm820) (fun _ h9 => h9) rfl dX9_load_49 ?_
                refine lv_iload_n hx hb dX9_load_52 rfl (lv_at hl 1 rfl) ?_
                refine jv_iald hx hb hK.1 hP 5 (g := aU) rfl (by omega) (by omega) (by decide) dX9_load_53 ?_
                refine jv_bipush hx hb dX9_load_54 (by decide) ?_
                refine jv_isub hx hb dX9_load_56 ?_
                refine kV ⟨hx, hb, hml, hown, hts⟩ hK hA hS hP hD [.int (jz ((aU k) - 97))] [] (mX9_isLetter_T l G x xs xb xm xf xu xg xw kn bl ft vh vm vs ln 0 sp u_1 u_2 u_3 aS aB aM aO aU aG aW ((aU k) - 97) (by omega) (by omega)) lkX9_102 [0] [] (br := []) rfl rfl (by decide) 0 9 rfl rfl rfl rfl (Nat.le_of_ble_eq_true rfl) hl.1 dX9_load_57 ⟨Nat.le_of_ble_eq_true rfl, Nat.le_of_ble_eq_true rfl⟩ ⟨Nat.le_of_ble_eq_true rfl, Nat.le_of_ble_eq_true rfl⟩ (fun u9 H locs hp9 hP hD hS => ?_)
                have hP : wP G [bMod G x xs xb xm xf xu xg xw kn bl ft vh vm vs ln 0 sp u_1 u_2 u_3 aS aB aM aO aU aG aW] H := hP
                have hD : wD A [bMod G x xs xb xm xf xu xg xw kn bl ft vh vm vs ln 0 sp u_1 u_2 u_3 aS aB aM aO aU aG aW] := hD
                show W p l e rmX9_load s m args below meth c H locs 0 0 Q (F0 m 60 ls [.int (jz 1)])
                refine jv_if_ne (tgt := 69) hx hb dX9_load_60 (by decide) (by omega) (fun c_21 => ?_) (fun c_21 => ?_)
                · refine jv_iinc (lv' := [(1, .int (jz (k + 1))), (0, .ref x)]) (k := 1) hx hb dX9_load_69 hl rfl (by decide) rfl (fun ls hl => ?_)
                  refine lv_goto (tgt := 31) hx hb dX9_load_72 (by decide) ?_
                  exact ih31 (k + 1) (by omega) (by omega) H _ _ hP hD hS (lv_sub hl [1, 0] rfl)
                · exfalso; omega
        exact K31 (((ln - 0).toNat) + 1) 0 (Nat.lt_succ_self _) (by omega) H _ _ hP hD hS (lv_sub hl [1, 0] rfl)
      · exfalso; omega
  exact KH s.heap [] hP hD hS
abbrev rmX9_insert_1 : Room := { frames := 2, cells := 0, slots := 0, locals := 42 }
set_option maxHeartbeats 4000000 in
set_option maxRecDepth 100000 in
theorem mX9_insert_1 (l : Launch) (G : GG) (x : Nat) (xs : Nat) (xb : Nat) (xm : Nat) (xf : Nat) (xu : Nat) (xg : Nat) (xw : Nat) (kn : Int) (bl : Int) (ft : Int) (vh : Int) (vm : Int) (vs : Int) (ln : Int) (th : Int) (sp : Int) (pl : Int) (wr : Int) (br : Int) (aS : Int → Int) (aB : Int → Int) (aM : Int → Int) (aO : Int → Int) (aU : Int → Int) (aG : Int → Int) (aW : Int → Int) (z : Int) (i : Int) (v : Int) (hs0 : 0 ≤ aS 0 ∧ aS 0 ≤ 20) (hs1 : 0 ≤ aS 1 ∧ aS 1 ≤ 20) (hj0 : jr z) (hj1 : jr i) (hj2 : jr v) (hbad : ¬ ((0 ≤ z ∧ z ≤ 1) ∧ 0 ≤ i ∧ i ≤ aS z)) : Ct l yX9_insert cX9_insert 5 (some .int) rmX9_insert_1 G [.ref x, .int (jz z), .int (jz i), .int (jz v)] [bMod G x xs xb xm xf xu xg xw kn bl ft vh vm vs ln th sp pl wr br aS aB aM aO aU aG aW] (fun uo : Unit => some (.int (jz 0))) (fun uo => True) (fun uo => [bMod G x xs xb xm xf xu xg xw kn bl ft vh vm vs ln 1 sp pl wr br aS aB aM aO aU aG aW]) := by
  refine cof (by decide) (Nat.le_of_ble_eq_true rfl) ?_
  intro p e s m args below meth c A ls hx hb hr hml hown hts hlocks hin hA hK hP hD hS hl Q hQ
  have hown : s.vm.findClass RX9 = some m.cls := hown
  have hl : lv_has ls 5 [(0, .ref x), (1, .int (jz z)), (2, .int (jz i)), (3, .int (jz v))] := hl
  have KH : ∀ (H : Heap) (locs : List Loc), wP G [bMod G x xs xb xm xf xu xg xw kn bl ft vh vm vs ln th sp pl wr br aS aB aM aO aU aG aW] H → wD A [bMod G x xs xb xm xf xu xg xw kn bl ft vh vm vs ln th sp pl wr br aS aB aM aO aU aG aW] → va_S A s.heap H locs → W p l e rmX9_insert_1 s m args below meth c H locs 0 0 Q (F0 m 0 ls []) := by
    intro H locs hP hD hS
    have hsz : 0 ≤ z → z ≤ 1 → 0 ≤ aS z ∧ aS z ≤ 20 := by intro q1 q2; rcases (show z = 0 ∨ z = 1 by omega) with e9 | e9 <;> rw [e9] <;> assumption
    refine lv_aload_n hx hb dX9_insert_0 rfl (lv_at hl 0 rfl) ?_
    refine jv_iconst hx hb dX9_insert_1 ?_
    refine va_put (ci := 9) (v := .int (jz 0)) (ty := .int) (C := RX9) (T := TX9) (N := 19) hx hb hts wfX9 tyX9 tyX9_ok nmX9 hown hK.1 hP hD hS 0 rfl rfl 12 (by decide) (hts _ wm822) (fun _ h9 => h9) rfl (by decide +kernel) rfl rfl (Nat.le_of_ble_eq_true rfl) dX9_insert_2 (fun H locs hP hD hS => ?_)
    have hP : wP G [bMod G x xs xb xm xf xu xg xw kn bl ft vh vm vs ln 0 sp pl wr br aS aB aM aO aU aG aW] H := hP
    have hD : wD A [bMod G x xs xb xm xf xu xg xw kn bl ft vh vm vs ln 0 sp pl wr br aS aB aM aO aU aG aW] := hD
    refine lv_iload_n hx hb dX9_insert_5 rfl (lv_at hl 1 rfl) ?_
    refine kS ⟨hx, hb, hml, hown, hts⟩ hK hA hS hP hD [.int (jz z)] [] (mX9_isText l G z (by omega)) lkX9_109 [] [0] (br := [bMod G x xs xb xm xf xu xg xw kn bl ft vh vm vs ln 0 sp pl wr br aS aB aM aO aU aG aW]) rfl rfl (by decide) rfl rfl (Nat.le_of_ble_eq_true rfl) hl.1 dX9_insert_6 ⟨Nat.le_of_ble_eq_true rfl, Nat.le_of_ble_eq_true rfl⟩ ⟨Nat.le_of_ble_eq_true rfl, Nat.le_of_ble_eq_true rfl⟩ (fun u9 H locs hp9 hP hD hS => ?_)
    have hP : wP G [bMod G x xs xb xm xf xu xg xw kn bl ft vh vm vs ln 0 sp pl wr br aS aB aM aO aU aG aW] H := hP
    have hD : wD A [bMod G x xs xb xm xf xu xg xw kn bl ft vh vm vs ln 0 sp pl wr br aS aB aM aO aU aG aW] := hD
    show W p l e rmX9_insert_1 s m args below meth c H locs 0 0 Q (F0 m 9 ls [.int (jz (if 0 ≤ z ∧ z ≤ 1 then 1 else 0))])
    refine jv_top (fun r_2 er_2 => ?_)
    refine jv_if_eq (tgt := 26) hx hb dX9_insert_9 (by decide) (by rw [er_2]; split <;> omega) (fun c_3 => ?_) (fun c_3 => ?_)
    · refine lv_aload_n hx hb dX9_insert_26 rfl (lv_at hl 0 rfl) ?_
      refine jv_iconst hx hb dX9_insert_27 ?_
      refine kV ⟨hx, hb, hml, hown, hts⟩ hK hA hS hP hD [.int (jz 1)] [] (mX9_throwing l G x xs xb xm xf xu xg xw kn bl ft vh vm vs ln 0 sp pl wr br aS aB aM aO aU aG aW 1 ) lkX9_98 [0] [] (br := []) rfl rfl (by decide) 0 9 rfl rfl rfl rfl (Nat.le_of_ble_eq_true rfl) hl.1 dX9_insert_28 ⟨Nat.le_of_ble_eq_true rfl, Nat.le_of_ble_eq_true rfl⟩ ⟨Nat.le_of_ble_eq_true rfl, Nat.le_of_ble_eq_true rfl⟩ (fun u9 H locs hp9 hP hD hS => ?_)
      have hP : wP G [bMod G x xs xb xm xf xu xg xw kn bl ft vh vm vs ln 1 sp pl wr br aS aB aM aO aU aG aW] H := hP
      have hD : wD A [bMod G x xs xb xm xf xu xg xw kn bl ft vh vm vs ln 1 sp pl wr br aS aB aM aO aU aG aW] := hD
      show W p l e rmX9_insert_1 s m args below meth c H locs 0 0 Q (F0 m 31 ls [.int (jz 0)])
      exact cret_i hx hb hr hlocks hS hP hD (Nat.le_of_ble_eq_true rfl) (Nat.le_of_ble_eq_true rfl) rfl dX9_insert_31 [0] (by decide) () rfl trivial (congrArg (fun z : Int => some (Value.int (jz z))) (show 0 = 0 from by first | rfl | omega | (split <;> first | rfl | omega | (exfalso; omega)))) hQ
    · have hzz : 0 ≤ z ∧ z ≤ 1 := by have q9 := er_2; split at q9 <;> omega
      have hsz9 := hsz hzz.1 hzz.2
      refine lv_iload_n hx hb dX9_insert_12 rfl (lv_at hl 2 rfl) ?_
      refine jv_iconst hx hb dX9_insert_13 ?_
      refine lv_aload_n hx hb dX9_insert_14 rfl (lv_at hl 0 rfl) ?_
      refine va_get (ci := 9) (v := .ref xs) (C := RX9) (T := TX9) (N := 19) hx hb hts wfX9 hown hK.1 hP 0 rfl rfl 0 (by decide) (hts _ wm810) (fun _ h9 => h9) rfl dX9_insert_15 ?_
      refine lv_iload_n hx hb dX9_insert_18 rfl (lv_at hl 1 rfl) ?_
      refine jv_iald hx hb hK.1 hP 1 (g := aS) rfl (by omega) (by omega) (by decide) dX9_insert_19 ?_
      refine kS ⟨hx, hb, hml, hown, hts⟩ hK hA hS hP hD [.int (jz i), .int (jz 0), .int (jz (aS z))] [] (mX9_in l G i 0 (aS z) (by omega) (by omega) (by omega)) lkX9_42 [] [0] (br := [bMod G x xs xb xm xf xu xg xw kn bl ft vh vm vs ln 0 sp pl wr br aS aB aM aO aU aG aW]) rfl rfl (by decide) rfl rfl (Nat.le_of_ble_eq_true rfl) hl.1 dX9_insert_20 ⟨Nat.le_of_ble_eq_true rfl, Nat.le_of_ble_eq_true rfl⟩ ⟨Nat.le_of_ble_eq_true rfl, Nat.le_of_ble_eq_true rfl⟩ (fun u9 H locs hp9 hP hD hS => ?_)
      have hP : wP G [bMod G x xs xb xm xf xu xg xw kn bl ft vh vm vs ln 0 sp pl wr br aS aB aM aO aU aG aW] H := hP
      have hD : wD A [bMod G x xs xb xm xf xu xg xw kn bl ft vh vm vs ln 0 sp pl wr br aS aB aM aO aU aG aW] := hD
      show W p l e rmX9_insert_1 s m args below meth c H locs 0 0 Q (F0 m 23 ls [.int (jz (if 0 ≤ i ∧ i ≤ (aS z) then 1 else 0))])
      refine jv_top (fun r_6 er_6 => ?_)
      refine jv_if_ne (tgt := 32) hx hb dX9_insert_23 (by decide) (by rw [er_6]; split <;> omega) (fun c_7 => ?_) (fun c_7 => ?_)
      · exfalso; have q9 := er_6; split at q9 <;> omega
      · refine lv_aload_n hx hb dX9_insert_26 rfl (lv_at hl 0 rfl) ?_
        refine jv_iconst hx hb dX9_insert_27 ?_
        refine kV ⟨hx, hb, hml, hown, hts⟩ hK hA hS hP hD [.int (jz 1)] [] (mX9_throwing l G x xs xb xm xf xu xg xw kn bl ft vh vm vs ln 0 sp pl wr br aS aB aM aO aU aG aW 1 ) lkX9_98 [0] [] (br := []) rfl rfl (by decide) 0 9 rfl rfl rfl rfl (Nat.le_of_ble_eq_true rfl) hl.1 dX9_insert_28 ⟨Nat.le_of_ble_eq_true rfl, Nat.le_of_ble_eq_true rfl⟩ ⟨Nat.le_of_ble_eq_true rfl, Nat.le_of_ble_eq_true rfl⟩ (fun u9 H locs hp9 hP hD hS => ?_)
        have hP : wP G [bMod G x xs xb xm xf xu xg xw kn bl ft vh vm vs ln 1 sp pl wr br aS aB aM aO aU aG aW] H := hP
        have hD : wD A [bMod G x xs xb xm xf xu xg xw kn bl ft vh vm vs ln 1 sp pl wr br aS aB aM aO aU aG aW] := hD
        show W p l e rmX9_insert_1 s m args below meth c H locs 0 0 Q (F0 m 31 ls [.int (jz 0)])
        exact cret_i hx hb hr hlocks hS hP hD (Nat.le_of_ble_eq_true rfl) (Nat.le_of_ble_eq_true rfl) rfl dX9_insert_31 [0] (by decide) () rfl trivial (congrArg (fun z : Int => some (Value.int (jz z))) (show 0 = 0 from by first | rfl | omega | (split <;> first | rfl | omega | (exfalso; omega)))) hQ
  exact KH s.heap [] hP hD hS
abbrev rmX9_remove_1 : Room := { frames := 2, cells := 0, slots := 0, locals := 42 }
set_option maxHeartbeats 4000000 in
set_option maxRecDepth 100000 in
theorem mX9_remove_1 (l : Launch) (G : GG) (x : Nat) (xs : Nat) (xb : Nat) (xm : Nat) (xf : Nat) (xu : Nat) (xg : Nat) (xw : Nat) (kn : Int) (bl : Int) (ft : Int) (vh : Int) (vm : Int) (vs : Int) (ln : Int) (th : Int) (sp : Int) (pl : Int) (wr : Int) (br : Int) (aS : Int → Int) (aB : Int → Int) (aM : Int → Int) (aO : Int → Int) (aU : Int → Int) (aG : Int → Int) (aW : Int → Int) (z : Int) (i : Int) (hs0 : 0 ≤ aS 0 ∧ aS 0 ≤ 20) (hs1 : 0 ≤ aS 1 ∧ aS 1 ≤ 20) (hj0 : jr z) (hj1 : jr i) (hbad : ¬ ((0 ≤ z ∧ z ≤ 1) ∧ 0 ≤ i ∧ i ≤ aS z - 1)) : Ct l yX9_remove cX9_remove 5 (some .int) rmX9_remove_1 G [.ref x, .int (jz z), .int (jz i)] [bMod G x xs xb xm xf xu xg xw kn bl ft vh vm vs ln th sp pl wr br aS aB aM aO aU aG aW] (fun uo : Unit => some (.int (jz 0))) (fun uo => True) (fun uo => [bMod G x xs xb xm xf xu xg xw kn bl ft vh vm vs ln 1 sp pl wr br aS aB aM aO aU aG aW]) := by
  refine cof (by decide) (Nat.le_of_ble_eq_true rfl) ?_
  intro p e s m args below meth c A ls hx hb hr hml hown hts hlocks hin hA hK hP hD hS hl Q hQ
  have hown : s.vm.findClass RX9 = some m.cls := hown
  have hl : lv_has ls 5 [(0, .ref x), (1, .int (jz z)), (2, .int (jz i))] := hl
  have KH : ∀ (H : Heap) (locs : List Loc), wP G [bMod G x xs xb xm xf xu xg xw kn bl ft vh vm vs ln th sp pl wr br aS aB aM aO aU aG aW] H → wD A [bMod G x xs xb xm xf xu xg xw kn bl ft vh vm vs ln th sp pl wr br aS aB aM aO aU aG aW] → va_S A s.heap H locs → W p l e rmX9_remove_1 s m args below meth c H locs 0 0 Q (F0 m 0 ls []) := by
    intro H locs hP hD hS
    have hsz : 0 ≤ z → z ≤ 1 → 0 ≤ aS z ∧ aS z ≤ 20 := by intro q1 q2; rcases (show z = 0 ∨ z = 1 by omega) with e9 | e9 <;> rw [e9] <;> assumption
    refine lv_aload_n hx hb dX9_remove_0 rfl (lv_at hl 0 rfl) ?_
    refine jv_iconst hx hb dX9_remove_1 ?_
    refine va_put (ci := 9) (v := .int (jz 0)) (ty := .int) (C := RX9) (T := TX9) (N := 19) hx hb hts wfX9 tyX9 tyX9_ok nmX9 hown hK.1 hP hD hS 0 rfl rfl 12 (by decide) (hts _ wm822) (fun _ h9 => h9) rfl (by decide +kernel) rfl rfl (Nat.le_of_ble_eq_true rfl) dX9_remove_2 (fun H locs hP hD hS => ?_)
    have hP : wP G [bMod G x xs xb xm xf xu xg xw kn bl ft vh vm vs ln 0 sp pl wr br aS aB aM aO aU aG aW] H := hP
    have hD : wD A [bMod G x xs xb xm xf xu xg xw kn bl ft vh vm vs ln 0 sp pl wr br aS aB aM aO aU aG aW] := hD
    refine lv_iload_n hx hb dX9_remove_5 rfl (lv_at hl 1 rfl) ?_
    refine kS ⟨hx, hb, hml, hown, hts⟩ hK hA hS hP hD [.int (jz z)] [] (mX9_isText l G z (by omega)) lkX9_109 [] [0] (br := [bMod G x xs xb xm xf xu xg xw kn bl ft vh vm vs ln 0 sp pl wr br aS aB aM aO aU aG aW]) rfl rfl (by decide) rfl rfl (Nat.le_of_ble_eq_true rfl) hl.1 dX9_remove_6 ⟨Nat.le_of_ble_eq_true rfl, Nat.le_of_ble_eq_true rfl⟩ ⟨Nat.le_of_ble_eq_true rfl, Nat.le_of_ble_eq_true rfl⟩ (fun u9 H locs hp9 hP hD hS => ?_)
    have hP : wP G [bMod G x xs xb xm xf xu xg xw kn bl ft vh vm vs ln 0 sp pl wr br aS aB aM aO aU aG aW] H := hP
    have hD : wD A [bMod G x xs xb xm xf xu xg xw kn bl ft vh vm vs ln 0 sp pl wr br aS aB aM aO aU aG aW] := hD
    show W p l e rmX9_remove_1 s m args below meth c H locs 0 0 Q (F0 m 9 ls [.int (jz (if 0 ≤ z ∧ z ≤ 1 then 1 else 0))])
    refine jv_top (fun r_2 er_2 => ?_)
    refine jv_if_eq (tgt := 28) hx hb dX9_remove_9 (by decide) (by rw [er_2]; split <;> omega) (fun c_3 => ?_) (fun c_3 => ?_)
    · refine lv_aload_n hx hb dX9_remove_28 rfl (lv_at hl 0 rfl) ?_
      refine jv_iconst hx hb dX9_remove_29 ?_
      refine kV ⟨hx, hb, hml, hown, hts⟩ hK hA hS hP hD [.int (jz 1)] [] (mX9_throwing l G x xs xb xm xf xu xg xw kn bl ft vh vm vs ln 0 sp pl wr br aS aB aM aO aU aG aW 1 ) lkX9_98 [0] [] (br := []) rfl rfl (by decide) 0 9 rfl rfl rfl rfl (Nat.le_of_ble_eq_true rfl) hl.1 dX9_remove_30 ⟨Nat.le_of_ble_eq_true rfl, Nat.le_of_ble_eq_true rfl⟩ ⟨Nat.le_of_ble_eq_true rfl, Nat.le_of_ble_eq_true rfl⟩ (fun u9 H locs hp9 hP hD hS => ?_)
      have hP : wP G [bMod G x xs xb xm xf xu xg xw kn bl ft vh vm vs ln 1 sp pl wr br aS aB aM aO aU aG aW] H := hP
      have hD : wD A [bMod G x xs xb xm xf xu xg xw kn bl ft vh vm vs ln 1 sp pl wr br aS aB aM aO aU aG aW] := hD
      show W p l e rmX9_remove_1 s m args below meth c H locs 0 0 Q (F0 m 33 ls [.int (jz 0)])
      exact cret_i hx hb hr hlocks hS hP hD (Nat.le_of_ble_eq_true rfl) (Nat.le_of_ble_eq_true rfl) rfl dX9_remove_33 [0] (by decide) () rfl trivial (congrArg (fun z : Int => some (Value.int (jz z))) (show 0 = 0 from by first | rfl | omega | (split <;> first | rfl | omega | (exfalso; omega)))) hQ
    · have hzz : 0 ≤ z ∧ z ≤ 1 := by have q9 := er_2; split at q9 <;> omega
      have hsz9 := hsz hzz.1 hzz.2
      refine lv_iload_n hx hb dX9_remove_12 rfl (lv_at hl 2 rfl) ?_
      refine jv_iconst hx hb dX9_remove_13 ?_
      refine lv_aload_n hx hb dX9_remove_14 rfl (lv_at hl 0 rfl) ?_
      refine va_get (ci := 9) (v := .ref xs) (C := RX9) (T := TX9) (N := 19) hx hb hts wfX9 hown hK.1 hP 0 rfl rfl 0 (by decide) (hts _ wm810) (fun _ h9 => h9) rfl dX9_remove_15 ?_
      refine lv_iload_n hx hb dX9_remove_18 rfl (lv_at hl 1 rfl) ?_
      refine jv_iald hx hb hK.1 hP 1 (g := aS) rfl (by omega) (by omega) (by decide) dX9_remove_19 ?_
      refine jv_iconst hx hb dX9_remove_20 ?_
      refine jv_isub hx hb dX9_remove_21 ?_
      refine kS ⟨hx, hb, hml, hown, hts⟩ hK hA hS hP hD [.int (jz i), .int (jz 0), .int (jz ((aS z) - 1))] [] (mX9_in l G i 0 ((aS z) - 1) (by omega) (by omega) (by omega)) lkX9_42 [] [0] (br := [bMod G x xs xb xm xf xu xg xw kn bl ft vh vm vs ln 0 sp pl wr br aS aB aM aO aU aG aW]) rfl rfl (by decide) rfl rfl (Nat.le_of_ble_eq_true rfl) hl.1 dX9_remove_22 ⟨Nat.le_of_ble_eq_true rfl, Nat.le_of_ble_eq_true rfl⟩ ⟨Nat.le_of_ble_eq_true rfl, Nat.le_of_ble_eq_true rfl⟩ (fun u9 H locs hp9 hP hD hS => ?_)
      have hP : wP G [bMod G x xs xb xm xf xu xg xw kn bl ft vh vm vs ln 0 sp pl wr br aS aB aM aO aU aG aW] H := hP
      have hD : wD A [bMod G x xs xb xm xf xu xg xw kn bl ft vh vm vs ln 0 sp pl wr br aS aB aM aO aU aG aW] := hD
      show W p l e rmX9_remove_1 s m args below meth c H locs 0 0 Q (F0 m 25 ls [.int (jz (if 0 ≤ i ∧ i ≤ ((aS z) - 1) then 1 else 0))])
      refine jv_top (fun r_6 er_6 => ?_)
      refine jv_if_ne (tgt := 34) hx hb dX9_remove_25 (by decide) (by rw [er_6]; split <;> omega) (fun c_7 => ?_) (fun c_7 => ?_)
      · exfalso; have q9 := er_6; split at q9 <;> omega
      · refine lv_aload_n hx hb dX9_remove_28 rfl (lv_at hl 0 rfl) ?_
        refine jv_iconst hx hb dX9_remove_29 ?_
        refine kV ⟨hx, hb, hml, hown, hts⟩ hK hA hS hP hD [.int (jz 1)] [] (mX9_throwing l G x xs xb xm xf xu xg xw kn bl ft vh vm vs ln 0 sp pl wr br aS aB aM aO aU aG aW 1 ) lkX9_98 [0] [] (br := []) rfl rfl (by decide) 0 9 rfl rfl rfl rfl (Nat.le_of_ble_eq_true rfl) hl.1 dX9_remove_30 ⟨Nat.le_of_ble_eq_true rfl, Nat.le_of_ble_eq_true rfl⟩ ⟨Nat.le_of_ble_eq_true rfl, Nat.le_of_ble_eq_true rfl⟩ (fun u9 H locs hp9 hP hD hS => ?_)
        have hP : wP G [bMod G x xs xb xm xf xu xg xw kn bl ft vh vm vs ln 1 sp pl wr br aS aB aM aO aU aG aW] H := hP
        have hD : wD A [bMod G x xs xb xm xf xu xg xw kn bl ft vh vm vs ln 1 sp pl wr br aS aB aM aO aU aG aW] := hD
        show W p l e rmX9_remove_1 s m args below meth c H locs 0 0 Q (F0 m 33 ls [.int (jz 0)])
        exact cret_i hx hb hr hlocks hS hP hD (Nat.le_of_ble_eq_true rfl) (Nat.le_of_ble_eq_true rfl) rfl dX9_remove_33 [0] (by decide) () rfl trivial (congrArg (fun z : Int => some (Value.int (jz z))) (show 0 = 0 from by first | rfl | omega | (split <;> first | rfl | omega | (exfalso; omega)))) hQ
  exact KH s.heap [] hP hD hS
abbrev rmX9_replace_1 : Room := { frames := 2, cells := 0, slots := 0, locals := 42 }
set_option maxHeartbeats 4000000 in
set_option maxRecDepth 100000 in
theorem mX9_replace_1 (l : Launch) (G : GG) (x : Nat) (xs : Nat) (xb : Nat) (xm : Nat) (xf : Nat) (xu : Nat) (xg : Nat) (xw : Nat) (kn : Int) (bl : Int) (ft : Int) (vh : Int) (vm : Int) (vs : Int) (ln : Int) (th : Int) (sp : Int) (pl : Int) (wr : Int) (br : Int) (aS : Int → Int) (aB : Int → Int) (aM : Int → Int) (aO : Int → Int) (aU : Int → Int) (aG : Int → Int) (aW : Int → Int) (z : Int) (i : Int) (v : Int) (hs0 : 0 ≤ aS 0 ∧ aS 0 ≤ 20) (hs1 : 0 ≤ aS 1 ∧ aS 1 ≤ 20) (hj0 : jr z) (hj1 : jr i) (hj2 : jr v) (hbad : ¬ ((0 ≤ z ∧ z ≤ 1) ∧ 0 ≤ i ∧ i ≤ aS z - 1)) : Ct l yX9_replace cX9_replace 5 (some .int) rmX9_replace_1 G [.ref x, .int (jz z), .int (jz i), .int (jz v)] [bMod G x xs xb xm xf xu xg xw kn bl ft vh vm vs ln th sp pl wr br aS aB aM aO aU aG aW] (fun uo : Unit => some (.int (jz 0))) (fun uo => True) (fun uo => [bMod G x xs xb xm xf xu xg xw kn bl ft vh vm vs ln 1 sp pl wr br aS aB aM aO aU aG aW]) := by
  refine cof (by decide) (Nat.le_of_ble_eq_true rfl) ?_
  intro p e s m args below meth c A ls hx hb hr hml hown hts hlocks hin hA hK hP hD hS hl Q hQ
  have hown : s.vm.findClass RX9 = some m.cls := hown
  have hl : lv_has ls 5 [(0, .ref x), (1, .int (jz z)), (2, .int (jz i)), (3, .int (jz v))] := hl
  have KH : ∀ (H : Heap) (locs : List Loc), wP G [bMod G x xs xb xm xf xu xg xw kn bl ft vh vm vs ln th sp pl wr br aS aB aM aO aU aG aW] H → wD A [bMod G x xs xb xm xf xu xg xw kn bl ft vh vm vs ln th sp pl wr br aS aB aM aO aU aG aW] → va_S A s.heap H locs → W p l e rmX9_replace_1 s m args below meth c H locs 0 0 Q (F0 m 0 ls []) := by
    intro H locs hP hD hS
    have hsz : 0 ≤ z → z ≤ 1 → 0 ≤ aS z ∧ aS z ≤ 20 := by intro q1 q2; rcases (show z = 0 ∨ z = 1 by omega) with e9 | e9 <;> rw [e9] <;> assumption
    refine lv_aload_n hx hb dX9_replace_0 rfl (lv_at hl 0 rfl) ?_
    refine jv_iconst hx hb dX9_replace_1 ?_
    refine va_put (ci := 9) (v := .int (jz 0)) (ty := .int) (C := RX9) (T := TX9) (N := 19) hx hb hts wfX9 tyX9 tyX9_ok nmX9 hown hK.1 hP hD hS 0 rfl rfl 12 (by decide) (hts _ wm822) (fun _ h9 => h9) rfl (by decide +kernel) rfl rfl (Nat.le_of_ble_eq_true rfl) dX9_replace_2 (fun H locs hP hD hS => ?_)
    have hP : wP G [bMod G x xs xb xm xf xu xg xw kn bl ft vh vm vs ln 0 sp pl wr br aS aB aM aO aU aG aW] H := hP
    have hD : wD A [bMod G x xs xb xm xf xu xg xw kn bl ft vh vm vs ln 0 sp pl wr br aS aB aM aO aU aG aW] := hD
    refine lv_iload_n hx hb dX9_replace_5 rfl (lv_at hl 1 rfl) ?_
    refine kS ⟨hx, hb, hml, hown, hts⟩ hK hA hS hP hD [.int (jz z)] [] (mX9_isText l G z (by omega)) lkX9_109 [] [0] (br := [bMod G x xs xb xm xf xu xg xw kn bl ft vh vm vs ln 0 sp pl wr br aS aB aM aO aU aG aW]) rfl rfl (by decide) rfl rfl (Nat.le_of_ble_eq_true rfl) hl.1 dX9_replace_6 ⟨Nat.le_of_ble_eq_true rfl, Nat.le_of_ble_eq_true rfl⟩ ⟨Nat.le_of_ble_eq_true rfl, Nat.le_of_ble_eq_true rfl⟩ (fun u9 H locs hp9 hP hD hS => ?_)
    have hP : wP G [bMod G x xs xb xm xf xu xg xw kn bl ft vh vm vs ln 0 sp pl wr br aS aB aM aO aU aG aW] H := hP
    have hD : wD A [bMod G x xs xb xm xf xu xg xw kn bl ft vh vm vs ln 0 sp pl wr br aS aB aM aO aU aG aW] := hD
    show W p l e rmX9_replace_1 s m args below meth c H locs 0 0 Q (F0 m 9 ls [.int (jz (if 0 ≤ z ∧ z ≤ 1 then 1 else 0))])
    refine jv_top (fun r_2 er_2 => ?_)
    refine jv_if_eq (tgt := 28) hx hb dX9_replace_9 (by decide) (by rw [er_2]; split <;> omega) (fun c_3 => ?_) (fun c_3 => ?_)
    · refine lv_aload_n hx hb dX9_replace_28 rfl (lv_at hl 0 rfl) ?_
      refine jv_iconst hx hb dX9_replace_29 ?_
      refine kV ⟨hx, hb, hml, hown, hts⟩ hK hA hS hP hD [.int (jz 1)] [] (mX9_throwing l G x xs xb xm xf xu xg xw kn bl ft vh vm vs ln 0 sp pl wr br aS aB aM aO aU aG aW 1 ) lkX9_98 [0] [] (br := []) rfl rfl (by decide) 0 9 rfl rfl rfl rfl (Nat.le_of_ble_eq_true rfl) hl.1 dX9_replace_30 ⟨Nat.le_of_ble_eq_true rfl, Nat.le_of_ble_eq_true rfl⟩ ⟨Nat.le_of_ble_eq_true rfl, Nat.le_of_ble_eq_true rfl⟩ (fun u9 H locs hp9 hP hD hS => ?_)
      have hP : wP G [bMod G x xs xb xm xf xu xg xw kn bl ft vh vm vs ln 1 sp pl wr br aS aB aM aO aU aG aW] H := hP
      have hD : wD A [bMod G x xs xb xm xf xu xg xw kn bl ft vh vm vs ln 1 sp pl wr br aS aB aM aO aU aG aW] := hD
      show W p l e rmX9_replace_1 s m args below meth c H locs 0 0 Q (F0 m 33 ls [.int (jz 0)])
      exact cret_i hx hb hr hlocks hS hP hD (Nat.le_of_ble_eq_true rfl) (Nat.le_of_ble_eq_true rfl) rfl dX9_replace_33 [0] (by decide) () rfl trivial (congrArg (fun z : Int => some (Value.int (jz z))) (show 0 = 0 from by first | rfl | omega | (split <;> first | rfl | omega | (exfalso; omega)))) hQ
    · have hzz : 0 ≤ z ∧ z ≤ 1 := by have q9 := er_2; split at q9 <;> omega
      have hsz9 := hsz hzz.1 hzz.2
      refine lv_iload_n hx hb dX9_replace_12 rfl (lv_at hl 2 rfl) ?_
      refine jv_iconst hx hb dX9_replace_13 ?_
      refine lv_aload_n hx hb dX9_replace_14 rfl (lv_at hl 0 rfl) ?_
      refine va_get (ci := 9) (v := .ref xs) (C := RX9) (T := TX9) (N := 19) hx hb hts wfX9 hown hK.1 hP 0 rfl rfl 0 (by decide) (hts _ wm810) (fun _ h9 => h9) rfl dX9_replace_15 ?_
      refine lv_iload_n hx hb dX9_replace_18 rfl (lv_at hl 1 rfl) ?_
      refine jv_iald hx hb hK.1 hP 1 (g := aS) rfl (by omega) (by omega) (by decide) dX9_replace_19 ?_
      refine jv_iconst hx hb dX9_replace_20 ?_
      refine jv_isub hx hb dX9_replace_21 ?_
      refine kS ⟨hx, hb, hml, hown, hts⟩ hK hA hS hP hD [.int (jz i), .int (jz 0), .int (jz ((aS z) - 1))] [] (mX9_in l G i 0 ((aS z) - 1) (by omega) (by omega) (by omega)) lkX9_42 [] [0] (br := [bMod G x xs xb xm xf xu xg xw kn bl ft vh vm vs ln 0 sp pl wr br aS aB aM aO aU aG aW]) rfl rfl (by decide) rfl rfl (Nat.le_of_ble_eq_true rfl) hl.1 dX9_replace_22 ⟨Nat.le_of_ble_eq_true rfl, Nat.le_of_ble_eq_true rfl⟩ ⟨Nat.le_of_ble_eq_true rfl, Nat.le_of_ble_eq_true rfl⟩ (fun u9 H locs hp9 hP hD hS => ?_)
      have hP : wP G [bMod G x xs xb xm xf xu xg xw kn bl ft vh vm vs ln 0 sp pl wr br aS aB aM aO aU aG aW] H := hP
      have hD : wD A [bMod G x xs xb xm xf xu xg xw kn bl ft vh vm vs ln 0 sp pl wr br aS aB aM aO aU aG aW] := hD
      show W p l e rmX9_replace_1 s m args below meth c H locs 0 0 Q (F0 m 25 ls [.int (jz (if 0 ≤ i ∧ i ≤ ((aS z) - 1) then 1 else 0))])
      refine jv_top (fun r_6 er_6 => ?_)
      refine jv_if_ne (tgt := 34) hx hb dX9_replace_25 (by decide) (by rw [er_6]; split <;> omega) (fun c_7 => ?_) (fun c_7 => ?_)
      · exfalso; have q9 := er_6; split at q9 <;> omega
      · refine lv_aload_n hx hb dX9_replace_28 rfl (lv_at hl 0 rfl) ?_
        refine jv_iconst hx hb dX9_replace_29 ?_
        refine kV ⟨hx, hb, hml, hown, hts⟩ hK hA hS hP hD [.int (jz 1)] [] (mX9_throwing l G x xs xb xm xf xu xg xw kn bl ft vh vm vs ln 0 sp pl wr br aS aB aM aO aU aG aW 1 ) lkX9_98 [0] [] (br := []) rfl rfl (by decide) 0 9 rfl rfl rfl rfl (Nat.le_of_ble_eq_true rfl) hl.1 dX9_replace_30 ⟨Nat.le_of_ble_eq_true rfl, Nat.le_of_ble_eq_true rfl⟩ ⟨Nat.le_of_ble_eq_true rfl, Nat.le_of_ble_eq_true rfl⟩ (fun u9 H locs hp9 hP hD hS => ?_)
        have hP : wP G [bMod G x xs xb xm xf xu xg xw kn bl ft vh vm vs ln 1 sp pl wr br aS aB aM aO aU aG aW] H := hP
        have hD : wD A [bMod G x xs xb xm xf xu xg xw kn bl ft vh vm vs ln 1 sp pl wr br aS aB aM aO aU aG aW] := hD
        show W p l e rmX9_replace_1 s m args below meth c H locs 0 0 Q (F0 m 33 ls [.int (jz 0)])
        exact cret_i hx hb hr hlocks hS hP hD (Nat.le_of_ble_eq_true rfl) (Nat.le_of_ble_eq_true rfl) rfl dX9_replace_33 [0] (by decide) () rfl trivial (congrArg (fun z : Int => some (Value.int (jz z))) (show 0 = 0 from by first | rfl | omega | (split <;> first | rfl | omega | (exfalso; omega)))) hQ
  exact KH s.heap [] hP hD hS
abbrev rmX9_ifReplaced_1 : Room := { frames := 2, cells := 0, slots := 0, locals := 42 }
set_option maxHeartbeats 4000000 in
set_option maxRecDepth 100000 in
theorem mX9_ifReplaced_1 (l : Launch) (G : GG) (x : Nat) (xs : Nat) (xb : Nat) (xm : Nat) (xf : Nat) (xu : Nat) (xg : Nat) (xw : Nat) (kn : Int) (bl : Int) (ft : Int) (vh : Int) (vm : Int) (vs : Int) (ln : Int) (th : Int) (sp : Int) (pl : Int) (wr : Int) (br : Int) (aS : Int → Int) (aB : Int → Int) (aM : Int → Int) (aO : Int → Int) (aU : Int → Int) (aG : Int → Int) (aW : Int → Int) (z : Int) (i : Int) (v : Int) (hs0 : 0 ≤ aS 0 ∧ aS 0 ≤ 20) (hs1 : 0 ≤ aS 1 ∧ aS 1 ≤ 20) (hj0 : jr z) (hj1 : jr i) (hj2 : jr v) (hbad : ¬ ((0 ≤ z ∧ z ≤ 1) ∧ 0 ≤ i ∧ i ≤ aS z - 1)) : Ct l yX9_ifReplaced cX9_ifReplaced 4 (some .int) rmX9_ifReplaced_1 G [.ref x, .int (jz z), .int (jz i), .int (jz v)] [bMod G x xs xb xm xf xu xg xw kn bl ft vh vm vs ln th sp pl wr br aS aB aM aO aU aG aW] (fun uo : Unit => some (.int (jz 0))) (fun uo => True) (fun uo => [bMod G x xs xb xm xf xu xg xw kn bl ft vh vm vs ln 1 sp pl wr br aS aB aM aO aU aG aW]) := by
  refine cof (by decide) (Nat.le_of_ble_eq_true rfl) ?_
  intro p e s m args below meth c A ls hx hb hr hml hown hts hlocks hin hA hK hP hD hS hl Q hQ
  have hown : s.vm.findClass RX9 = some m.cls := hown
  have hl : lv_has ls 4 [(0, .ref x), (1, .int (jz z)), (2, .int (jz i)), (3, .int (jz v))] := hl
  have KH : ∀ (H : Heap) (locs : List Loc), wP G [bMod G x xs xb xm xf xu xg xw kn bl ft vh vm vs ln th sp pl wr br aS aB aM aO aU aG aW] H → wD A [bMod G x xs xb xm xf xu xg xw kn bl ft vh vm vs ln th sp pl wr br aS aB aM aO aU aG aW] → va_S A s.heap H locs → W p l e rmX9_ifReplaced_1 s m args below meth c H locs 0 0 Q (F0 m 0 ls []) := by
    intro H locs hP hD hS
    have hsz : 0 ≤ z → z ≤ 1 → 0 ≤ aS z ∧ aS z ≤ 20 := by intro q1 q2; rcases (show z = 0 ∨ z = 1 by omega) with e9 | e9 <;> rw [e9] <;> assumption
    refine lv_aload_n hx hb dX9_ifReplaced_0 rfl (lv_at hl 0 rfl) ?_
    refine jv_iconst hx hb dX9_ifReplaced_1 ?_
    refine va_put (ci := 9) (v := .int (jz 0)) (ty := .int) (C := RX9) (T := TX9) (N := 19) hx hb hts wfX9 tyX9 tyX9_ok nmX9 hown hK.1 hP hD hS 0 rfl rfl 12 (by decide) (hts _ wm822) (fun _ h9 => h9) rfl (by decide +kernel) rfl rfl (Nat.le_of_ble_eq_true rfl) dX9_ifReplaced_2 (fun H locs hP hD hS => ?_)
    have hP : wP G [bMod G x xs xb xm xf xu xg xw kn bl ft vh vm vs ln 0 sp pl wr br aS aB aM aO aU aG aW] H := hP
    have hD : wD A [bMod G x xs xb xm xf xu xg xw kn bl ft vh vm vs ln 0 sp pl wr br aS aB aM aO aU aG aW] := hD
    refine lv_iload_n hx hb dX9_ifReplaced_5 rfl (lv_at hl 1 rfl) ?_
    refine kS ⟨hx, hb, hml, hown, hts⟩ hK hA hS hP hD [.int (jz z)] [] (mX9_isText l G z (by omega)) lkX9_109 [] [0] (br := [bMod G x xs xb xm xf xu xg xw kn bl ft vh vm vs ln 0 sp pl wr br aS aB aM aO aU aG aW]) rfl rfl (by decide) rfl rfl (Nat.le_of_ble_eq_true rfl) hl.1 dX9_ifReplaced_6 ⟨Nat.le_of_ble_eq_true rfl, Nat.le_of_ble_eq_true rfl⟩ ⟨Nat.le_of_ble_eq_true rfl, Nat.le_of_ble_eq_true rfl⟩ (fun u9 H locs hp9 hP hD hS => ?_)
    have hP : wP G [bMod G x xs xb xm xf xu xg xw kn bl ft vh vm vs ln 0 sp pl wr br aS aB aM aO aU aG aW] H := hP
    have hD : wD A [bMod G x xs xb xm xf xu xg xw kn bl ft vh vm vs ln 0 sp pl wr br aS aB aM aO aU aG aW] := hD
    show W p l e rmX9_ifReplaced_1 s m args below meth c H locs 0 0 Q (F0 m 9 ls [.int (jz (if 0 ≤ z ∧ z ≤ 1 then 1 else 0))])
    refine jv_top (fun r_2 er_2 => ?_)
    refine jv_if_eq (tgt := 28) hx hb dX9_ifReplaced_9 (by decide) (by rw [er_2]; split <;> omega) (fun c_3 => ?_) (fun c_3 => ?_)
    · refine lv_aload_n hx hb dX9_ifReplaced_28 rfl (lv_at hl 0 rfl) ?_
      refine jv_iconst hx hb dX9_ifReplaced_29 ?_
      refine kV ⟨hx, hb, hml, hown, hts⟩ hK hA hS hP hD [.int (jz 1)] [] (mX9_throwing l G x xs xb xm xf xu xg xw kn bl ft vh vm vs ln 0 sp pl wr br aS aB aM aO aU aG aW 1 ) lkX9_98 [0] [] (br := []) rfl rfl (by decide) 0 9 rfl rfl rfl rfl (Nat.le_of_ble_eq_true rfl) hl.1 dX9_ifReplaced_30 ⟨Nat.le_of_ble_eq_true rfl, Nat.le_of_ble_eq_true rfl⟩ ⟨Nat.le_of_ble_eq_true rfl, Nat.le_of_ble_eq_true rfl⟩ (fun u9 H locs hp9 hP hD hS => ?_)
      have hP : wP G [bMod G x xs xb xm xf xu xg xw kn bl ft vh vm vs ln 1 sp pl wr br aS aB aM aO aU aG aW] H := hP
      have hD : wD A [bMod G x xs xb xm xf xu xg xw kn bl ft vh vm vs ln 1 sp pl wr br aS aB aM aO aU aG aW] := hD
      show W p l e rmX9_ifReplaced_1 s m args below meth c H locs 0 0 Q (F0 m 33 ls [.int (jz 0)])
      exact cret_i hx hb hr hlocks hS hP hD (Nat.le_of_ble_eq_true rfl) (Nat.le_of_ble_eq_true rfl) rfl dX9_ifReplaced_33 [0] (by decide) () rfl trivial (congrArg (fun z : Int => some (Value.int (jz z))) (show 0 = 0 from by first | rfl | omega | (split <;> first | rfl | omega | (exfalso; omega)))) hQ
    · have hzz : 0 ≤ z ∧ z ≤ 1 := by have q9 := er_2; split at q9 <;> omega
      have hsz9 := hsz hzz.1 hzz.2
      refine lv_iload_n hx hb dX9_ifReplaced_12 rfl (lv_at hl 2 rfl) ?_
      refine jv_iconst hx hb dX9_ifReplaced_13 ?_
      refine lv_aload_n hx hb dX9_ifReplaced_14 rfl (lv_at hl 0 rfl) ?_
      refine va_get (ci := 9) (v := .ref xs) (C := RX9) (T := TX9) (N := 19) hx hb hts wfX9 hown hK.1 hP 0 rfl rfl 0 (by decide) (hts _ wm810) (fun _ h9 => h9) rfl dX9_ifReplaced_15 ?_
      refine lv_iload_n hx hb dX9_ifReplaced_18 rfl (lv_at hl 1 rfl) ?_
      refine jv_iald hx hb hK.1 hP 1 (g := aS) rfl (by omega) (by omega) (by decide) dX9_ifReplaced_19 ?_
      refine jv_iconst hx hb dX9_ifReplaced_20 ?_
      refine jv_isub hx hb dX9_ifReplaced_21 ?_
      refine kS ⟨hx, hb, hml, hown, hts⟩ hK hA hS hP hD [.int (jz i), .int (jz 0), .int (jz ((aS z) - 1))] [] (mX9_in l G i 0 ((aS z) - 1) (by omega) (by omega) (by omega)) lkX9_42 [] [0] (br := [bMod G x xs xb xm xf xu xg xw kn bl ft vh vm vs ln 0 sp pl wr br aS aB aM aO aU aG aW]) rfl rfl (by decide) rfl rfl (Nat.le_of_ble_eq_true rfl) hl.1 dX9_ifReplaced_22 ⟨Nat.le_of_ble_eq_true rfl, Nat.le_of_ble_eq_true rfl⟩ ⟨Nat.le_of_ble_eq_true rfl, Nat.le_of_ble_eq_true rfl⟩ (fun u9 H locs hp9 hP hD hS => ?_)
      have hP : wP G [bMod G x xs xb xm xf xu xg xw kn bl ft vh vm vs ln 0 sp pl wr br aS aB aM aO aU aG aW] H := hP
      have hD : wD A [bMod G x xs xb xm xf xu xg xw kn bl ft vh vm vs ln 0 sp pl wr br aS aB aM aO aU aG aW] := hD
      show W p l e rmX9_ifReplaced_1 s m args below meth c H locs 0 0 Q (F0 m 25 ls [.int (jz (if 0 ≤ i ∧ i ≤ ((aS z) - 1) then 1 else 0))])
      refine jv_top (fun r_6 er_6 => ?_)
      refine jv_if_ne (tgt := 34) hx hb dX9_ifReplaced_25 (by decide) (by rw [er_6]; split <;> omega) (fun c_7 => ?_) (fun c_7 => ?_)
      · exfalso; have q9 := er_6; split at q9 <;> omega
      · refine lv_aload_n hx hb dX9_ifReplaced_28 rfl (lv_at hl 0 rfl) ?_
        refine jv_iconst hx hb dX9_ifReplaced_29 ?_
        refine kV ⟨hx, hb, hml, hown, hts⟩ hK hA hS hP hD [.int (jz 1)] [] (mX9_throwing l G x xs xb xm xf xu xg xw kn bl ft vh vm vs ln 0 sp pl wr br aS aB aM aO aU aG aW 1 ) lkX9_98 [0] [] (br := []) rfl rfl (by decide) 0 9 rfl rfl rfl rfl (Nat.le_of_ble_eq_true rfl) hl.1 dX9_ifReplaced_30 ⟨Nat.le_of_ble_eq_true rfl, Nat.le_of_ble_eq_true rfl⟩ ⟨Nat.le_of_ble_eq_true rfl, Nat.le_of_ble_eq_true rfl⟩ (fun u9 H locs hp9 hP hD hS => ?_)
        have hP : wP G [bMod G x xs xb xm xf xu xg xw kn bl ft vh vm vs ln 1 sp pl wr br aS aB aM aO aU aG aW] H := hP
        have hD : wD A [bMod G x xs xb xm xf xu xg xw kn bl ft vh vm vs ln 1 sp pl wr br aS aB aM aO aU aG aW] := hD
        show W p l e rmX9_ifReplaced_1 s m args below meth c H locs 0 0 Q (F0 m 33 ls [.int (jz 0)])
        exact cret_i hx hb hr hlocks hS hP hD (Nat.le_of_ble_eq_true rfl) (Nat.le_of_ble_eq_true rfl) rfl dX9_ifReplaced_33 [0] (by decide) () rfl trivial (congrArg (fun z : Int => some (Value.int (jz z))) (show 0 = 0 from by first | rfl | omega | (split <;> first | rfl | omega | (exfalso; omega)))) hQ
  exact KH s.heap [] hP hD hS
abbrev rmX9_letter_1 : Room := { frames := 2, cells := 0, slots := 0, locals := 42 }
set_option maxHeartbeats 4000000 in
set_option maxRecDepth 100000 in
theorem mX9_letter_1 (l : Launch) (G : GG) (x : Nat) (xs : Nat) (xb : Nat) (xm : Nat) (xf : Nat) (xu : Nat) (xg : Nat) (xw : Nat) (kn : Int) (bl : Int) (ft : Int) (vh : Int) (vm : Int) (vs : Int) (ln : Int) (th : Int) (sp : Int) (pl : Int) (wr : Int) (br : Int) (aS : Int → Int) (aB : Int → Int) (aM : Int → Int) (aO : Int → Int) (aU : Int → Int) (aG : Int → Int) (aW : Int → Int) (z : Int) (i : Int) (hs0 : 0 ≤ aS 0 ∧ aS 0 ≤ 20) (hs1 : 0 ≤ aS 1 ∧ aS 1 ≤ 20) (hj0 : jr z) (hj1 : jr i) (hbad : ¬ ((0 ≤ z ∧ z ≤ 1) ∧ 0 ≤ i ∧ i ≤ aS z - 1)) : Ct l yX9_letter cX9_letter 3 (some .int) rmX9_letter_1 G [.ref x, .int (jz z), .int (jz i)] [bMod G x xs xb xm xf xu xg xw kn bl ft vh vm vs ln th sp pl wr br aS aB aM aO aU aG aW] (fun uo : Unit => some (.int (jz 0))) (fun uo => True) (fun uo => [bMod G x xs xb xm xf xu xg xw kn bl ft vh vm vs ln 1 sp pl wr br aS aB aM aO aU aG aW]) := by
  refine cof (by decide) (Nat.le_of_ble_eq_true rfl) ?_
  intro p e s m args below meth c A ls hx hb hr hml hown hts hlocks hin hA hK hP hD hS hl Q hQ
  have hown : s.vm.findClass RX9 = some m.cls := hown
  have hl : lv_has ls 3 [(0, .ref x), (1, .int (jz z)), (2, .int (jz i))] := hl
  have KH : ∀ (H : Heap) (locs : List Loc), wP G [bMod G x xs xb xm xf xu xg xw kn bl ft vh vm vs ln th sp pl wr br aS aB aM aO aU aG aW] H → wD A [bMod G x xs xb xm xf xu xg xw kn bl ft vh vm vs ln th sp pl wr br aS aB aM aO aU aG aW] → va_S A s.heap H locs → W p l e rmX9_letter_1 s m args below meth c H locs 0 0 Q (F0 m 0 ls []) := by
    intro H locs hP hD hS
    have hsz : 0 ≤ z → z ≤ 1 → 0 ≤ aS z ∧ aS z ≤ 20 := by intro q1 q2; rcases (show z = 0 ∨ z = 1 by omega) with e9 | e9 <;> rw [e9] <;> assumption
    refine lv_aload_n hx hb dX9_letter_0 rfl (lv_at hl 0 rfl) ?_
    refine jv_iconst hx hb dX9_letter_1 ?_
    refine va_put (ci := 9) (v := .int (jz 0)) (ty := .int) (C := RX9) (T := TX9) (N := 19) hx hb hts wfX9 tyX9 tyX9_ok nmX9 hown hK.1 hP hD hS 0 rfl rfl 12 (by decide) (hts _ wm822) (fun _ h9 => h9) rfl (by decide +kernel) rfl rfl (Nat.le_of_ble_eq_true rfl) dX9_letter_2 (fun H locs hP hD hS => ?_)
    have hP : wP G [bMod G x xs xb xm xf xu xg xw kn bl ft vh vm vs ln 0 sp pl wr br aS aB aM aO aU aG aW] H := hP
    have hD : wD A [bMod G x xs xb xm xf xu xg xw kn bl ft vh vm vs ln 0 sp pl wr br aS aB aM aO aU aG aW] := hD
    refine lv_iload_n hx hb dX9_letter_5 rfl (lv_at hl 1 rfl) ?_
    refine kS ⟨hx, hb, hml, hown, hts⟩ hK hA hS hP hD [.int (jz z)] [] (mX9_isText l G z (by omega)) lkX9_109 [] [0] (br := [bMod G x xs xb xm xf xu xg xw kn bl ft vh vm vs ln 0 sp pl wr br aS aB aM aO aU aG aW]) rfl rfl (by decide) rfl rfl (Nat.le_of_ble_eq_true rfl) hl.1 dX9_letter_6 ⟨Nat.le_of_ble_eq_true rfl, Nat.le_of_ble_eq_true rfl⟩ ⟨Nat.le_of_ble_eq_true rfl, Nat.le_of_ble_eq_true rfl⟩ (fun u9 H locs hp9 hP hD hS => ?_)
    have hP : wP G [bMod G x xs xb xm xf xu xg xw kn bl ft vh vm vs ln 0 sp pl wr br aS aB aM aO aU aG aW] H := hP
    have hD : wD A [bMod G x xs xb xm xf xu xg xw kn bl ft vh vm vs ln 0 sp pl wr br aS aB aM aO aU aG aW] := hD
    show W p l e rmX9_letter_1 s m args below meth c H locs 0 0 Q (F0 m 9 ls [.int (jz (if 0 ≤ z ∧ z ≤ 1 then 1 else 0))])
    refine jv_top (fun r_2 er_2 => ?_)
    refine jv_if_eq (tgt := 37) hx hb dX9_letter_9 (by decide) (by rw [er_2]; split <;> omega) (fun c_3 => ?_) (fun c_3 => ?_)
    · refine lv_aload_n hx hb dX9_letter_37 rfl (lv_at hl 0 rfl) ?_
      refine jv_iconst hx hb dX9_letter_38 ?_
      refine kV ⟨hx, hb, hml, hown, hts⟩ hK hA hS hP hD [.int (jz 1)] [] (mX9_throwing l G x xs xb xm xf xu xg xw kn bl ft vh vm vs ln 0 sp pl wr br aS aB aM aO aU aG aW 1 ) lkX9_98 [0] [] (br := []) rfl rfl (by decide) 0 9 rfl rfl rfl rfl (Nat.le_of_ble_eq_true rfl) hl.1 dX9_letter_39 ⟨Nat.le_of_ble_eq_true rfl, Nat.le_of_ble_eq_true rfl⟩ ⟨Nat.le_of_ble_eq_true rfl, Nat.le_of_ble_eq_true rfl⟩ (fun u9 H locs hp9 hP hD hS => ?_)
      have hP : wP G [bMod G x xs xb xm xf xu xg xw kn bl ft vh vm vs ln 1 sp pl wr br aS aB aM aO aU aG aW] H := hP
      have hD : wD A [bMod G x xs xb xm xf xu xg xw kn bl ft vh vm vs ln 1 sp pl wr br aS aB aM aO aU aG aW] := hD
      show W p l e rmX9_letter_1 s m args below meth c H locs 0 0 Q (F0 m 42 ls [.int (jz 0)])
      exact cret_i hx hb hr hlocks hS hP hD (Nat.le_of_ble_eq_true rfl) (Nat.le_of_ble_eq_true rfl) rfl dX9_letter_42 [0] (by decide) () rfl trivial (congrArg (fun z : Int => some (Value.int (jz z))) (show 0 = 0 from by first | rfl | omega | (split <;> first | rfl | omega | (exfalso; omega)))) hQ
    · have hzz : 0 ≤ z ∧ z ≤ 1 := by have q9 := er_2; split at q9 <;> omega
      have hsz9 := hsz hzz.1 hzz.2
      refine lv_iload_n hx hb dX9_letter_12 rfl (lv_at hl 2 rfl) ?_
      refine jv_iconst hx hb dX9_letter_13 ?_
      refine lv_aload_n hx hb dX9_letter_14 rfl (lv_at hl 0 rfl) ?_
      refine va_get (ci := 9) (v := .ref xs) (C := RX9) (T := TX9) (N := 19) hx hb hts wfX9 hown hK.1 hP 0 rfl rfl 0 (by decide) (hts _ wm810) (fun _ h9 => h9) rfl dX9_letter_15 ?_
      refine lv_iload_n hx hb dX9_letter_18 rfl (lv_at hl 1 rfl) ?_
      refine jv_iald hx hb hK.1 hP 1 (g := aS) rfl (by omega) (by omega) (by decide) dX9_letter_19 ?_
      refine jv_iconst hx hb dX9_letter_20 ?_
      refine jv_isub hx hb dX9_letter_21 ?_
      refine kS ⟨hx, hb, hml, hown, hts⟩ hK hA hS hP hD [.int (jz i), .int (jz 0), .int (jz ((aS z) - 1))] [] (mX9_in l G i 0 ((aS z) - 1) (by omega) (by omega) (by omega)) lkX9_42 [] [0] (br := [bMod G x xs xb xm xf xu xg xw kn bl ft vh vm vs ln 0 sp pl wr br aS aB aM aO aU aG aW]) rfl rfl (by decide) rfl rfl (Nat.le_of_ble_eq_true rfl) hl.1 dX9_letter_22 ⟨Nat.le_of_ble_eq_true rfl, Nat.le_of_ble_eq_true rfl⟩ ⟨Nat.le_of_ble_eq_true rfl, Nat.le_of_ble_eq_true rfl⟩ (fun u9 H locs hp9 hP hD hS => ?_)
      have hP : wP G [bMod G x xs xb xm xf xu xg xw kn bl ft vh vm vs ln 0 sp pl wr br aS aB aM aO aU aG aW] H := hP
      have hD : wD A [bMod G x xs xb xm xf xu xg xw kn bl ft vh vm vs ln 0 sp pl wr br aS aB aM aO aU aG aW] := hD
      show W p l e rmX9_letter_1 s m args below meth c H locs 0 0 Q (F0 m 25 ls [.int (jz (if 0 ≤ i ∧ i ≤ ((aS z) - 1) then 1 else 0))])
      refine jv_top (fun r_6 er_6 => ?_)
      refine jv_if_eq (tgt := 37) hx hb dX9_letter_25 (by decide) (by rw [er_6]; split <;> omega) (fun c_7 => ?_) (fun c_7 => ?_)
      · refine lv_aload_n hx hb dX9_letter_37 rfl (lv_at hl 0 rfl) ?_
        refine jv_iconst hx hb dX9_letter_38 ?_
        refine kV ⟨hx, hb, hml, hown, hts⟩ hK hA hS hP hD [.int (jz 1)] [] (mX9_throwing l G x xs xb xm xf xu xg xw kn bl ft vh vm vs ln 0 sp pl wr br aS aB aM aO aU aG aW 1 ) lkX9_98 [0] [] (br := []) rfl rfl (by decide) 0 9 rfl rfl rfl rfl (Nat.le_of_ble_eq_true rfl) hl.1 dX9_letter_39 ⟨Nat.le_of_ble_eq_true rfl, Nat.le_of_ble_eq_true rfl⟩ ⟨Nat.le_of_ble_eq_true rfl, Nat.le_of_ble_eq_true rfl⟩ (fun u9 H locs hp9 hP hD hS => ?_)
        have hP : wP G [bMod G x xs xb xm xf xu xg xw kn bl ft vh vm vs ln 1 sp pl wr br aS aB aM aO aU aG aW] H := hP
        have hD : wD A [bMod G x xs xb xm xf xu xg xw kn bl ft vh vm vs ln 1 sp pl wr br aS aB aM aO aU aG aW] := hD
        show W p l e rmX9_letter_1 s m args below meth c H locs 0 0 Q (F0 m 42 ls [.int (jz 0)])
        exact cret_i hx hb hr hlocks hS hP hD (Nat.le_of_ble_eq_true rfl) (Nat.le_of_ble_eq_true rfl) rfl dX9_letter_42 [0] (by decide) () rfl trivial (congrArg (fun z : Int => some (Value.int (jz z))) (show 0 = 0 from by first | rfl | omega | (split <;> first | rfl | omega | (exfalso; omega)))) hQ
      · exfalso; have q9 := er_6; split at q9 <;> omega
  exact KH s.heap [] hP hD hS
