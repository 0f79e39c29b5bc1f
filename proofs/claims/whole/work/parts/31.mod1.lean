abbrev T9 (f : Int → Int) (z : Int) : Int → Int := fun j => f (3 + 20 * z + j)
theorem up_row2 {h : Int → Int} {F : Int → Int → Int} {i j n2 v : Int} (hn : n2 ≤ 20) (hj : 0 ≤ j ∧ j ≤ n2) (hh : ∀ x y : Int, 0 ≤ x → 0 ≤ y → y ≤ n2 → (x < i ∨ (x = i ∧ y < j)) → h (21 * x + y) = F x y) (hv : v = F i j) :
    ∀ x y : Int, 0 ≤ x → 0 ≤ y → y ≤ n2 → (x < i ∨ (x = i ∧ y < j + 1)) → up h (21 * i + j) v (21 * x + y) = F x y := by
  intro x y h1 h2 h3 h4
  unfold up
  by_cases e : 21 * x + y = 21 * i + j
  · have e1 : x = i := by omega
    have e2 : y = j := by omega
    rw [if_pos e, hv, e1, e2]
  · rw [if_neg e]
    exact hh x y h1 h2 h3 (by omega)
abbrev bMod (G : GG) (x : Nat) (xs : Nat) (xb : Nat) (xm : Nat) (xf : Nat) (xu : Nat) (xg : Nat) (xw : Nat) (kn : Int) (bl : Int) (ft : Int) (vh : Int) (vm : Int) (vs : Int) (ln : Int) (th : Int) (sp : Int) (pl : Int) (wr : Int) (br : Int) (aS : Int → Int) (aB : Int → Int) (aM : Int → Int) (aO : Int → Int) (aU : Int → Int) (aG : Int → Int) (aW : Int → Int) : va_W := [(x, .inr (9, [.ref xs, .ref xb, .int (jz kn), .int (jz bl), .ref xm, .ref xf, .int (jz ft), .int (jz vh), .int (jz vm), .int (jz vs), .ref xu, .int (jz ln), .int (jz th), .ref xg, .ref xw, .int (jz sp), .int (jz pl), .int (jz wr), .int (jz br)])), (xs, ja G 43 aS), (xb, ja G 258 aB), (xm, jb G 20736 aM), (xf, ja G 20736 aO), (xu, ja G 60 aU), (xg, ja G 441 aG), (xw, ja G 40 aW)]
abbrev rmX9_thrown : Room := { frames := 0, cells := 0, slots := 0, locals := 0 }
set_option maxHeartbeats 4000000 in
set_option maxRecDepth 100000 in
theorem mX9_thrown (l : Launch) (G : GG) (x : Nat) (xs : Nat) (xb : Nat) (xm : Nat) (xf : Nat) (xu : Nat) (xg : Nat) (xw : Nat) (kn : Int) (bl : Int) (ft : Int) (vh : Int) (vm : Int) (vs : Int) (ln : Int) (th : Int) (sp : Int) (pl : Int) (wr : Int) (br : Int) (aS : Int → Int) (aB : Int → Int) (aM : Int → Int) (aO : Int → Int) (aU : Int → Int) (aG : Int → Int) (aW : Int → Int)  : Ct l yX9_thrown cX9_thrown 1 (some .int) rmX9_thrown G [.ref x] [bMod G x xs xb xm xf xu xg xw kn bl ft vh vm vs ln th sp pl wr br aS aB aM aO aU aG aW] (fun uo : Unit => some (.int (jz th))) (fun uo => True) (fun uo => [bMod G x xs xb xm xf xu xg xw kn bl ft vh vm vs ln th sp pl wr br aS aB aM aO aU aG aW]) := by
  refine cof (by decide) (Nat.le_of_ble_eq_true rfl) ?_
  intro p e s m args below meth c A ls hx hb hr hml hown hts hlocks hin hA hK hP hD hS hl Q hQ
  have hown : s.vm.findClass RX9 = some m.cls := hown
  have hl : lv_has ls 1 [(0, .ref x)] := hl
  have KH : ∀ (H : Heap) (locs : List Loc), wP G [bMod G x xs xb xm xf xu xg xw kn bl ft vh vm vs ln th sp pl wr br aS aB aM aO aU aG aW] H → wD A [bMod G x xs xb xm xf xu xg xw kn bl ft vh vm vs ln th sp pl wr br aS aB aM aO aU aG aW] → va_S A s.heap H locs → W p l e rmX9_thrown s m args below meth c H locs 0 0 Q (F0 m 0 ls []) := by
    intro H locs hP hD hS
    refine lv_aload_n hx hb dX9_thrown_0 rfl (lv_at hl 0 rfl) ?_
    refine va_get (ci := 9) (v := .int (jz th)) (C := RX9) (T := TX9) (N := 19) hx hb hts wfX9 hown hK.1 hP 0 rfl rfl 12 (by decide) (hts _ wm822) (fun _ h9 => h9) rfl dX9_thrown_1 ?_
    exact cret_i hx hb hr hlocks hS hP hD (Nat.le_of_ble_eq_true rfl) (Nat.le_of_ble_eq_true rfl) rfl dX9_thrown_4 [0] (by decide) () rfl trivial (congrArg (fun z : Int => some (Value.int (jz z))) (show th = th from by first | rfl | omega | (split <;> first | rfl | omega | (exfalso; omega)))) hQ
  exact KH s.heap [] hP hD hS
abbrev rmX9_throwing : Room := { frames := 0, cells := 0, slots := 0, locals := 0 }
set_option maxHeartbeats 4000000 in
set_option maxRecDepth 100000 in
theorem mX9_throwing (l : Launch) (G : GG) (x : Nat) (xs : Nat) (xb : Nat) (xm : Nat) (xf : Nat) (xu : Nat) (xg : Nat) (xw : Nat) (kn : Int) (bl : Int) (ft : Int) (vh : Int) (vm : Int) (vs : Int) (ln : Int) (th : Int) (sp : Int) (pl : Int) (wr : Int) (br : Int) (aS : Int → Int) (aB : Int → Int) (aM : Int → Int) (aO : Int → Int) (aU : Int → Int) (aG : Int → Int) (aW : Int → Int) (z : Int)  : Ct l yX9_throwing cX9_throwing 2 (some .int) rmX9_throwing G [.ref x, .int (jz z)] [bMod G x xs xb xm xf xu xg xw kn bl ft vh vm vs ln th sp pl wr br aS aB aM aO aU aG aW] (fun uo : Unit => some (.int (jz 0))) (fun uo => True) (fun uo => [bMod G x xs xb xm xf xu xg xw kn bl ft vh vm vs ln z sp pl wr br aS aB aM aO aU aG aW]) := by
  refine cof (by decide) (Nat.le_of_ble_eq_true rfl) ?_
  intro p e s m args below meth c A ls hx hb hr hml hown hts hlocks hin hA hK hP hD hS hl Q hQ
  have hown : s.vm.findClass RX9 = some m.cls := hown
  have hl : lv_has ls 2 [(0, .ref x), (1, .int (jz z))] := hl
  have KH : ∀ (H : Heap) (locs : List Loc), wP G [bMod G x xs xb xm xf xu xg xw kn bl ft vh vm vs ln th sp pl wr br aS aB aM aO aU aG aW] H → wD A [bMod G x xs xb xm xf xu xg xw kn bl ft vh vm vs ln th sp pl wr br aS aB aM aO aU aG aW] → va_S A s.heap H locs → W p l e rmX9_throwing s m args below meth c H locs 0 0 Q (F0 m 0 ls []) := by
    intro H locs hP hD hS
    refine lv_aload_n hx hb dX9_throwing_0 rfl (lv_at hl 0 rfl) ?_
    refine lv_iload_n hx hb dX9_throwing_1 rfl (lv_at hl 1 rfl) ?_
    refine va_put (ci := 9) (v := .int (jz z)) (ty := .int) (C := RX9) (T := TX9) (N := 19) hx hb hts wfX9 tyX9 tyX9_ok nmX9 hown hK.1 hP hD hS 0 rfl rfl 12 (by decide) (hts _ wm822) (fun _ h9 => h9) rfl (by decide +kernel) rfl rfl (Nat.le_of_ble_eq_true rfl) dX9_throwing_2 (fun H locs hP hD hS => ?_)
    have hP : wP G [bMod G x xs xb xm xf xu xg xw kn bl ft vh vm vs ln z sp pl wr br aS aB aM aO aU aG aW] H := hP
    have hD : wD A [bMod G x xs xb xm xf xu xg xw kn bl ft vh vm vs ln z sp pl wr br aS aB aM aO aU aG aW] := hD
    refine jv_iconst hx hb dX9_throwing_5 ?_
    exact cret_i hx hb hr hlocks hS hP hD (Nat.le_of_ble_eq_true rfl) (Nat.le_of_ble_eq_true rfl) rfl dX9_throwing_6 [0] (by decide) () rfl trivial (congrArg (fun z : Int => some (Value.int (jz z))) (show 0 = 0 from by first | rfl | omega | (split <;> first | rfl | omega | (exfalso; omega)))) hQ
  exact KH s.heap [] hP hD hS
abbrev rmX9_in_T : Room := { frames := 0, cells := 0, slots := 0, locals := 0 }
set_option maxHeartbeats 4000000 in
set_option maxRecDepth 100000 in
theorem mX9_in_T (l : Launch) (G : GG) (u : Int) (v : Int) (w : Int) (h1 : jr u) (h2 : jr v) (h3 : jr w) (h4 : v ≤ u ∧ u ≤ w) : Ct l yX9_in cX9_in 3 (some .boolean) rmX9_in_T G [.int (jz u), .int (jz v), .int (jz w)] [] (fun uo : Unit => some (.int (jz 1))) (fun uo => True) (fun uo => []) := by
  refine cof (by decide) (Nat.le_of_ble_eq_true rfl) ?_
  intro p e s m args below meth c A ls hx hb hr hml hown hts hlocks hin hA hK hP hD hS hl Q hQ
  have hown : s.vm.findClass RX9 = some m.cls := hown
  have hl : lv_has ls 3 [(0, .int (jz u)), (1, .int (jz v)), (2, .int (jz w))] := hl
  have KH : ∀ (H : Heap) (locs : List Loc), wP G [] H → wD A [] → va_S A s.heap H locs → W p l e rmX9_in_T s m args below meth c H locs 0 0 Q (F0 m 0 ls []) := by
    intro H locs hP hD hS
    refine lv_iload_n hx hb dX9_in_0 rfl (lv_at hl 0 rfl) ?_
    refine lv_iload_n hx hb dX9_in_1 rfl (lv_at hl 1 rfl) ?_
    refine jv_icmp_lt (tgt := 14) hx hb dX9_in_2 (by decide) (by omega) (by omega) (fun c_1 => ?_) (fun c_1 => ?_)
    · exfalso; omega
    · refine lv_iload_n hx hb dX9_in_5 rfl (lv_at hl 0 rfl) ?_
      refine lv_iload_n hx hb dX9_in_6 rfl (lv_at hl 2 rfl) ?_
      refine jv_icmp_gt (tgt := 14) hx hb dX9_in_7 (by decide) (by omega) (by omega) (fun c_2 => ?_) (fun c_2 => ?_)
      · exfalso; omega
      · refine jv_iconst hx hb dX9_in_10 ?_
        refine lv_goto (tgt := 15) hx hb dX9_in_11 (by decide) ?_
        exact cret_i hx hb hr hlocks hS hP hD (Nat.le_of_ble_eq_true rfl) (Nat.le_of_ble_eq_true rfl) (jz_nb (show 1 = 0 ∨ 1 = 1 by omega)) dX9_in_15 [] (by decide) () rfl trivial (congrArg (fun z : Int => some (Value.int (jz z))) (show 1 = 1 from by first | rfl | omega | (split <;> first | rfl | omega | (exfalso; omega)))) hQ
  exact KH s.heap [] hP hD hS
abbrev rmX9_in_F : Room := { frames := 0, cells := 0, slots := 0, locals := 0 }
set_option maxHeartbeats 4000000 in
set_option maxRecDepth 100000 in
theorem mX9_in_F (l : Launch) (G : GG) (u : Int) (v : Int) (w : Int) (h1 : jr u) (h2 : jr v) (h3 : jr w) (h4 : ¬ (v ≤ u ∧ u ≤ w)) : Ct l yX9_in cX9_in 3 (some .boolean) rmX9_in_F G [.int (jz u), .int (jz v), .int (jz w)] [] (fun uo : Unit => some (.int (jz 0))) (fun uo => True) (fun uo => []) := by
  refine cof (by decide) (Nat.le_of_ble_eq_true rfl) ?_
  intro p e s m args below meth c A ls hx hb hr hml hown hts hlocks hin hA hK hP hD hS hl Q hQ
  have hown : s.vm.findClass RX9 = some m.cls := hown
  have hl : lv_has ls 3 [(0, .int (jz u)), (1, .int (jz v)), (2, .int (jz w))] := hl
  have KH : ∀ (H : Heap) (locs : List Loc), wP G [] H → wD A [] → va_S A s.heap H locs → W p l e rmX9_in_F s m args below meth c H locs 0 0 Q (F0 m 0 ls []) := by
    intro H locs hP hD hS
    refine lv_iload_n hx hb dX9_in_0 rfl (lv_at hl 0 rfl) ?_
    refine lv_iload_n hx hb dX9_in_1 rfl (lv_at hl 1 rfl) ?_
    refine jv_icmp_lt (tgt := 14) hx hb dX9_in_2 (by decide) (by omega) (by omega) (fun c_1 => ?_) (fun c_1 => ?_)
    · refine jv_iconst hx hb dX9_in_14 ?_
      exact cret_i hx hb hr hlocks hS hP hD (Nat.le_of_ble_eq_true rfl) (Nat.le_of_ble_eq_true rfl) (jz_nb (show 0 = 0 ∨ 0 = 1 by omega)) dX9_in_15 [] (by decide) () rfl trivial (congrArg (fun z : Int => some (Value.int (jz z))) (show 0 = 0 from by first | rfl | omega | (split <;> first | rfl | omega | (exfalso; omega)))) hQ
    · refine lv_iload_n hx hb dX9_in_5 rfl (lv_at hl 0 rfl) ?_
      refine lv_iload_n hx hb dX9_in_6 rfl (lv_at hl 2 rfl) ?_
      refine jv_icmp_gt (tgt := 14) hx hb dX9_in_7 (by decide) (by omega) (by omega) (fun c_2 => ?_) (fun c_2 => ?_)
      · refine jv_iconst hx hb dX9_in_14 ?_
        exact cret_i hx hb hr hlocks hS hP hD (Nat.le_of_ble_eq_true rfl) (Nat.le_of_ble_eq_true rfl) (jz_nb (show 0 = 0 ∨ 0 = 1 by omega)) dX9_in_15 [] (by decide) () rfl trivial (congrArg (fun z : Int => some (Value.int (jz z))) (show 0 = 0 from by first | rfl | omega | (split <;> first | rfl | omega | (exfalso; omega)))) hQ
      · refine jv_iconst hx hb dX9_in_10 ?_
        refine lv_goto (tgt := 15) hx hb dX9_in_11 (by decide) ?_
        exact cret_i hx hb hr hlocks hS hP hD (Nat.le_of_ble_eq_true rfl) (Nat.le_of_ble_eq_true rfl) (jz_nb (show 1 = 0 ∨ 1 = 1 by omega)) dX9_in_15 [] (by decide) () rfl trivial (congrArg (fun z : Int => some (Value.int (jz z))) (show 1 = 0 from by first | rfl | omega | (split <;> first | rfl | omega | (exfalso; omega)))) hQ
  exact KH s.heap [] hP hD hS
abbrev rmX9_in : Room := { frames := 0, cells := 0, slots := 0, locals := 0 }
set_option maxHeartbeats 4000000 in
set_option maxRecDepth 100000 in
theorem mX9_in (l : Launch) (G : GG) (u : Int) (v : Int) (w : Int) (h1 : jr u) (h2 : jr v) (h3 : jr w) : Ct l yX9_in cX9_in 3 (some .boolean) rmX9_in G [.int (jz u), .int (jz v), .int (jz w)] [] (fun uo : Unit => some (.int (jz (if v ≤ u ∧ u ≤ w then 1 else 0)))) (fun uo => True) (fun uo => []) := by
  refine cof (by decide) (Nat.le_of_ble_eq_true rfl) ?_
  intro p e s m args below meth c A ls hx hb hr hml hown hts hlocks hin hA hK hP hD hS hl Q hQ
  have hown : s.vm.findClass RX9 = some m.cls := hown
  have hl : lv_has ls 3 [(0, .int (jz u)), (1, .int (jz v)), (2, .int (jz w))] := hl
  have KH : ∀ (H : Heap) (locs : List Loc), wP G [] H → wD A [] → va_S A s.heap H locs → W p l e rmX9_in s m args below meth c H locs 0 0 Q (F0 m 0 ls []) := by
    intro H locs hP hD hS
    refine lv_iload_n hx hb dX9_in_0 rfl (lv_at hl 0 rfl) ?_
    refine lv_iload_n hx hb dX9_in_1 rfl (lv_at hl 1 rfl) ?_
    refine jv_icmp_lt (tgt := 14) hx hb dX9_in_2 (by decide) (by omega) (by omega) (fun c_1 => ?_) (fun c_1 => ?_)
    · refine jv_iconst hx hb dX9_in_14 ?_
      exact cret_i hx hb hr hlocks hS hP hD (Nat.le_of_ble_eq_true rfl) (Nat.le_of_ble_eq_true rfl) (jz_nb (show 0 = 0 ∨ 0 = 1 by omega)) dX9_in_15 [] (by decide) () rfl trivial (congrArg (fun z : Int => some (Value.int (jz z))) (show 0 = if v ≤ u ∧ u ≤ w then 1 else 0 from by first | rw [if_pos (by omega)] | rw [if_neg (by omega)])) hQ
    · refine lv_iload_n hx hb dX9_in_5 rfl (lv_at hl 0 rfl) ?_
      refine lv_iload_n hx hb dX9_in_6 rfl (lv_at hl 2 rfl) ?_
      refine jv_icmp_gt (tgt := 14) hx hb dX9_in_7 (by decide) (by omega) (by omega) (fun c_2 => ?_) (fun c_2 => ?_)
      · refine jv_iconst hx hb dX9_in_14 ?_
        exact cret_i hx hb hr hlocks hS hP hD (Nat.le_of_ble_eq_true rfl) (Nat.le_of_ble_eq_true rfl) (jz_nb (show 0 = 0 ∨ 0 = 1 by omega)) dX9_in_15 [] (by decide) () rfl trivial (congrArg (fun z : Int => some (Value.int (jz z))) (show 0 = if v ≤ u ∧ u ≤ w then 1 else 0 from by first | rw [if_pos (by omega)] | rw [if_neg (by omega)])) hQ
      · refine jv_iconst hx hb dX9_in_10 ?_
        refine lv_goto (tgt := 15) hx hb dX9_in_11 (by decide) ?_
        exact cret_i hx hb hr hlocks hS hP hD (Nat.le_of_ble_eq_true rfl) (Nat.le_of_ble_eq_true rfl) (jz_nb (show 1 = 0 ∨ 1 = 1 by omega)) dX9_in_15 [] (by decide) () rfl trivial (congrArg (fun z : Int => some (Value.int (jz z))) (show 1 = if v ≤ u ∧ u ≤ w then 1 else 0 from by first | rw [if_pos (by omega)] | rw [if_neg (by omega)])) hQ
  exact KH s.heap [] hP hD hS
abbrev rmX9_isText_T : Room := { frames := 1, cells := 0, slots := 0, locals := 22 }
set_option maxHeartbeats 4000000 in
set_option maxRecDepth 100000 in
theorem mX9_isText_T (l : Launch) (G : GG) (z : Int) (hz : 0 ≤ z ∧ z ≤ 1) : Ct l yX9_isText cX9_isText 1 (some .boolean) rmX9_isText_T G [.int (jz z)] [] (fun uo : Unit => some (.int (jz 1))) (fun uo => True) (fun uo => []) := by
  refine cof (by decide) (Nat.le_of_ble_eq_true rfl) ?_
  intro p e s m args below meth c A ls hx hb hr hml hown hts hlocks hin hA hK hP hD hS hl Q hQ
  have hown : s.vm.findClass RX9 = some m.cls := hown
  have hl : lv_has ls 1 [(0, .int (jz z))] := hl
  have KH : ∀ (H : Heap) (locs : List Loc), wP G [] H → wD A [] → va_S A s.heap H locs → W p l e rmX9_isText_T s m args below meth c H locs 0 0 Q (F0 m 0 ls []) := by
    intro H locs hP hD hS
    refine lv_iload_n hx hb dX9_isText_0 rfl (lv_at hl 0 rfl) ?_
    refine jv_iconst hx hb dX9_isText_1 ?_
    refine jv_iconst hx hb dX9_isText_2 ?_
    refine kS ⟨hx, hb, hml, hown, hts⟩ hK hA hS hP hD [.int (jz z), .int (jz 0), .int (jz 1)] [] (mX9_in_T l G z 0 1 (by omega) (by omega) (by omega) (by omega)) lkX9_42 [] [] (br := []) rfl rfl (by decide) rfl rfl (Nat.le_of_ble_eq_true rfl) hl.1 dX9_isText_3 ⟨Nat.le_of_ble_eq_true rfl, Nat.le_of_ble_eq_true rfl⟩ ⟨Nat.le_of_ble_eq_true rfl, Nat.le_of_ble_eq_true rfl⟩ (fun u9 H locs hp9 hP hD hS => ?_)
    have hP : wP G [] H := hP
    have hD : wD A [] := hD
    show W p l e rmX9_isText_T s m args below meth c H locs 0 0 Q (F0 m 6 ls [.int (jz 1)])
    exact cret_i hx hb hr hlocks hS hP hD (Nat.le_of_ble_eq_true rfl) (Nat.le_of_ble_eq_true rfl) (jz_nb (show 1 = 0 ∨ 1 = 1 by omega)) dX9_isText_6 [] (by decide) () rfl trivial (congrArg (fun z : Int => some (Value.int (jz z))) (show 1 = 1 from by first | rfl | omega | (split <;> first | rfl | omega | (exfalso; omega)))) hQ
  exact KH s.heap [] hP hD hS
abbrev rmX9_isText_F : Room := { frames := 1, cells := 0, slots := 0, locals := 22 }
set_option maxHeartbeats 4000000 in
set_option maxRecDepth 100000 in
theorem mX9_isText_F (l : Launch) (G : GG) (z : Int) (hz : jr z) (hz2 : ¬ (0 ≤ z ∧ z ≤ 1)) : Ct l yX9_isText cX9_isText 1 (some .boolean) rmX9_isText_F G [.int (jz z)] [] (fun uo : Unit => some (.int (jz 0))) (fun uo => True) (fun uo => []) := by
  refine cof (by decide) (Nat.le_of_ble_eq_true rfl) ?_
  intro p e s m args below meth c A ls hx hb hr hml hown hts hlocks hin hA hK hP hD hS hl Q hQ
  have hown : s.vm.findClass RX9 = some m.cls := hown
  have hl : lv_has ls 1 [(0, .int (jz z))] := hl
  have KH : ∀ (H : Heap) (locs : List Loc), wP G [] H → wD A [] → va_S A s.heap H locs → W p l e rmX9_isText_F s m args below meth c H locs 0 0 Q (F0 m 0 ls []) := by
    intro H locs hP hD hS
    refine lv_iload_n hx hb dX9_isText_0 rfl (lv_at hl 0 rfl) ?_
    refine jv_iconst hx hb dX9_isText_1 ?_
    refine jv_iconst hx hb dX9_isText_2 ?_
    refine kS ⟨hx, hb, hml, hown, hts⟩ hK hA hS hP hD [.int (jz z), .int (jz 0), .int (jz 1)] [] (mX9_in_F l G z 0 1 (by omega) (by omega) (by omega) (by omega)) lkX9_42 [] [] (br := []) rfl rfl (by decide) rfl rfl (Nat.le_of_ble_eq_true rfl) hl.1 dX9_isText_3 ⟨Nat.le_of_ble_eq_true rfl, Nat.le_of_ble_eq_true rfl⟩ ⟨Nat.le_of_ble_eq_true rfl, Nat.le_of_ble_eq_true rfl⟩ (fun u9 H locs hp9 hP hD hS => ?_)
    have hP : wP G [] H := hP
    have hD : wD A [] := hD
    show W p l e rmX9_isText_F s m args below meth c H locs 0 0 Q (F0 m 6 ls [.int (jz 0)])
    exact cret_i hx hb hr hlocks hS hP hD (Nat.le_of_ble_eq_true rfl) (Nat.le_of_ble_eq_true rfl) (jz_nb (show 0 = 0 ∨ 0 = 1 by omega)) dX9_isText_6 [] (by decide) () rfl trivial (congrArg (fun z : Int => some (Value.int (jz z))) (show 0 = 0 from by first | rfl | omega | (split <;> first | rfl | omega | (exfalso; omega)))) hQ
  exact KH s.heap [] hP hD hS
abbrev rmX9_of : Room := { frames := 0, cells := 0, slots := 0, locals := 0 }
set_option maxHeartbeats 4000000 in
set_option maxRecDepth 100000 in
theorem mX9_of (l : Launch) (G : GG) (x : Nat) (xs : Nat) (xb : Nat) (xm : Nat) (xf : Nat) (xu : Nat) (xg : Nat) (xw : Nat) (kn : Int) (bl : Int) (ft : Int) (vh : Int) (vm : Int) (vs : Int) (ln : Int) (th : Int) (sp : Int) (pl : Int) (wr : Int) (br : Int) (aS : Int → Int) (aB : Int → Int) (aM : Int → Int) (aO : Int → Int) (aU : Int → Int) (aG : Int → Int) (aW : Int → Int) (z : Int) (j : Int) (hz : 0 ≤ z ∧ z ≤ 1) (hj : 0 ≤ j ∧ j < 20) : Ct l yX9_of cX9_of 3 (some .int) rmX9_of G [.ref x, .int (jz z), .int (jz j)] [bMod G x xs xb xm xf xu xg xw kn bl ft vh vm vs ln th sp pl wr br aS aB aM aO aU aG aW] (fun uo : Unit => some (.int (jz (T9 aS z j)))) (fun uo => True) (fun uo => [bMod G x xs xb xm xf xu xg xw kn bl ft vh vm vs ln th sp pl wr br aS aB aM aO aU aG aW]) := by
  refine cof (by decide) (Nat.le_of_ble_eq_true rfl) ?_
  intro p e s m args below meth c A ls hx hb hr hml hown hts hlocks hin hA hK hP hD hS hl Q hQ
  have hown : s.vm.findClass RX9 = some m.cls := hown
  have hl : lv_has ls 3 [(0, .ref x), (1, .int (jz z)), (2, .int (jz j))] := hl
  have KH : ∀ (H : Heap) (locs : List Loc), wP G [bMod G x xs xb xm xf xu xg xw kn bl ft vh vm vs ln th sp pl wr br aS aB aM aO aU aG aW] H → wD A [bMod G x xs xb xm xf xu xg xw kn bl ft vh vm vs ln th sp pl wr br aS aB aM aO aU aG aW] → va_S A s.heap H locs → W p l e rmX9_of s m args below meth c H locs 0 0 Q (F0 m 0 ls []) := by
    intro H locs hP hD hS
    refine lv_aload_n hx hb dX9_of_0 rfl (lv_at hl 0 rfl) ?_
    refine va_get (ci := 9) (v := .ref xs) (C := RX9) (T := TX9) (N := 19) hx hb hts wfX9 hown hK.1 hP 0 rfl rfl 0 (by decide) (hts _ wm810) (fun _ h9 => h9) rfl dX9_of_1 ?_
    refine jv_iconst hx hb dX9_of_4 ?_
    refine jv_bipush hx hb dX9_of_5 (by decide) ?_
    refine lv_iload_n hx hb dX9_of_7 rfl (lv_at hl 1 rfl) ?_
    refine jv_imul hx hb dX9_of_8 ?_
    refine jv_iadd hx hb dX9_of_9 ?_
    refine lv_iload_n hx hb dX9_of_10 rfl (lv_at hl 2 rfl) ?_
    refine jv_iadd hx hb dX9_of_11 ?_
    refine jv_iald hx hb hK.1 hP 1 (g := aS) rfl (by omega) (by omega) (by decide) dX9_of_12 ?_
    exact cret_i hx hb hr hlocks hS hP hD (Nat.le_of_ble_eq_true rfl) (Nat.le_of_ble_eq_true rfl) rfl dX9_of_13 [0] (by decide) () rfl trivial (congrArg (fun z : Int => some (Value.int (jz z))) (show (aS ((3 + (20 * z)) + j)) = T9 aS z j from by first | rfl | omega | (split <;> first | rfl | omega | (exfalso; omega)))) hQ
  exact KH s.heap [] hP hD hS
abbrev rmX9_isLetter_T : Room := { frames := 1, cells := 0, slots := 0, locals := 22 }
set_option maxHeartbeats 4000000 in
set_option maxRecDepth 100000 in
theorem mX9_isLetter_T (l : Launch) (G : GG) (x : Nat) (xs : Nat) (xb : Nat) (xm : Nat) (xf : Nat) (xu : Nat) (xg : Nat) (xw : Nat) (kn : Int) (bl : Int) (ft : Int) (vh : Int) (vm : Int) (vs : Int) (ln : Int) (th : Int) (sp : Int) (pl : Int) (wr : Int) (br : Int) (aS : Int → Int) (aB : Int → Int) (aM : Int → Int) (aO : Int → Int) (aU : Int → Int) (aG : Int → Int) (aW : Int → Int) (z : Int) (hs2 : 2 ≤ aS 2 ∧ aS 2 ≤ 4) (hz : 0 ≤ z ∧ z < aS 2) : Ct l yX9_isLetter cX9_isLetter 2 (some .boolean) rmX9_isLetter_T G [.ref x, .int (jz z)] [bMod G x xs xb xm xf xu xg xw kn bl ft vh vm vs ln th sp pl wr br aS aB aM aO aU aG aW] (fun uo : Unit => some (.int (jz 1))) (fun uo => True) (fun uo => [bMod G x xs xb xm xf xu xg xw kn bl ft vh vm vs ln th sp pl wr br aS aB aM aO aU aG aW]) := by
  refine cof (by decide) (Nat.le_of_ble_eq_true rfl) ?_
  intro p e s m args below meth c A ls hx hb hr hml hown hts hlocks hin hA hK hP hD hS hl Q hQ
  have hown : s.vm.findClass RX9 = some m.cls := hown
  have hl : lv_has ls 2 [(0, .ref x), (1, .int (jz z))] := hl
  have KH : ∀ (H : Heap) (locs : List Loc), wP G [bMod G x xs xb xm xf xu xg xw kn bl ft vh vm vs ln th sp pl wr br aS aB aM aO aU aG aW] H → wD A [bMod G x xs xb xm xf xu xg xw kn bl ft vh vm vs ln th sp pl wr br aS aB aM aO aU aG aW] → va_S A s.heap H locs → W p l e rmX9_isLetter_T s m args below meth c H locs 0 0 Q (F0 m 0 ls []) := by
    intro H locs hP hD hS
    refine lv_iload_n hx hb dX9_isLetter_0 rfl (lv_at hl 1 rfl) ?_
    refine jv_iconst hx hb dX9_isLetter_1 ?_
    refine lv_aload_n hx hb dX9_isLetter_2 rfl (lv_at hl 0 rfl) ?_
    refine va_get (ci := 9) (v := .ref xs) (C := RX9) (T := TX9) (N := 19) hx hb hts wfX9 hown hK.1 hP 0 rfl rfl 0 (by decide) (hts _ wm810) (fun _ h9 => h9) rfl dX9_isLetter_3 ?_
    refine jv_iconst hx hb dX9_isLetter_6 ?_
    refine jv_iald hx hb hK.1 hP 1 (g := aS) rfl (by omega) (by omega) (by decide) dX9_isLetter_7 ?_
    refine jv_iconst hx hb dX9_isLetter_8 ?_
    refine jv_isub hx hb dX9_isLetter_9 ?_
    refine kS ⟨hx, hb, hml, hown, hts⟩ hK hA hS hP hD [.int (jz z), .int (jz 0), .int (jz ((aS 2) - 1))] [] (mX9_in_T l G z 0 ((aS 2) - 1) (by omega) (by omega) (by omega) (by omega)) lkX9_42 [] [0] (br := [bMod G x xs xb xm xf xu xg xw kn bl ft vh vm vs ln th sp pl wr br aS aB aM aO aU aG aW]) rfl rfl (by decide) rfl rfl (Nat.le_of_ble_eq_true rfl) hl.1 dX9_isLetter_10 ⟨Nat.le_of_ble_eq_true rfl, Nat.le_of_ble_eq_true rfl⟩ ⟨Nat.le_of_ble_eq_true rfl, Nat.le_of_ble_eq_true rfl⟩ (fun u9 H locs hp9 hP hD hS => ?_)
    have hP : wP G [bMod G x xs xb xm xf xu xg xw kn bl ft vh vm vs ln th sp pl wr br aS aB aM aO aU aG aW] H := hP
    have hD : wD A [bMod G x xs xb xm xf xu xg xw kn bl ft vh vm vs ln th sp pl wr br aS aB aM aO aU aG aW] := hD
    show W p l e rmX9_isLetter_T s m args below meth c H locs 0 0 Q (F0 m 13 ls [.int (jz 1)])
    exact cret_i hx hb hr hlocks hS hP hD (Nat.le_of_ble_eq_true rfl) (Nat.le_of_ble_eq_true rfl) (jz_nb (show 1 = 0 ∨ 1 = 1 by omega)) dX9_isLetter_13 [0] (by decide) () rfl trivial (congrArg (fun z : Int => some (Value.int (jz z))) (show 1 = 1 from by first | rfl | omega | (split <;> first | rfl | omega | (exfalso; omega)))) hQ
  exact KH s.heap [] hP hD hS
abbrev rmX9_isLetter_F : Room := { frames := 1, cells := 0, slots := 0, locals := 22 }
set_option maxHeartbeats 4000000 in
set_option maxRecDepth 100000 in
theorem mX9_isLetter_F (l : Launch) (G : GG) (x : Nat) (xs : Nat) (xb : Nat) (xm : Nat) (xf : Nat) (xu : Nat) (xg : Nat) (xw : Nat) (kn : Int) (bl : Int) (ft : Int) (vh : Int) (vm : Int) (vs : Int) (ln : Int) (th : Int) (sp : Int) (pl : Int) (wr : Int) (br : Int) (aS : Int → Int) (aB : Int → Int) (aM : Int → Int) (aO : Int → Int) (aU : Int → Int) (aG : Int → Int) (aW : Int → Int) (z : Int) (hs2 : 2 ≤ aS 2 ∧ aS 2 ≤ 4) (hz : jr z) (hz2 : ¬ (0 ≤ z ∧ z < aS 2)) : Ct l yX9_isLetter cX9_isLetter 2 (some .boolean) rmX9_isLetter_F G [.ref x, .int (jz z)] [bMod G x xs xb xm xf xu xg xw kn bl ft vh vm vs ln th sp pl wr br aS aB aM aO aU aG aW] (fun uo : Unit => some (.int (jz 0))) (fun uo => True) (fun uo => [bMod G x xs xb xm xf xu xg xw kn bl ft vh vm vs ln th sp pl wr br aS aB aM aO aU aG aW]) := by
  refine cof (by decide) (Nat.le_of_ble_eq_true rfl) ?_
  intro p e s m args below meth c A ls hx hb hr hml hown hts hlocks hin hA hK hP hD hS hl Q hQ
  have hown : s.vm.findClass RX9 = some m.cls := hown
  have hl : lv_has ls 2 [(0, .ref x), (1, .int (jz z))] := hl
  have KH : ∀ (H : Heap) (locs : List Loc), wP G [bMod G x xs xb xm xf xu xg xw kn bl ft vh vm vs ln th sp pl wr br aS aB aM aO aU aG aW] H → wD A [bMod G x xs xb xm xf xu xg xw kn bl ft vh vm vs ln th sp pl wr br aS aB aM aO aU aG aW] → va_S A s.heap H locs → W p l e rmX9_isLetter_F s m args below meth c H locs 0 0 Q (F0 m 0 ls []) := by
    intro H locs hP hD hS
    refine lv_iload_n hx hb dX9_isLetter_0 rfl (lv_at hl 1 rfl) ?_
    refine jv_iconst hx hb dX9_isLetter_1 ?_
    refine lv_aload_n hx hb dX9_isLetter_2 rfl (lv_at hl 0 rfl) ?_
    refine va_get (ci := 9) (v := .ref xs) (C := RX9) (T := TX9) (N := 19) hx hb hts wfX9 hown hK.1 hP 0 rfl rfl 0 (by decide) (hts _ wm810) (fun _ h9 => h9) rfl dX9_isLetter_3 ?_
    refine jv_iconst hx hb dX9_isLetter_6 ?_
    refine jv_iald hx hb hK.1 hP 1 (g := aS) rfl (by omega) (by omega) (by decide) dX9_isLetter_7 ?_
    refine jv_iconst hx hb dX9_isLetter_8 ?_
    refine jv_isub hx hb dX9_isLetter_9 ?_
    refine kS ⟨hx, hb, hml, hown, hts⟩ hK hA hS hP hD [.int (jz z), .int (jz 0), .int (jz ((aS 2) - 1))] [] (mX9_in_F l G z 0 ((aS 2) - 1) (by omega) (by omega) (by omega) (by omega)) lkX9_42 [] [0] (br := [bMod G x xs xb xm xf xu xg xw kn bl ft vh vm vs ln th sp pl wr br aS aB aM aO aU aG aW]) rfl rfl (by decide) rfl rfl (Nat.le_of_ble_eq_true rfl) hl.1 dX9_isLetter_10 ⟨Nat.le_of_ble_eq_true rfl, Nat.le_of_ble_eq_true rfl⟩ ⟨Nat.le_of_ble_eq_true rfl, Nat.le_of_ble_eq_true rfl⟩ (fun u9 H locs hp9 hP hD hS => ?_)
    have hP : wP G [bMod G x xs xb xm xf xu xg xw kn bl ft vh vm vs ln th sp pl wr br aS aB aM aO aU aG aW] H := hP
    have hD : wD A [bMod G x xs xb xm xf xu xg xw kn bl ft vh vm vs ln th sp pl wr br aS aB aM aO aU aG aW] := hD
    show W p l e rmX9_isLetter_F s m args below meth c H locs 0 0 Q (F0 m 13 ls [.int (jz 0)])
    exact cret_i hx hb hr hlocks hS hP hD (Nat.le_of_ble_eq_true rfl) (Nat.le_of_ble_eq_true rfl) (jz_nb (show 0 = 0 ∨ 0 = 1 by omega)) dX9_isLetter_13 [0] (by decide) () rfl trivial (congrArg (fun z : Int => some (Value.int (jz z))) (show 0 = 0 from by first | rfl | omega | (split <;> first | rfl | omega | (exfalso; omega)))) hQ
  exact KH s.heap [] hP hD hS
abbrev rmX9_least : Room := { frames := 0, cells := 0, slots := 0, locals := 0 }
set_option maxHeartbeats 4000000 in
set_option maxRecDepth 100000 in
theorem mX9_least (l : Launch) (G : GG) (u : Int) (v : Int) (w : Int) (h1 : jr u) (h2 : jr v) (h3 : jr w) : Ct l yX9_least cX9_least 4 (some .int) rmX9_least G [.int (jz u), .int (jz v), .int (jz w)] [] (fun uo : Unit => some (.int (jz (min (min u v) w)))) (fun uo => True) (fun uo => []) := by
  refine cof (by decide) (Nat.le_of_ble_eq_true rfl) ?_
  intro p e s m args below meth c A ls hx hb hr hml hown hts hlocks hin hA hK hP hD hS hl Q hQ
  have hown : s.vm.findClass RX9 = some m.cls := hown
  have hl : lv_has ls 4 [(0, .int (jz u)), (1, .int (jz v)), (2, .int (jz w))] := hl
  have KH : ∀ (H : Heap) (locs : List Loc), wP G [] H → wD A [] → va_S A s.heap H locs → W p l e rmX9_least s m args below meth c H locs 0 0 Q (F0 m 0 ls []) := by
    intro H locs hP hD hS
    refine lv_iload_n hx hb dX9_least_0 rfl (lv_at hl 0 rfl) ?_
    refine lv_iload_n hx hb dX9_least_1 rfl (lv_at hl 1 rfl) ?_
    refine jv_icmp_ge (tgt := 9) hx hb dX9_least_2 (by decide) (by omega) (by omega) (fun c_1 => ?_) (fun c_1 => ?_)
    · refine lv_iload_n hx hb dX9_least_9 rfl (lv_at hl 1 rfl) ?_
      refine lv_istore_n (lv' := [(3, .int (jz v)), (0, .int (jz u)), (1, .int (jz v)), (2, .int (jz w))]) hx hb dX9_least_10 rfl hl (by decide) rfl (fun ls hl => ?_)
      refine lv_iload_n hx hb dX9_least_11 rfl (lv_at hl 0 rfl) ?_
      refine lv_iload_n hx hb dX9_least_12 rfl (lv_at hl 3 rfl) ?_
      refine jv_icmp_ge (tgt := 20) hx hb dX9_least_13 (by decide) (by omega) (by omega) (fun c_2 => ?_) (fun c_2 => ?_)
      · refine lv_iload_n hx hb dX9_least_20 rfl (lv_at hl 3 rfl) ?_
        exact cret_i hx hb hr hlocks hS hP hD (Nat.le_of_ble_eq_true rfl) (Nat.le_of_ble_eq_true rfl) rfl dX9_least_21 [] (by decide) () rfl trivial (congrArg (fun z : Int => some (Value.int (jz z))) (show w = min (min u v) w from by first | rfl | omega | (split <;> first | rfl | omega | (exfalso; omega)))) hQ
      · refine lv_iload_n hx hb dX9_least_16 rfl (lv_at hl 0 rfl) ?_
        refine lv_goto (tgt := 21) hx hb dX9_least_17 (by decide) ?_
        exact cret_i hx hb hr hlocks hS hP hD (Nat.le_of_ble_eq_true rfl) (Nat.le_of_ble_eq_true rfl) rfl dX9_least_21 [] (by decide) () rfl trivial (congrArg (fun z : Int => some (Value.int (jz z))) (show v = min (min u v) w from by first | rfl | omega | (split <;> first | rfl | omega | (exfalso; omega)))) hQ
    · refine lv_iload_n hx hb dX9_least_5 rfl (lv_at hl 0 rfl) ?_
      refine lv_goto (tgt := 10) hx hb dX9_least_6 (by decide) ?_
      refine lv_istore_n (lv' := [(3, .int (jz u)), (0, .int (jz u)), (1, .int (jz v)), (2, .int (jz w))]) hx hb dX9_least_10 rfl hl (by decide) rfl (fun ls hl => ?_)
      refine lv_iload_n hx hb dX9_least_11 rfl (lv_at hl 0 rfl) ?_
      refine lv_iload_n hx hb dX9_least_12 rfl (lv_at hl 3 rfl) ?_
      refine jv_icmp_ge (tgt := 20) hx hb dX9_least_13 (by decide) (by omega) (by omega) (fun c_3 => ?_) (fun c_3 => ?_)
      · refine lv_iload_n hx hb dX9_least_20 rfl (lv_at hl 3 rfl) ?_
        exact cret_i hx hb hr hlocks hS hP hD (Nat.le_of_ble_eq_true rfl) (Nat.le_of_ble_eq_true rfl) rfl dX9_least_21 [] (by decide) () rfl trivial (congrArg (fun z : Int => some (Value.int (jz z))) (show w = min (min u v) w from by first | rfl | omega | (split <;> first | rfl | omega | (exfalso; omega)))) hQ
      · refine lv_iload_n hx hb dX9_least_16 rfl (lv_at hl 0 rfl) ?_
        refine lv_goto (tgt := 21) hx hb dX9_least_17 (by decide) ?_
        exact cret_i hx hb hr hlocks hS hP hD (Nat.le_of_ble_eq_true rfl) (Nat.le_of_ble_eq_true rfl) rfl dX9_least_21 [] (by decide) () rfl trivial (congrArg (fun z : Int => some (Value.int (jz z))) (show u = min (min u v) w from by first | rfl | omega | (split <;> first | rfl | omega | (exfalso; omega)))) hQ
  exact KH s.heap [] hP hD hS
abbrev rmX9_d : Room := { frames := 0, cells := 0, slots := 0, locals := 0 }
set_option maxHeartbeats 4000000 in
set_option maxRecDepth 100000 in
theorem mX9_d (l : Launch) (G : GG) (x : Nat) (xs : Nat) (xb : Nat) (xm : Nat) (xf : Nat) (xu : Nat) (xg : Nat) (xw : Nat) (kn : Int) (bl : Int) (ft : Int) (vh : Int) (vm : Int) (vs : Int) (ln : Int) (th : Int) (sp : Int) (pl : Int) (wr : Int) (br : Int) (aS : Int → Int) (aB : Int → Int) (aM : Int → Int) (aO : Int → Int) (aU : Int → Int) (aG : Int → Int) (aW : Int → Int) (i : Int) (j : Int) (hi : 0 ≤ i ∧ i ≤ 20) (hj : 0 ≤ j ∧ j ≤ 20) : Ct l yX9_d cX9_d 3 (some .int) rmX9_d G [.ref x, .int (jz i), .int (jz j)] [bMod G x xs xb xm xf xu xg xw kn bl ft vh vm vs ln th sp pl wr br aS aB aM aO aU aG aW] (fun uo : Unit => some (.int (jz (aG (21 * i + j))))) (fun uo => True) (fun uo => [bMod G x xs xb xm xf xu xg xw kn bl ft vh vm vs ln th sp pl wr br aS aB aM aO aU aG aW]) := by
  refine cof (by decide) (Nat.le_of_ble_eq_true rfl) ?_
  intro p e s m args below meth c A ls hx hb hr hml hown hts hlocks hin hA hK hP hD hS hl Q hQ
  have hown : s.vm.findClass RX9 = some m.cls := hown
  have hl : lv_has ls 3 [(0, .ref x), (1, .int (jz i)), (2, .int (jz j))] := hl
  have KH : ∀ (H : Heap) (locs : List Loc), wP G [bMod G x xs xb xm xf xu xg xw kn bl ft vh vm vs ln th sp pl wr br aS aB aM aO aU aG aW] H → wD A [bMod G x xs xb xm xf xu xg xw kn bl ft vh vm vs ln th sp pl wr br aS aB aM aO aU aG aW] → va_S A s.heap H locs → W p l e rmX9_d s m args below meth c H locs 0 0 Q (F0 m 0 ls []) := by
    intro H locs hP hD hS
    refine lv_aload_n hx hb dX9_d_0 rfl (lv_at hl 0 rfl) ?_
    refine va_get (ci := 9) (v := .ref xg) (C := RX9) (T := TX9) (N := 19) hx hb hts wfX9 hown hK.1 hP 0 rfl rfl 13 (by decide) (hts _ wm823) (fun _ h9 => h9) rfl dX9_d_1 ?_
    refine jv_bipush hx hb dX9_d_4 (by decide) ?_
    refine lv_iload_n hx hb dX9_d_6 rfl (lv_at hl 1 rfl) ?_
    refine jv_imul hx hb dX9_d_7 ?_
    refine lv_iload_n hx hb dX9_d_8 rfl (lv_at hl 2 rfl) ?_
    refine jv_iadd hx hb dX9_d_9 ?_
    refine jv_iald hx hb hK.1 hP 6 (g := aG) rfl (by omega) (by omega) (by decide) dX9_d_10 ?_
    exact cret_i hx hb hr hlocks hS hP hD (Nat.le_of_ble_eq_true rfl) (Nat.le_of_ble_eq_true rfl) rfl dX9_d_11 [0] (by decide) () rfl trivial (congrArg (fun z : Int => some (Value.int (jz z))) (show (aG ((21 * i) + j)) = aG (21 * i + j) from by first | rfl | omega | (split <;> first | rfl | omega | (exfalso; omega)))) hQ
  exact KH s.heap [] hP hD hS
abbrev rmX9_cost : Room := { frames := 1, cells := 0, slots := 0, locals := 22 }
set_option maxHeartbeats 4000000 in
set_option maxRecDepth 100000 in
theorem mX9_cost (l : Launch) (G : GG) (x : Nat) (xs : Nat) (xb : Nat) (xm : Nat) (xf : Nat) (xu : Nat) (xg : Nat) (xw : Nat) (kn : Int) (bl : Int) (ft : Int) (vh : Int) (vm : Int) (vs : Int) (ln : Int) (th : Int) (sp : Int) (pl : Int) (wr : Int) (br : Int) (aS : Int → Int) (aB : Int → Int) (aM : Int → Int) (aO : Int → Int) (aU : Int → Int) (aG : Int → Int) (aW : Int → Int) (i : Int) (j : Int) (hi : 1 ≤ i ∧ i ≤ 20) (hj : 1 ≤ j ∧ j ≤ 20) (hq1 : 0 ≤ T9 aS 0 (i - 1) ∧ T9 aS 0 (i - 1) < 4) (hq2 : 0 ≤ T9 aS 1 (j - 1) ∧ T9 aS 1 (j - 1) < 4) : Ct l yX9_cost cX9_cost 3 (some .int) rmX9_cost G [.ref x, .int (jz i), .int (jz j)] [bMod G x xs xb xm xf xu xg xw kn bl ft vh vm vs ln th sp pl wr br aS aB aM aO aU aG aW] (fun uo : Unit => some (.int (jz (cst (T9 aS 0 (i - 1)) (T9 aS 1 (j - 1)))))) (fun uo => True) (fun uo => [bMod G x xs xb xm xf xu xg xw kn bl ft vh vm vs ln th sp pl wr br aS aB aM aO aU aG aW]) := by
  refine cof (by decide) (Nat.le_of_ble_eq_true rfl) ?_
  intro p e s m args below meth c A ls hx hb hr hml hown hts hlocks hin hA hK hP hD hS hl Q hQ
  have hown : s.vm.findClass RX9 = some m.cls := hown
  have hl : lv_has ls 3 [(0, .ref x), (1, .int (jz i)), (2, .int (jz j))] := hl
  have KH : ∀ (H : Heap) (locs : List Loc), wP G [bMod G x xs xb xm xf xu xg xw kn bl ft vh vm vs ln th sp pl wr br aS aB aM aO aU aG aW] H → wD A [bMod G x xs xb xm xf xu xg xw kn bl ft vh vm vs ln th sp pl wr br aS aB aM aO aU aG aW] → va_S A s.heap H locs → W p l e rmX9_cost s m args below meth c H locs 0 0 Q (F0 m 0 ls []) := by
    intro H locs hP hD hS
    refine lv_aload_n hx hb dX9_cost_0 rfl (lv_at hl 0 rfl) ?_
    refine jv_iconst hx hb dX9_cost_1 ?_
    refine lv_iload_n hx hb dX9_cost_2 rfl (lv_at hl 1 rfl) ?_
    refine jv_iconst hx hb dX9_cost_3 ?_
    refine jv_isub hx hb dX9_cost_4 ?_
    refine kV ⟨hx, hb, hml, hown, hts⟩ hK hA hS hP hD [.int (jz 0), .int (jz (i - 1))] [] (mX9_of l G x xs xb xm xf xu xg xw kn bl ft vh vm vs ln th sp pl wr br aS aB aM aO aU aG aW 0 (i - 1) (by omega) (by omega)) lkX9_46 [0] [] (br := []) rfl rfl (by decide) 0 9 rfl rfl rfl rfl (Nat.le_of_ble_eq_true rfl) hl.1 dX9_cost_5 ⟨Nat.le_of_ble_eq_true rfl, Nat.le_of_ble_eq_true rfl⟩ ⟨Nat.le_of_ble_eq_true rfl, Nat.le_of_ble_eq_true rfl⟩ (fun u9 H locs hp9 hP hD hS => ?_)
    have hP : wP G [bMod G x xs xb xm xf xu xg xw kn bl ft vh vm vs ln th sp pl wr br aS aB aM aO aU aG aW] H := hP
    have hD : wD A [bMod G x xs xb xm xf xu xg xw kn bl ft vh vm vs ln th sp pl wr br aS aB aM aO aU aG aW] := hD
    show W p l e rmX9_cost s m args below meth c H locs 0 0 Q (F0 m 8 ls [.int (jz (T9 aS 0 (i - 1)))])
    refine lv_aload_n hx hb dX9_cost_8 rfl (lv_at hl 0 rfl) ?_
    refine jv_iconst hx hb dX9_cost_9 ?_
    refine lv_iload_n hx hb dX9_cost_10 rfl (lv_at hl 2 rfl) ?_
    refine jv_iconst hx hb dX9_cost_11 ?_
    refine jv_isub hx hb dX9_cost_12 ?_
    refine kV ⟨hx, hb, hml, hown, hts⟩ hK hA hS hP hD [.int (jz 1), .int (jz (j - 1))] [.int (jz (T9 aS 0 (i - 1)))] (mX9_of l G x xs xb xm xf xu xg xw kn bl ft vh vm vs ln th sp pl wr br aS aB aM aO aU aG aW 1 (j - 1) (by omega) (by omega)) lkX9_46 [0] [] (br := []) rfl rfl (by decide) 0 9 rfl rfl rfl rfl (Nat.le_of_ble_eq_true rfl) hl.1 dX9_cost_13 ⟨Nat.le_of_ble_eq_true rfl, Nat.le_of_ble_eq_true rfl⟩ ⟨Nat.le_of_ble_eq_true rfl, Nat.le_of_ble_eq_true rfl⟩ (fun u9 H locs hp9 hP hD hS => ?_)
    have hP : wP G [bMod G x xs xb xm xf xu xg xw kn bl ft vh vm vs ln th sp pl wr br aS aB aM aO aU aG aW] H := hP
    have hD : wD A [bMod G x xs xb xm xf xu xg xw kn bl ft vh vm vs ln th sp pl wr br aS aB aM aO aU aG aW] := hD
    show W p l e rmX9_cost s m args below meth c H locs 0 0 Q (F0 m 16 ls [.int (jz (T9 aS 1 (j - 1))), .int (jz (T9 aS 0 (i - 1)))])
    refine jv_icmp_ne (tgt := 23) hx hb dX9_cost_16 (by decide) (by omega) (by omega) (fun c_3 => ?_) (fun c_3 => ?_)
    · refine jv_iconst hx hb dX9_cost_23 ?_
      exact cret_i hx hb hr hlocks hS hP hD (Nat.le_of_ble_eq_true rfl) (Nat.le_of_ble_eq_true rfl) rfl dX9_cost_24 [0] (by decide) () rfl trivial (congrArg (fun z : Int => some (Value.int (jz z))) (show 1 = cst (T9 aS 0 (i - 1)) (T9 aS 1 (j - 1)) from by unfold cst; first | (rw [if_pos (by omega)]) | (rw [if_neg (by omega)]))) hQ
    · refine jv_iconst hx hb dX9_cost_19 ?_
      refine lv_goto (tgt := 24) hx hb dX9_cost_20 (by decide) ?_
      exact cret_i hx hb hr hlocks hS hP hD (Nat.le_of_ble_eq_true rfl) (Nat.le_of_ble_eq_true rfl) rfl dX9_cost_24 [0] (by decide) () rfl trivial (congrArg (fun z : Int => some (Value.int (jz z))) (show 0 = cst (T9 aS 0 (i - 1)) (T9 aS 1 (j - 1)) from by unfold cst; first | (rw [if_pos (by omega)]) | (rw [if_neg (by omega)]))) hQ
  exact KH s.heap [] hP hD hS
abbrev rmX9_lay : Room := { frames := 2, cells := 0, slots := 0, locals := 44 }
set_option maxHeartbeats 4000000 in
set_option maxRecDepth 100000 in
theorem mX9_lay (l : Launch) (G : GG) (x : Nat) (xs : Nat) (xb : Nat) (xm : Nat) (xf : Nat) (xu : Nat) (xg : Nat) (xw : Nat) (kn : Int) (bl : Int) (ft : Int) (vh : Int) (vm : Int) (vs : Int) (ln : Int) (th : Int) (sp : Int) (pl : Int) (wr : Int) (br : Int) (aS : Int → Int) (aB : Int → Int) (aM : Int → Int) (aO : Int → Int) (aU : Int → Int) (aG : Int → Int) (aW : Int → Int) (z : Int) (c9 : Int) (hs0 : 0 ≤ aS 0 ∧ aS 0 ≤ 20) (hs1 : 0 ≤ aS 1 ∧ aS 1 ≤ 20) (hg0 : ∀ j : Int, 0 ≤ j → j < aS 0 → 0 ≤ T9 aS 0 j ∧ T9 aS 0 j < 4) (hg1 : ∀ j : Int, 0 ≤ j → j < aS 1 → 0 ≤ T9 aS 1 j ∧ T9 aS 1 j < 4) (hz : 0 ≤ z ∧ z ≤ 1) (hc : c9 = 1 - z) : Ct l yX9_lay cX9_lay 4 none rmX9_lay G [.ref x, .int (jz z)] [bMod G x xs xb xm xf xu xg xw kn bl ft vh vm vs ln th sp pl wr br aS aB aM aO aU aG aW] (fun uo : (Int → Int) => none) (fun uo => (∀ x y : Int, 0 ≤ x → x ≤ aS 0 → 0 ≤ y → y ≤ aS 1 → uo (21 * x + y) = D c9 (T9 aS 0) (T9 aS 1) x y)) (fun uo => [bMod G x xs xb xm xf xu xg xw kn bl ft vh vm vs ln th sp pl wr br aS aB aM aO aU uo aW]) := by
  refine cof (by decide) (Nat.le_of_ble_eq_true rfl) ?_
  intro p e s m args below meth c A ls hx hb hr hml hown hts hlocks hin hA hK hP hD hS hl Q hQ
  have hown : s.vm.findClass RX9 = some m.cls := hown
  have hl : lv_has ls 4 [(0, .ref x), (1, .int (jz z))] := hl
  have KH : ∀ (H : Heap) (locs : List Loc), wP G [bMod G x xs xb xm xf xu xg xw kn bl ft vh vm vs ln th sp pl wr br aS aB aM aO aU aG aW] H → wD A [bMod G x xs xb xm xf xu xg xw kn bl ft vh vm vs ln th sp pl wr br aS aB aM aO aU aG aW] → va_S A s.heap H locs → W p l e rmX9_lay s m args below meth c H locs 0 0 Q (F0 m 0 ls []) := by
    intro H locs hP hD hS
    have hc01 : c9 = 0 ∨ c9 = 1 := by omega
    refine jv_iconst hx hb dX9_lay_0 ?_
    refine lv_istore_n (lv' := [(2, .int (jz 0)), (0, .ref x), (1, .int (jz z))]) hx hb dX9_lay_1 rfl hl (by decide) rfl (fun ls hl => ?_)
    have K2 : ∀ (n9 : Nat) (i : Int) (k : Int → Int) , ((aS 0 + 1 - i).toNat) < n9 → (0 ≤ i ∧ i ≤ aS 0 + 1) → (∀ x y : Int, 0 ≤ x → 0 ≤ y → y ≤ aS 1 → (x < i ∨ (x = i ∧ y < 0)) → k (21 * x + y) = D c9 (T9 aS 0) (T9 aS 1) x y) → ∀ (H : Heap) (locs : List Loc) (ls : Array Slot), wP G [bMod G x xs xb xm xf xu xg xw kn bl ft vh vm vs ln th sp pl wr br aS aB aM aO aU k aW] H → wD A [bMod G x xs xb xm xf xu xg xw kn bl ft vh vm vs ln th sp pl wr br aS aB aM aO aU k aW] → va_S A s.heap H locs → lv_has ls 4 [(0, .ref x), (1, .int (jz z)), (2, .int (jz i))] → W p l e rmX9_lay s m args below meth c H locs 0 0 Q (F0 m 2 ls []) := by
      intro n9
      induction n9 with
      | zero => intro i k hm9; exact absurd hm9 (Nat.not_lt_zero _)
      | succ n9 ih2 =>
        intro i k hm9 hi hh H locs ls hP hD hS hl
        refine lv_iload_n hx hb dX9_lay_2 rfl (lv_at hl 2 rfl) ?_
        refine lv_aload_n hx hb dX9_lay_3 rfl (lv_at hl 0 rfl) ?_
        refine va_get (ci := 9) (v := .ref xs) (C := RX9) (T := TX9) (N := 19) hx hb hts wfX9 hown hK.1 hP 0 rfl rfl 0 (by decide) (hts _ wm810) (fun _ h9 => h9) rfl dX9_lay_4 ?_
        refine jv_iconst hx hb dX9_lay_7 ?_
        refine jv_iald hx hb hK.1 hP 1 (g := aS) rfl (by omega) (by omega) (by decide) dX9_lay_8 ?_
        refine jv_icmp_gt (tgt := 111) hx hb dX9_lay_9 (by decide) (by omega) (by omega) (fun c_1 => ?_) (fun c_1 => ?_)
        · exact cret_v hx hb hr hlocks hS hP hD (Nat.le_of_ble_eq_true rfl) (Nat.le_of_ble_eq_true rfl) dX9_lay_111 [0] (by decide) k rfl (show ∀ x y : Int, 0 ≤ x → x ≤ aS 0 → 0 ≤ y → y ≤ aS 1 → k (21 * x + y) = D c9 (T9 aS 0) (T9 aS 1) x y from by intro x y h1 h2 h3 h4; exact hh x y h1 h3 h4 (by omega)) rfl hQ
        · refine jv_iconst hx hb dX9_lay_12 ?_
          refine lv_istore_n (lv' := [(3, .int (jz 0)), (0, .ref x), (1, .int (jz z)), (2, .int (jz i))]) hx hb dX9_lay_13 rfl hl (by decide) rfl (fun ls hl => ?_)
          have K14 : ∀ (n9 : Nat) (j : Int) (k : Int → Int) , ((aS 1 + 1 - j).toNat) < n9 → (0 ≤ j ∧ j ≤ aS 1 + 1) → (∀ x y : Int, 0 ≤ x → 0 ≤ y → y ≤ aS 1 → (x < i ∨ (x = i ∧ y < j)) → k (21 * x + y) = D c9 (T9 aS 0) (T9 aS 1) x y) → ∀ (H : Heap) (locs : List Loc) (ls : Array Slot), wP G [bMod G x xs xb xm xf xu xg xw kn bl ft vh vm vs ln th sp pl wr br aS aB aM aO aU k aW] H → wD A [bMod G x xs xb xm xf xu xg xw kn bl ft vh vm vs ln th sp pl wr br aS aB aM aO aU k aW] → va_S A s.heap H locs → lv_has ls 4 [(0, .ref x), (1, .int (jz z)), (2, .int (jz i)), (3, .int (jz j))] → W p l e rmX9_lay s m args below meth c H locs 0 0 Q (F0 m 14 ls []) := by
            intro n9
            induction n9 with
            | zero => intro j k hm9; exact absurd hm9 (Nat.not_lt_zero _)
            | succ n9 ih14 =>
              intro j k hm9 hj hh2 H locs ls hP hD hS hl
              refine lv_iload_n hx hb dX9_lay_14 rfl (lv_at hl 3 rfl) ?_
              refine lv_aload_n hx hb dX9_lay_15 rfl (lv_at hl 0 rfl) ?_
              refine va_get (ci := 9) (v := .ref xs) (C := RX9) (T := TX9) (N := 19) hx hb hts wfX9 hown hK.1 hP 0 rfl rfl 0 (by decide) (hts _ wm810) (fun _ h9 => h9) rfl dX9_lay_16 ?_
              refine jv_iconst hx hb dX9_lay_19 ?_
              refine jv_iald hx hb hK.1 hP 1 (g := aS) rfl (by omega) (by omega) (by decide) dX9_lay_20 ?_
              refine jv_icmp_gt (tgt := 105) hx hb dX9_lay_21 (by decide) (by omega) (by omega) (fun c_2 => ?_) (fun c_2 => ?_)
              · refine jv_iinc (lv' := [(2, .int (jz (i + 1))), (0, .ref x), (1, .int (jz z)), (3, .int (jz j))]) (k := 2) hx hb dX9_lay_105 hl rfl (by decide) rfl (fun ls hl => ?_)
                refine lv_goto (tgt := 2) hx hb dX9_lay_108 (by decide) ?_
                exact ih2 (i + 1) k (by omega) (by omega) (by intro x y h1 h2 h3 h4; exact hh2 x y h1 h2 h3 (by omega)) H _ _ hP hD hS (lv_sub hl [1, 2, 0] rfl)
              · refine lv_aload_n hx hb dX9_lay_24 rfl (lv_at hl 0 rfl) ?_
                refine va_get (ci := 9) (v := .ref xg) (C := RX9) (T := TX9) (N := 19) hx hb hts wfX9 hown hK.1 hP 0 rfl rfl 13 (by decide) (hts _ wm823) (fun _ h9 => h9) rfl dX9_lay_25 ?_
                refine jv_bipush hx hb dX9_lay_28 (by decide) ?_
                refine lv_iload_n hx hb dX9_lay_30 rfl (lv_at hl 2 rfl) ?_
                refine jv_imul hx hb dX9_lay_31 ?_
                refine lv_iload_n hx hb dX9_lay_32 rfl (lv_at hl 3 rfl) ?_
                refine jv_iadd hx hb dX9_lay_33 ?_
                refine lv_iload_n hx hb dX9_lay_34 rfl (lv_at hl 3 rfl) ?_
                refine jv_if_ne (tgt := 50) hx hb dX9_lay_35 (by decide) (by omega) (fun c_3 => ?_) (fun c_3 => ?_)
                · refine lv_iload_n hx hb dX9_lay_50 rfl (lv_at hl 2 rfl) ?_
                  refine jv_if_ne (tgt := 58) hx hb dX9_lay_51 (by decide) (by omega) (fun c_4 => ?_) (fun c_4 => ?_)
                  · have la := hg0 (i - 1) (by omega) (by omega)
                    have lb := hg1 (j - 1) (by omega) (by omega)
                    refine lv_aload_n hx hb dX9_lay_58 rfl (lv_at hl 0 rfl) ?_
                    refine lv_iload_n hx hb dX9_lay_59 rfl (lv_at hl 2 rfl) ?_
                    refine jv_iconst hx hb dX9_lay_60 ?_
                    refine jv_isub hx hb dX9_lay_61 ?_
                    refine lv_iload_n hx hb dX9_lay_62 rfl (lv_at hl 3 rfl) ?_
                    refine kV ⟨hx, hb, hml, hown, hts⟩ hK hA hS hP hD [.int (jz (i - 1)), .int (jz j)] [.int (jz ((21 * i) + j)), .ref xg] (mX9_d l G x xs xb xm xf xu xg xw kn bl ft vh vm vs ln th sp pl wr br aS aB aM aO aU k aW (i - 1) j (by omega) (by omega)) lkX9_50 [0] [] (br := []) rfl rfl (by decide) 0 9 rfl rfl rfl rfl (Nat.le_of_ble_eq_true rfl) hl.1 dX9_lay_63 ⟨Nat.le_of_ble_eq_true rfl, Nat.le_of_ble_eq_true rfl⟩ ⟨Nat.le_of_ble_eq_true rfl, Nat.le_of_ble_eq_true rfl⟩ (fun u9 H locs hp9 hP hD hS => ?_)
                    have hP : wP G [bMod G x xs xb xm xf xu xg xw kn bl ft vh vm vs ln th sp pl wr br aS aB aM aO aU k aW] H := hP
                    have hD : wD A [bMod G x xs xb xm xf xu xg xw kn bl ft vh vm vs ln th sp pl wr br aS aB aM aO aU k aW] := hD
                    show W p l e rmX9_lay s m args below meth c H locs 0 0 Q (F0 m 66 ls [.int (jz (k (21 * (i - 1) + j))), .int (jz ((21 * i) + j)), .ref xg])
                    have b4 := D_bd hc01 (T9 aS 0) (T9 aS 1) (i := i - 1) (j := j) (by omega) (by omega)
                    have b5 := hh2 (i - 1) j (by omega) (by omega) (by omega) (by omega)
                    refine jv_iconst hx hb dX9_lay_66 ?_
                    refine jv_iadd hx hb dX9_lay_67 ?_
                    refine lv_aload_n hx hb dX9_lay_68 rfl (lv_at hl 0 rfl) ?_
                    refine lv_iload_n hx hb dX9_lay_69 rfl (lv_at hl 2 rfl) ?_
                    refine lv_iload_n hx hb dX9_lay_70 rfl (lv_at hl 3 rfl) ?_
                    refine jv_iconst hx hb dX9_lay_71 ?_
                    refine jv_isub hx hb dX9_lay_72 ?_
                    refine kV ⟨hx, hb, hml, hown, hts⟩ hK hA hS hP hD [.int (jz i), .int (jz (j - 1))] [.int (jz ((k (21 * (i - 1) + j)) + 1)), .int (jz ((21 * i) + j)), .ref xg] (mX9_d l G x xs xb xm xf xu xg xw kn bl ft vh vm vs ln th sp pl wr br aS aB aM aO aU k aW i (j - 1) (by omega) (by omega)) lkX9_50 [0] [] (br := []) rfl rfl (by decide) 0 9 rfl rfl rfl rfl (Nat.le_of_ble_eq_true rfl) hl.1 dX9_lay_73 ⟨Nat.le_of_ble_eq_true rfl, Nat.le_of_ble_eq_true rfl⟩ ⟨Nat.le_of_ble_eq_true rfl, Nat.le_of_ble_eq_true rfl⟩ (fun u9 H locs hp9 hP hD hS => ?_)
                    have hP : wP G [bMod G x xs xb xm xf xu xg xw kn bl ft vh vm vs ln th sp pl wr br aS aB aM aO aU k aW] H := hP
                    have hD : wD A [bMod G x xs xb xm xf xu xg xw kn bl ft vh vm vs ln th sp pl wr br aS aB aM aO aU k aW] := hD
                    show W p l e rmX9_lay s m args below meth c H locs 0 0 Q (F0 m 76 ls [.int (jz (k (21 * i + (j - 1)))), .int (jz ((k (21 * (i - 1) + j)) + 1)), .int (jz ((21 * i) + j)), .ref xg])
                    have b6 := D_bd hc01 (T9 aS 0) (T9 aS 1) (i := i) (j := j - 1) (by omega) (by omega)
                    have b7 := hh2 i (j - 1) (by omega) (by omega) (by omega) (by omega)
                    refine jv_iconst hx hb dX9_lay_76 ?_
                    refine jv_iadd hx hb dX9_lay_77 ?_
                    refine lv_aload_n hx hb dX9_lay_78 rfl (lv_at hl 0 rfl) ?_
                    refine lv_iload_n hx hb dX9_lay_79 rfl (lv_at hl 2 rfl) ?_
                    refine jv_iconst hx hb dX9_lay_80 ?_
                    refine jv_isub hx hb dX9_lay_81 ?_
                    refine lv_iload_n hx hb dX9_lay_82 rfl (lv_at hl 3 rfl) ?_
                    refine jv_iconst hx hb dX9_lay_83 ?_
                    refine jv_isub hx hb dX9_lay_84 ?_
                    refine kV ⟨hx, hb, hml, hown, hts⟩ hK hA hS hP hD [.int (jz (i - 1)), .int (jz (j - 1))] [.int (jz ((k (21 * i + (j - 1))) + 1)), .int (jz ((k (21 * (i - 1) + j)) + 1)), .int (jz ((21 * i) + j)), .ref xg] (mX9_d l G x xs xb xm xf xu xg xw kn bl ft vh vm vs ln th sp pl wr br aS aB aM aO aU k aW (i - 1) (j - 1) (by omega) (by omega)) lkX9_50 [0] [] (br := []) rfl rfl (by decide) 0 9 rfl rfl rfl rfl (Nat.le_of_ble_eq_true rfl) hl.1 dX9_lay_85 ⟨Nat.le_of_ble_eq_true rfl, Nat.le_of_ble_eq_true rfl⟩ ⟨Nat.le_of_ble_eq_true rfl, Nat.le_of_ble_eq_true rfl⟩ (fun u9 H locs hp9 hP hD hS => ?_)
                    have hP : wP G [bMod G x xs xb xm xf xu xg xw kn bl ft vh vm vs ln th sp pl wr br aS aB aM aO aU k aW] H := hP
                    have hD : wD A [bMod G x xs xb xm xf xu xg xw kn bl ft vh vm vs ln th sp pl wr br aS aB aM aO aU k aW] := hD
                    show W p l e rmX9_lay s m args below meth c H locs 0 0 Q (F0 m 88 ls [.int (jz (k (21 * (i - 1) + (j - 1)))), .int (jz ((k (21 * i + (j - 1))) + 1)), .int (jz ((k (21 * (i - 1) + j)) + 1)), .int (jz ((21 * i) + j)), .ref xg])
                    have b8 := D_bd hc01 (T9 aS 0) (T9 aS 1) (i := i - 1) (j := j - 1) (by omega) (by omega)
                    have b9 := hh2 (i - 1) (j - 1) (by omega) (by omega) (by omega) (by omega)
                    refine lv_aload_n hx hb dX9_lay_88 rfl (lv_at hl 0 rfl) ?_
                    refine lv_iload_n hx hb dX9_lay_89 rfl (lv_at hl 2 rfl) ?_
                    refine lv_iload_n hx hb dX9_lay_90 rfl (lv_at hl 3 rfl) ?_
                    refine kV ⟨hx, hb, hml, hown, hts⟩ hK hA hS hP hD [.int (jz i), .int (jz j)] [.int (jz (k (21 * (i - 1) + (j - 1)))), .int (jz ((k (21 * i + (j - 1))) + 1)), .int (jz ((k (21 * (i - 1) + j)) + 1)), .int (jz ((21 * i) + j)), .ref xg] (mX9_cost l G x xs xb xm xf xu xg xw kn bl ft vh vm vs ln th sp pl wr br aS aB aM aO aU k aW i j (by omega) (by omega) (by omega) (by omega)) lkX9_53 [0] [] (br := []) rfl rfl (by decide) 0 9 rfl rfl rfl rfl (Nat.le_of_ble_eq_true rfl) hl.1 dX9_lay_91 ⟨Nat.le_of_ble_eq_true rfl, Nat.le_of_ble_eq_true rfl⟩ ⟨Nat.le_of_ble_eq_true rfl, Nat.le_of_ble_eq_true rfl⟩ (fun u9 H locs hp9 hP hD hS => ?_)
                    have hP : wP G [bMod G x xs xb xm xf xu xg xw kn bl ft vh vm vs ln th sp pl wr br aS aB aM aO aU k aW] H := hP
                    have hD : wD A [bMod G x xs xb xm xf xu xg xw kn bl ft vh vm vs ln th sp pl wr br aS aB aM aO aU k aW] := hD
                    show W p l e rmX9_lay s m args below meth c H locs 0 0 Q (F0 m 94 ls [.int (jz (cst (T9 aS 0 (i - 1)) (T9 aS 1 (j - 1)))), .int (jz (k (21 * (i - 1) + (j - 1)))), .int (jz ((k (21 * i + (j - 1))) + 1)), .int (jz ((k (21 * (i - 1) + j)) + 1)), .int (jz ((21 * i) + j)), .ref xg])
                    have b3 := cst_bd (T9 aS 0 (i - 1)) (T9 aS 1 (j - 1))
                    refine jv_iadd hx hb dX9_lay_94 ?_
                    refine kS ⟨hx, hb, hml, hown, hts⟩ hK hA hS hP hD [.int (jz ((k (21 * (i - 1) + j)) + 1)), .int (jz ((k (21 * i + (j - 1))) + 1)), .int (jz ((k (21 * (i - 1) + (j - 1))) + (cst (T9 aS 0 (i - 1)) (T9 aS 1 (j - 1)))))] [.int (jz ((21 * i) + j)), .ref xg] (mX9_least l G ((k (21 * (i - 1) + j)) + 1) ((k (21 * i + (j - 1))) + 1) ((k (21 * (i - 1) + (j - 1))) + (cst (T9 aS 0 (i - 1)) (T9 aS 1 (j - 1)))) (by omega) (by omega) (by omega)) lkX9_56 [] [0] (br := [bMod G x xs xb xm xf xu xg xw kn bl ft vh vm vs ln th sp pl wr br aS aB aM aO aU k aW]) rfl rfl (by decide) rfl rfl (Nat.le_of_ble_eq_true rfl) hl.1 dX9_lay_95 ⟨Nat.le_of_ble_eq_true rfl, Nat.le_of_ble_eq_true rfl⟩ ⟨Nat.le_of_ble_eq_true rfl, Nat.le_of_ble_eq_true rfl⟩ (fun u9 H locs hp9 hP hD hS => ?_)
                    have hP : wP G [bMod G x xs xb xm xf xu xg xw kn bl ft vh vm vs ln th sp pl wr br aS aB aM aO aU k aW] H := hP
                    have hD : wD A [bMod G x xs xb xm xf xu xg xw kn bl ft vh vm vs ln th sp pl wr br aS aB aM aO aU k aW] := hD
                    show W p l e rmX9_lay s m args below meth c H locs 0 0 Q (F0 m 98 ls [.int (jz (min (min ((k (21 * (i - 1) + j)) + 1) ((k (21 * i + (j - 1))) + 1)) ((k (21 * (i - 1) + (j - 1))) + (cst (T9 aS 0 (i - 1)) (T9 aS 1 (j - 1)))))), .int (jz ((21 * i) + j)), .ref xg])
                    refine jv_iast hx hb hK.1 hP hD hS 6 (g := k) rfl (by omega) (by omega) (by decide) dX9_lay_98 (fun H locs hP hD hS => ?_)
                    have hP : wP G [bMod G x xs xb xm xf xu xg xw kn bl ft vh vm vs ln th sp pl wr br aS aB aM aO aU (up k ((21 * i) + j) (min (min ((k (21 * (i - 1) + j)) + 1) ((k (21 * i + (j - 1))) + 1)) ((k (21 * (i - 1) + (j - 1))) + (cst (T9 aS 0 (i - 1)) (T9 aS 1 (j - 1)))))) aW] H := hP
                    have hD : wD A [bMod G x xs xb xm xf xu xg xw kn bl ft vh vm vs ln th sp pl wr br aS aB aM aO aU (up k ((21 * i) + j) (min (min ((k (21 * (i - 1) + j)) + 1) ((k (21 * i + (j - 1))) + 1)) ((k (21 * (i - 1) + (j - 1))) + (cst (T9 aS 0 (i - 1)) (T9 aS 1 (j - 1)))))) aW] := hD
                    refine jv_iinc (lv' := [(3, .int (jz (j + 1))), (0, .ref x), (1, .int (jz z)), (2, .int (jz i))]) (k := 3) hx hb dX9_lay_99 hl rfl (by decide) rfl (fun ls hl => ?_)
                    refine lv_goto (tgt := 14) hx hb dX9_lay_102 (by decide) ?_
                    exact ih14 (j + 1) (up k ((21 * i) + j) (min (min ((k (21 * (i - 1) + j)) + 1) ((k (21 * i + (j - 1))) + 1)) ((k (21 * (i - 1) + (j - 1))) + (cst (T9 aS 0 (i - 1)) (T9 aS 1 (j - 1)))))) (by omega) (by omega) (by exact up_row2 (by omega) (by omega) hh2 (by rw [D_s _ _ _ (by omega) (by omega), b5, b7, b9]; omega)) H _ _ hP hD hS (lv_sub hl [1, 2, 3, 0] rfl)
                  · refine lv_iload_n hx hb dX9_lay_54 rfl (lv_at hl 3 rfl) ?_
                    refine lv_goto (tgt := 98) hx hb dX9_lay_55 (by decide) ?_
                    refine jv_iast hx hb hK.1 hP hD hS 6 (g := k) rfl (by omega) (by omega) (by decide) dX9_lay_98 (fun H locs hP hD hS => ?_)
                    have hP : wP G [bMod G x xs xb xm xf xu xg xw kn bl ft vh vm vs ln th sp pl wr br aS aB aM aO aU (up k ((21 * i) + j) j) aW] H := hP
                    have hD : wD A [bMod G x xs xb xm xf xu xg xw kn bl ft vh vm vs ln th sp pl wr br aS aB aM aO aU (up k ((21 * i) + j) j) aW] := hD
                    refine jv_iinc (lv' := [(3, .int (jz (j + 1))), (0, .ref x), (1, .int (jz z)), (2, .int (jz i))]) (k := 3) hx hb dX9_lay_99 hl rfl (by decide) rfl (fun ls hl => ?_)
                    refine lv_goto (tgt := 14) hx hb dX9_lay_102 (by decide) ?_
                    exact ih14 (j + 1) (up k ((21 * i) + j) j) (by omega) (by omega) (by exact up_row2 (by omega) (by omega) hh2 (by rw [D_0 _ _ _ (by omega) (by omega)])) H _ _ hP hD hS (lv_sub hl [1, 2, 3, 0] rfl)
                · refine lv_iload_n hx hb dX9_lay_38 rfl (lv_at hl 1 rfl) ?_
                  refine jv_if_eq (tgt := 46) hx hb dX9_lay_39 (by decide) (by omega) (fun c_10 => ?_) (fun c_10 => ?_)
                  · refine lv_iload_n hx hb dX9_lay_46 rfl (lv_at hl 2 rfl) ?_
                    refine lv_goto (tgt := 98) hx hb dX9_lay_47 (by decide) ?_
                    refine jv_iast hx hb hK.1 hP hD hS 6 (g := k) rfl (by omega) (by omega) (by decide) dX9_lay_98 (fun H locs hP hD hS => ?_)
                    have hP : wP G [bMod G x xs xb xm xf xu xg xw kn bl ft vh vm vs ln th sp pl wr br aS aB aM aO aU (up k ((21 * i) + j) i) aW] H := hP
                    have hD : wD A [bMod G x xs xb xm xf xu xg xw kn bl ft vh vm vs ln th sp pl wr br aS aB aM aO aU (up k ((21 * i) + j) i) aW] := hD
                    refine jv_iinc (lv' := [(3, .int (jz (j + 1))), (0, .ref x), (1, .int (jz z)), (2, .int (jz i))]) (k := 3) hx hb dX9_lay_99 hl rfl (by decide) rfl (fun ls hl => ?_)
                    refine lv_goto (tgt := 14) hx hb dX9_lay_102 (by decide) ?_
                    exact ih14 (j + 1) (up k ((21 * i) + j) i) (by omega) (by omega) (by exact up_row2 (by omega) (by omega) hh2 (by rw [D_l _ _ _ (by omega) (by omega), show c9 = 1 by omega]; omega)) H _ _ hP hD hS (lv_sub hl [1, 2, 3, 0] rfl)
                  · refine jv_iconst hx hb dX9_lay_42 ?_
                    refine lv_goto (tgt := 98) hx hb dX9_lay_43 (by decide) ?_
                    refine jv_iast hx hb hK.1 hP hD hS 6 (g := k) rfl (by omega) (by omega) (by decide) dX9_lay_98 (fun H locs hP hD hS => ?_)
                    have hP : wP G [bMod G x xs xb xm xf xu xg xw kn bl ft vh vm vs ln th sp pl wr br aS aB aM aO aU (up k ((21 * i) + j) 0) aW] H := hP
                    have hD : wD A [bMod G x xs xb xm xf xu xg xw kn bl ft vh vm vs ln th sp pl wr br aS aB aM aO aU (up k ((21 * i) + j) 0) aW] := hD
                    refine jv_iinc (lv' := [(3, .int (jz (j + 1))), (0, .ref x), (1, .int (jz z)), (2, .int (jz i))]) (k := 3) hx hb dX9_lay_99 hl rfl (by decide) rfl (fun ls hl => ?_)
                    refine lv_goto (tgt := 14) hx hb dX9_lay_102 (by decide) ?_
                    exact ih14 (j + 1) (up k ((21 * i) + j) 0) (by omega) (by omega) (by exact up_row2 (by omega) (by omega) hh2 (by rw [D_l _ _ _ (by omega) (by omega), show c9 = 0 by omega]; omega)) H _ _ hP hD hS (lv_sub hl [1, 2, 3, 0] rfl)
          exact K14 (((aS 1 + 1 - 0).toNat) + 1) 0 k (Nat.lt_succ_self _) (by omega) (by exact hh) H _ _ hP hD hS (lv_sub hl [1, 2, 3, 0] rfl)
    exact K2 (((aS 0 + 1 - 0).toNat) + 1) 0 aG (Nat.lt_succ_self _) (by omega) (by intro x y h1 h2 h3 h4; omega) H _ _ hP hD hS (lv_sub hl [1, 2, 0] rfl)
  exact KH s.heap [] hP hD hS
abbrev rmX9_whole : Room := { frames := 3, cells := 0, slots := 0, locals := 67 }
set_option maxHeartbeats 4000000 in
set_option maxRecDepth 100000 in
theorem mX9_whole (l : Launch) (G : GG) (x : Nat) (xs : Nat) (xb : Nat) (xm : Nat) (xf : Nat) (xu : Nat) (xg : Nat) (xw : Nat) (kn : Int) (bl : Int) (ft : Int) (vh : Int) (vm : Int) (vs : Int) (ln : Int) (th : Int) (sp : Int) (pl : Int) (wr : Int) (br : Int) (aS : Int → Int) (aB : Int → Int) (aM : Int → Int) (aO : Int → Int) (aU : Int → Int) (aG : Int → Int) (aW : Int → Int) (hs0 : 0 ≤ aS 0 ∧ aS 0 ≤ 20) (hs1 : 0 ≤ aS 1 ∧ aS 1 ≤ 20) (hg0 : ∀ j : Int, 0 ≤ j → j < aS 0 → 0 ≤ T9 aS 0 j ∧ T9 aS 0 j < 4) (hg1 : ∀ j : Int, 0 ≤ j → j < aS 1 → 0 ≤ T9 aS 1 j ∧ T9 aS 1 j < 4) : Ct l yX9_whole cX9_whole 1 (some .int) rmX9_whole G [.ref x] [bMod G x xs xb xm xf xu xg xw kn bl ft vh vm vs ln th sp pl wr br aS aB aM aO aU aG aW] (fun uo : (Int → Int) => some (.int (jz (D 1 (T9 aS 0) (T9 aS 1) (aS 0) (aS 1))))) (fun uo => True) (fun uo => [bMod G x xs xb xm xf xu xg xw kn bl ft vh vm vs ln th sp pl wr br aS aB aM aO aU uo aW]) := by
  refine cof (by decide) (Nat.le_of_ble_eq_true rfl) ?_
  intro p e s m args below meth c A ls hx hb hr hml hown hts hlocks hin hA hK hP hD hS hl Q hQ
  have hown : s.vm.findClass RX9 = some m.cls := hown
  have hl : lv_has ls 1 [(0, .ref x)] := hl
  have KH : ∀ (H : Heap) (locs : List Loc), wP G [bMod G x xs xb xm xf xu xg xw kn bl ft vh vm vs ln th sp pl wr br aS aB aM aO aU aG aW] H → wD A [bMod G x xs xb xm xf xu xg xw kn bl ft vh vm vs ln th sp pl wr br aS aB aM aO aU aG aW] → va_S A s.heap H locs → W p l e rmX9_whole s m args below meth c H locs 0 0 Q (F0 m 0 ls []) := by
    intro H locs hP hD hS
    refine lv_aload_n hx hb dX9_whole_0 rfl (lv_at hl 0 rfl) ?_
    refine jv_iconst hx hb dX9_whole_1 ?_
    refine kV ⟨hx, hb, hml, hown, hts⟩ hK hA hS hP hD [.int (jz 0)] [] (mX9_lay l G x xs xb xm xf xu xg xw kn bl ft vh vm vs ln th sp pl wr br aS aB aM aO aU aG aW 0 1 (by omega) (by omega) (by exact hg0) (by exact hg1) (by omega) (by omega)) lkX9_60 [0] [] (br := []) rfl rfl (by decide) 0 9 rfl rfl rfl rfl (Nat.le_of_ble_eq_true rfl) hl.1 dX9_whole_2 ⟨Nat.le_of_ble_eq_true rfl, Nat.le_of_ble_eq_true rfl⟩ ⟨Nat.le_of_ble_eq_true rfl, Nat.le_of_ble_eq_true rfl⟩ (fun u9 H locs hp9 hP hD hS => ?_)
    obtain ⟨u_1, rfl⟩ : ∃ z, z = u9 := ⟨_, rfl⟩
    have hc_2 : ∀ x y : Int, 0 ≤ x → x ≤ aS 0 → 0 ≤ y → y ≤ aS 1 → u_1 (21 * x + y) = D 1 (T9 aS 0) (T9 aS 1) x y := hp9
    have hP : wP G [bMod G x xs xb xm xf xu xg xw kn bl ft vh vm vs ln th sp pl wr br aS aB aM aO aU u_1 aW] H := hP
    have hD : wD A [bMod G x xs xb xm xf xu xg xw kn bl ft vh vm vs ln th sp pl wr br aS aB aM aO aU u_1 aW] := hD
    show W p l e rmX9_whole s m args below meth c H locs 0 0 Q (F0 m 5 ls [])
    have hc1 := hc_2
    refine lv_aload_n hx hb dX9_whole_5 rfl (lv_at hl 0 rfl) ?_
    refine lv_aload_n hx hb dX9_whole_6 rfl (lv_at hl 0 rfl) ?_
    refine va_get (ci := 9) (v := .ref xs) (C := RX9) (T := TX9) (N := 19) hx hb hts wfX9 hown hK.1 hP 0 rfl rfl 0 (by decide) (hts _ wm810) (fun _ h9 => h9) rfl dX9_whole_7 ?_
    refine jv_iconst hx hb dX9_whole_10 ?_
    refine jv_iald hx hb hK.1 hP 1 (g := aS) rfl (by omega) (by omega) (by decide) dX9_whole_11 ?_
    refine lv_aload_n hx hb dX9_whole_12 rfl (lv_at hl 0 rfl) ?_
    refine va_get (ci := 9) (v := .ref xs) (C := RX9) (T := TX9) (N := 19) hx hb hts wfX9 hown hK.1 hP 0 rfl rfl 0 (by decide) (hts _ wm810) (fun _ h9 => h9) rfl dX9_whole_13 ?_
    refine jv_iconst hx hb dX9_whole_16 ?_
    refine jv_iald hx hb hK.1 hP 1 (g := aS) rfl (by omega) (by omega) (by decide) dX9_whole_17 ?_
    refine kV ⟨hx, hb, hml, hown, hts⟩ hK hA hS hP hD [.int (jz (aS 0)), .int (jz (aS 1))] [] (mX9_d l G x xs xb xm xf xu xg xw kn bl ft vh vm vs ln th sp pl wr br aS aB aM aO aU u_1 aW (aS 0) (aS 1) (by omega) (by omega)) lkX9_50 [0] [] (br := []) rfl rfl (by decide) 0 9 rfl rfl rfl rfl (Nat.le_of_ble_eq_true rfl) hl.1 dX9_whole_18 ⟨Nat.le_of_ble_eq_true rfl, Nat.le_of_ble_eq_true rfl⟩ ⟨Nat.le_of_ble_eq_true rfl, Nat.le_of_ble_eq_true rfl⟩ (fun u9 H locs hp9 hP hD hS => ?_)
    have hP : wP G [bMod G x xs xb xm xf xu xg xw kn bl ft vh vm vs ln th sp pl wr br aS aB aM aO aU u_1 aW] H := hP
    have hD : wD A [bMod G x xs xb xm xf xu xg xw kn bl ft vh vm vs ln th sp pl wr br aS aB aM aO aU u_1 aW] := hD
    show W p l e rmX9_whole s m args below meth c H locs 0 0 Q (F0 m 21 ls [.int (jz (u_1 (21 * (aS 0) + (aS 1))))])
    exact cret_i hx hb hr hlocks hS hP hD (Nat.le_of_ble_eq_true rfl) (Nat.le_of_ble_eq_true rfl) rfl dX9_whole_21 [0] (by decide) u_1 rfl trivial (congrArg (fun z : Int => some (Value.int (jz z))) (show (u_1 (21 * (aS 0) + (aS 1))) = D 1 (T9 aS 0) (T9 aS 1) (aS 0) (aS 1) from by exact hc1 _ _ (by omega) (by omega) (by omega) (by omega))) hQ
  exact KH s.heap [] hP hD hS
