abbrev bGrid (G : GG) (q : Nat) (b : Nat) (h : Int → Int) : va_W := [(q, .inr (1, [.ref b])), (b, ja G 441 h)]
abbrev rmX8_replaceCost : Room := { frames := 0, cells := 0, slots := 0, locals := 0 }
set_option maxHeartbeats 4000000 in
set_option maxRecDepth 100000 in
theorem mX8_replaceCost (l : Launch) (G : GG) (x : Int) (y : Int) (hx9 : jr x) (hy9 : jr y) : Ct l yX8_replaceCost cX8_replaceCost 2 (some .int) rmX8_replaceCost G [.int (jz x), .int (jz y)] [] (fun uo : Unit => some (.int (jz (cst x y)))) (fun uo => True) (fun uo => []) := by
  refine cof (by decide) (Nat.le_of_ble_eq_true rfl) ?_
  intro p e s m args below meth c A ls hx hb hr hml hown hts hlocks hin hA hK hP hD hS hl Q hQ
  have hown : s.vm.findClass RX8 = some m.cls := hown
  have hl : lv_has ls 2 [(0, .int (jz x)), (1, .int (jz y))] := hl
  have KH : ∀ (H : Heap) (locs : List Loc), wP G [] H → wD A [] → va_S A s.heap H locs → W p l e rmX8_replaceCost s m args below meth c H locs 0 0 Q (F0 m 0 ls []) := by
    intro H locs hP hD hS
    refine lv_iload_n hx hb dX8_replaceCost_0 rfl (lv_at hl 0 rfl) ?_
    refine lv_iload_n hx hb dX8_replaceCost_1 rfl (lv_at hl 1 rfl) ?_
    refine jv_icmp_ne (tgt := 9) hx hb dX8_replaceCost_2 (by decide) (by omega) (by omega) (fun c_1 => ?_) (fun c_1 => ?_)
    · refine jv_iconst hx hb dX8_replaceCost_9 ?_
      exact cret_i hx hb hr hlocks hS hP hD (Nat.le_of_ble_eq_true rfl) (Nat.le_of_ble_eq_true rfl) rfl dX8_replaceCost_10 [] (by decide) () rfl trivial (congrArg (fun z : Int => some (Value.int (jz z))) (show 1 = cst x y from by unfold cst; first | (rw [if_pos (by omega)]) | (rw [if_neg (by omega)]))) hQ
    · refine jv_iconst hx hb dX8_replaceCost_5 ?_
      refine lv_goto (tgt := 10) hx hb dX8_replaceCost_6 (by decide) ?_
      exact cret_i hx hb hr hlocks hS hP hD (Nat.le_of_ble_eq_true rfl) (Nat.le_of_ble_eq_true rfl) rfl dX8_replaceCost_10 [] (by decide) () rfl trivial (congrArg (fun z : Int => some (Value.int (jz z))) (show 0 = cst x y from by unfold cst; first | (rw [if_pos (by omega)]) | (rw [if_neg (by omega)]))) hQ
  exact KH s.heap [] hP hD hS
abbrev rmX8_leastCost : Room := { frames := 1, cells := 0, slots := 0, locals := 21 }
set_option maxHeartbeats 4000000 in
set_option maxRecDepth 100000 in
theorem mX8_leastCost (l : Launch) (G : GG) (x : Int) (y : Int) (z : Int) (w : Int) (h0 : -1 ≤ x ∧ x ≤ 1000) (h1 : -1 ≤ y ∧ y ≤ 1000) (h2 : -1 ≤ z ∧ z ≤ 1000) (h3 : -1 ≤ w ∧ w ≤ 1000) : Ct l yX8_leastCost cX8_leastCost 4 (some .int) rmX8_leastCost G [.int (jz x), .int (jz y), .int (jz z), .int (jz w)] [] (fun uo : Unit => some (.int (jz (min (min x y + 1) (z + w))))) (fun uo => True) (fun uo => []) := by
  refine cof (by decide) (Nat.le_of_ble_eq_true rfl) ?_
  intro p e s m args below meth c A ls hx hb hr hml hown hts hlocks hin hA hK hP hD hS hl Q hQ
  have hown : s.vm.findClass RX8 = some m.cls := hown
  have hl : lv_has ls 4 [(0, .int (jz x)), (1, .int (jz y)), (2, .int (jz z)), (3, .int (jz w))] := hl
  have KH : ∀ (H : Heap) (locs : List Loc), wP G [] H → wD A [] → va_S A s.heap H locs → W p l e rmX8_leastCost s m args below meth c H locs 0 0 Q (F0 m 0 ls []) := by
    intro H locs hP hD hS
    refine lv_iload_n hx hb dX8_leastCost_0 rfl (lv_at hl 0 rfl) ?_
    refine lv_iload_n hx hb dX8_leastCost_1 rfl (lv_at hl 1 rfl) ?_
    refine jv_min hx hb (hml.trans hl.1.symm) hown (hts _ wm466) (hts _ wm467) (hts _ wm26) (hts _ wm468) (Nat.le_of_ble_eq_true rfl) (Nat.le_of_ble_eq_true rfl) (Nat.le_of_ble_eq_true rfl) (Nat.le_of_ble_eq_true rfl) (by omega) (by omega) dX8_leastCost_2 ?_
    refine jv_iconst hx hb dX8_leastCost_5 ?_
    refine jv_iadd hx hb dX8_leastCost_6 ?_
    refine lv_iload_n hx hb dX8_leastCost_7 rfl (lv_at hl 2 rfl) ?_
    refine lv_iload_n hx hb dX8_leastCost_8 rfl (lv_at hl 3 rfl) ?_
    refine jv_iadd hx hb dX8_leastCost_9 ?_
    refine jv_min hx hb (hml.trans hl.1.symm) hown (hts _ wm466) (hts _ wm467) (hts _ wm26) (hts _ wm468) (Nat.le_of_ble_eq_true rfl) (Nat.le_of_ble_eq_true rfl) (Nat.le_of_ble_eq_true rfl) (Nat.le_of_ble_eq_true rfl) (by omega) (by omega) dX8_leastCost_10 ?_
    exact cret_i hx hb hr hlocks hS hP hD (Nat.le_of_ble_eq_true rfl) (Nat.le_of_ble_eq_true rfl) rfl dX8_leastCost_13 [] (by decide) () rfl trivial (congrArg (fun z : Int => some (Value.int (jz z))) (show (min ((min x y) + 1) (z + w)) = min (min x y + 1) (z + w) from by first | rfl | omega | (split <;> first | rfl | omega | (exfalso; omega)))) hQ
  exact KH s.heap [] hP hD hS
abbrev rmX1_isInside_in : Room := { frames := 0, cells := 0, slots := 0, locals := 0 }
set_option maxHeartbeats 4000000 in
set_option maxRecDepth 100000 in
theorem mX1_isInside_in (l : Launch) (G : GG) (x : Int) (y : Int) (hx9 : 0 ≤ x ∧ x < 21) (hy9 : 0 ≤ y ∧ y < 21) : Ct l yX1_isInside cX1_isInside 2 (some .boolean) rmX1_isInside_in G [.int (jz x), .int (jz y)] [] (fun uo : Unit => some (.int (jz 1))) (fun uo => True) (fun uo => []) := by
  refine cof (by decide) (Nat.le_of_ble_eq_true rfl) ?_
  intro p e s m args below meth c A ls hx hb hr hml hown hts hlocks hin hA hK hP hD hS hl Q hQ
  have hown : s.vm.findClass RX1 = some m.cls := hown
  have hl : lv_has ls 2 [(0, .int (jz x)), (1, .int (jz y))] := hl
  have KH : ∀ (H : Heap) (locs : List Loc), wP G [] H → wD A [] → va_S A s.heap H locs → W p l e rmX1_isInside_in s m args below meth c H locs 0 0 Q (F0 m 0 ls []) := by
    intro H locs hP hD hS
    refine lv_iload_n hx hb dX1_isInside_0 rfl (lv_at hl 0 rfl) ?_
    refine jv_if_lt (tgt := 24) hx hb dX1_isInside_1 (by decide) (by omega) (fun c_1 => ?_) (fun c_1 => ?_)
    · exfalso; omega
    · refine lv_iload_n hx hb dX1_isInside_4 rfl (lv_at hl 0 rfl) ?_
      refine jv_bipush hx hb dX1_isInside_5 (by decide) ?_
      refine jv_icmp_ge (tgt := 24) hx hb dX1_isInside_7 (by decide) (by omega) (by omega) (fun c_2 => ?_) (fun c_2 => ?_)
      · exfalso; omega
      · refine lv_iload_n hx hb dX1_isInside_10 rfl (lv_at hl 1 rfl) ?_
        refine jv_if_lt (tgt := 24) hx hb dX1_isInside_11 (by decide) (by omega) (fun c_3 => ?_) (fun c_3 => ?_)
        · exfalso; omega
        · refine lv_iload_n hx hb dX1_isInside_14 rfl (lv_at hl 1 rfl) ?_
          refine jv_bipush hx hb dX1_isInside_15 (by decide) ?_
          refine jv_icmp_ge (tgt := 24) hx hb dX1_isInside_17 (by decide) (by omega) (by omega) (fun c_4 => ?_) (fun c_4 => ?_)
          · exfalso; omega
          · refine jv_iconst hx hb dX1_isInside_20 ?_
            refine lv_goto (tgt := 25) hx hb dX1_isInside_21 (by decide) ?_
            exact cret_i hx hb hr hlocks hS hP hD (Nat.le_of_ble_eq_true rfl) (Nat.le_of_ble_eq_true rfl) (jz_nb (show 1 = 0 ∨ 1 = 1 by omega)) dX1_isInside_25 [] (by decide) () rfl trivial (congrArg (fun z : Int => some (Value.int (jz z))) (show 1 = 1 from by first | rfl | omega | (split <;> first | rfl | omega | (exfalso; omega)))) hQ
  exact KH s.heap [] hP hD hS
abbrev rmX1_at : Room := { frames := 1, cells := 0, slots := 0, locals := 21 }
set_option maxHeartbeats 4000000 in
set_option maxRecDepth 100000 in
theorem mX1_at (l : Launch) (G : GG) (q : Nat) (b : Nat) (h : Int → Int) (x : Int) (y : Int) (hi : 0 ≤ x ∧ x < 21) (hj : 0 ≤ y ∧ y < 21) : Ct l yX1_at cX1_at 3 (some .int) rmX1_at G [.ref q, .int (jz x), .int (jz y)] [bGrid G q b h] (fun uo : Unit => some (.int (jz (h (x * 21 + y))))) (fun uo => True) (fun uo => [bGrid G q b h]) := by
  refine cof (by decide) (Nat.le_of_ble_eq_true rfl) ?_
  intro p e s m args below meth c A ls hx hb hr hml hown hts hlocks hin hA hK hP hD hS hl Q hQ
  have hown : s.vm.findClass RX1 = some m.cls := hown
  have hl : lv_has ls 3 [(0, .ref q), (1, .int (jz x)), (2, .int (jz y))] := hl
  have KH : ∀ (H : Heap) (locs : List Loc), wP G [bGrid G q b h] H → wD A [bGrid G q b h] → va_S A s.heap H locs → W p l e rmX1_at s m args below meth c H locs 0 0 Q (F0 m 0 ls []) := by
    intro H locs hP hD hS
    refine lv_iload_n hx hb dX1_at_0 rfl (lv_at hl 1 rfl) ?_
    refine lv_iload_n hx hb dX1_at_1 rfl (lv_at hl 2 rfl) ?_
    refine kS ⟨hx, hb, hml, hown, hts⟩ hK hA hS hP hD [.int (jz x), .int (jz y)] [] (mX1_isInside_in l G x y (by omega) (by omega)) lkX1_15 [] [0] (br := [bGrid G q b h]) rfl rfl (by decide) rfl rfl (Nat.le_of_ble_eq_true rfl) hl.1 dX1_at_2 ⟨Nat.le_of_ble_eq_true rfl, Nat.le_of_ble_eq_true rfl⟩ ⟨Nat.le_of_ble_eq_true rfl, Nat.le_of_ble_eq_true rfl⟩ (fun u9 H locs hp9 hP hD hS => ?_)
    have hP : wP G [bGrid G q b h] H := hP
    have hD : wD A [bGrid G q b h] := hD
    show W p l e rmX1_at s m args below meth c H locs 0 0 Q (F0 m 5 ls [.int (jz 1)])
    refine jv_if_eq (tgt := 22) hx hb dX1_at_5 (by decide) (by omega) (fun c_2 => ?_) (fun c_2 => ?_)
    · exfalso; omega
    · refine lv_aload_n hx hb dX1_at_8 rfl (lv_at hl 0 rfl) ?_
      refine va_get (ci := 1) (v := .ref b) (C := RX1) (T := TX1) (N := 1) hx hb hts wfX1 hown hK.1 hP 0 rfl rfl 0 (by decide) (hts _ wm103) (fun _ h9 => h9) rfl dX1_at_9 ?_
      refine lv_iload_n hx hb dX1_at_12 rfl (lv_at hl 1 rfl) ?_
      refine jv_bipush hx hb dX1_at_13 (by decide) ?_
      refine jv_imul hx hb dX1_at_15 ?_
      refine lv_iload_n hx hb dX1_at_16 rfl (lv_at hl 2 rfl) ?_
      refine jv_iadd hx hb dX1_at_17 ?_
      refine jv_iald hx hb hK.1 hP 1 (g := h) rfl (by omega) (by omega) (by decide) dX1_at_18 ?_
      refine lv_goto (tgt := 23) hx hb dX1_at_19 (by decide) ?_
      exact cret_i hx hb hr hlocks hS hP hD (Nat.le_of_ble_eq_true rfl) (Nat.le_of_ble_eq_true rfl) rfl dX1_at_23 [0] (by decide) () rfl trivial (congrArg (fun z : Int => some (Value.int (jz z))) (show (h ((x * 21) + y)) = h (x * 21 + y) from by first | rfl | omega | (split <;> first | rfl | omega | (exfalso; omega)))) hQ
  exact KH s.heap [] hP hD hS
abbrev rmX1_put : Room := { frames := 1, cells := 0, slots := 0, locals := 21 }
set_option maxHeartbeats 4000000 in
set_option maxRecDepth 100000 in
theorem mX1_put (l : Launch) (G : GG) (q : Nat) (b : Nat) (h : Int → Int) (x : Int) (y : Int) (v : Int) (hi : 0 ≤ x ∧ x < 21) (hj : 0 ≤ y ∧ y < 21) : Ct l yX1_put cX1_put 4 none rmX1_put G [.ref q, .int (jz x), .int (jz y), .int (jz v)] [bGrid G q b h] (fun uo : Unit => none) (fun uo => True) (fun uo => [bGrid G q b (up h (x * 21 + y) v)]) := by
  refine cof (by decide) (Nat.le_of_ble_eq_true rfl) ?_
  intro p e s m args below meth c A ls hx hb hr hml hown hts hlocks hin hA hK hP hD hS hl Q hQ
  have hown : s.vm.findClass RX1 = some m.cls := hown
  have hl : lv_has ls 4 [(0, .ref q), (1, .int (jz x)), (2, .int (jz y)), (3, .int (jz v))] := hl
  have KH : ∀ (H : Heap) (locs : List Loc), wP G [bGrid G q b h] H → wD A [bGrid G q b h] → va_S A s.heap H locs → W p l e rmX1_put s m args below meth c H locs 0 0 Q (F0 m 0 ls []) := by
    intro H locs hP hD hS
    refine lv_iload_n hx hb dX1_put_0 rfl (lv_at hl 1 rfl) ?_
    refine lv_iload_n hx hb dX1_put_1 rfl (lv_at hl 2 rfl) ?_
    refine kS ⟨hx, hb, hml, hown, hts⟩ hK hA hS hP hD [.int (jz x), .int (jz y)] [] (mX1_isInside_in l G x y (by omega) (by omega)) lkX1_15 [] [0] (br := [bGrid G q b h]) rfl rfl (by decide) rfl rfl (Nat.le_of_ble_eq_true rfl) hl.1 dX1_put_2 ⟨Nat.le_of_ble_eq_true rfl, Nat.le_of_ble_eq_true rfl⟩ ⟨Nat.le_of_ble_eq_true rfl, Nat.le_of_ble_eq_true rfl⟩ (fun u9 H locs hp9 hP hD hS => ?_)
    have hP : wP G [bGrid G q b h] H := hP
    have hD : wD A [bGrid G q b h] := hD
    show W p l e rmX1_put s m args below meth c H locs 0 0 Q (F0 m 5 ls [.int (jz 1)])
    refine jv_if_eq (tgt := 20) hx hb dX1_put_5 (by decide) (by omega) (fun c_2 => ?_) (fun c_2 => ?_)
    · exfalso; omega
    · refine lv_aload_n hx hb dX1_put_8 rfl (lv_at hl 0 rfl) ?_
      refine va_get (ci := 1) (v := .ref b) (C := RX1) (T := TX1) (N := 1) hx hb hts wfX1 hown hK.1 hP 0 rfl rfl 0 (by decide) (hts _ wm103) (fun _ h9 => h9) rfl dX1_put_9 ?_
      refine lv_iload_n hx hb dX1_put_12 rfl (lv_at hl 1 rfl) ?_
      refine jv_bipush hx hb dX1_put_13 (by decide) ?_
      refine jv_imul hx hb dX1_put_15 ?_
      refine lv_iload_n hx hb dX1_put_16 rfl (lv_at hl 2 rfl) ?_
      refine jv_iadd hx hb dX1_put_17 ?_
      refine lv_iload_n hx hb dX1_put_18 rfl (lv_at hl 3 rfl) ?_
      refine jv_iast hx hb hK.1 hP hD hS 1 (g := h) rfl (by omega) (by omega) (by decide) dX1_put_19 (fun H locs hP hD hS => ?_)
      have hP : wP G [bGrid G q b (up h ((x * 21) + y) v)] H := hP
      have hD : wD A [bGrid G q b (up h ((x * 21) + y) v)] := hD
      exact cret_v hx hb hr hlocks hS hP hD (Nat.le_of_ble_eq_true rfl) (Nat.le_of_ble_eq_true rfl) dX1_put_20 [0] (by decide) () rfl trivial rfl hQ
  exact KH s.heap [] hP hD hS
abbrev rmX1_stepAcross : Room := { frames := 2, cells := 0, slots := 0, locals := 43 }
set_option maxHeartbeats 4000000 in
set_option maxRecDepth 100000 in
theorem mX1_stepAcross (l : Launch) (G : GG) (q : Nat) (b : Nat) (h : Int → Int) (x : Int) (y : Int) (hi : 0 ≤ x ∧ x < 21) (hj : 1 ≤ y ∧ y < 21) : Ct l yX1_stepAcross cX1_stepAcross 3 (some .int) rmX1_stepAcross G [.ref q, .int (jz x), .int (jz y)] [bGrid G q b h] (fun uo : Unit => some (.int (jz (h (x * 21 + y) - h (x * 21 + (y - 1)))))) (fun uo => True) (fun uo => [bGrid G q b h]) := by
  refine cof (by decide) (Nat.le_of_ble_eq_true rfl) ?_
  intro p e s m args below meth c A ls hx hb hr hml hown hts hlocks hin hA hK hP hD hS hl Q hQ
  have hown : s.vm.findClass RX1 = some m.cls := hown
  have hl : lv_has ls 3 [(0, .ref q), (1, .int (jz x)), (2, .int (jz y))] := hl
  have KH : ∀ (H : Heap) (locs : List Loc), wP G [bGrid G q b h] H → wD A [bGrid G q b h] → va_S A s.heap H locs → W p l e rmX1_stepAcross s m args below meth c H locs 0 0 Q (F0 m 0 ls []) := by
    intro H locs hP hD hS
    refine lv_aload_n hx hb dX1_stepAcross_0 rfl (lv_at hl 0 rfl) ?_
    refine lv_iload_n hx hb dX1_stepAcross_1 rfl (lv_at hl 1 rfl) ?_
    refine lv_iload_n hx hb dX1_stepAcross_2 rfl (lv_at hl 2 rfl) ?_
    refine kV ⟨hx, hb, hml, hown, hts⟩ hK hA hS hP hD [.int (jz x), .int (jz y)] [] (mX1_at l G q b h x y (by omega) (by omega)) lkX1_19 [0] [] (br := []) rfl rfl (by decide) 0 1 rfl rfl rfl rfl (Nat.le_of_ble_eq_true rfl) hl.1 dX1_stepAcross_3 ⟨Nat.le_of_ble_eq_true rfl, Nat.le_of_ble_eq_true rfl⟩ ⟨Nat.le_of_ble_eq_true rfl, Nat.le_of_ble_eq_true rfl⟩ (fun u9 H locs hp9 hP hD hS => ?_)
    have hP : wP G [bGrid G q b h] H := hP
    have hD : wD A [bGrid G q b h] := hD
    show W p l e rmX1_stepAcross s m args below meth c H locs 0 0 Q (F0 m 6 ls [.int (jz (h (x * 21 + y)))])
    refine lv_aload_n hx hb dX1_stepAcross_6 rfl (lv_at hl 0 rfl) ?_
    refine lv_iload_n hx hb dX1_stepAcross_7 rfl (lv_at hl 1 rfl) ?_
    refine lv_iload_n hx hb dX1_stepAcross_8 rfl (lv_at hl 2 rfl) ?_
    refine jv_iconst hx hb dX1_stepAcross_9 ?_
    refine jv_isub hx hb dX1_stepAcross_10 ?_
    refine kV ⟨hx, hb, hml, hown, hts⟩ hK hA hS hP hD [.int (jz x), .int (jz (y - 1))] [.int (jz (h (x * 21 + y)))] (mX1_at l G q b h x (y - 1) (by omega) (by omega)) lkX1_19 [0] [] (br := []) rfl rfl (by decide) 0 1 rfl rfl rfl rfl (Nat.le_of_ble_eq_true rfl) hl.1 dX1_stepAcross_11 ⟨Nat.le_of_ble_eq_true rfl, Nat.le_of_ble_eq_true rfl⟩ ⟨Nat.le_of_ble_eq_true rfl, Nat.le_of_ble_eq_true rfl⟩ (fun u9 H locs hp9 hP hD hS => ?_)
    have hP : wP G [bGrid G q b h] H := hP
    have hD : wD A [bGrid G q b h] := hD
    show W p l e rmX1_stepAcross s m args below meth c H locs 0 0 Q (F0 m 14 ls [.int (jz (h (x * 21 + (y - 1)))), .int (jz (h (x * 21 + y)))])
    refine jv_isub hx hb dX1_stepAcross_14 ?_
    exact cret_i hx hb hr hlocks hS hP hD (Nat.le_of_ble_eq_true rfl) (Nat.le_of_ble_eq_true rfl) rfl dX1_stepAcross_15 [0] (by decide) () rfl trivial (congrArg (fun z : Int => some (Value.int (jz z))) (show ((h (x * 21 + y)) - (h (x * 21 + (y - 1)))) = h (x * 21 + y) - h (x * 21 + (y - 1)) from by first | rfl | omega | (split <;> first | rfl | omega | (exfalso; omega)))) hQ
  exact KH s.heap [] hP hD hS
abbrev rmX1_stepDown : Room := { frames := 2, cells := 0, slots := 0, locals := 43 }
set_option maxHeartbeats 4000000 in
set_option maxRecDepth 100000 in
theorem mX1_stepDown (l : Launch) (G : GG) (q : Nat) (b : Nat) (h : Int → Int) (x : Int) (y : Int) (hi : 1 ≤ x ∧ x < 21) (hj : 0 ≤ y ∧ y < 21) : Ct l yX1_stepDown cX1_stepDown 3 (some .int) rmX1_stepDown G [.ref q, .int (jz x), .int (jz y)] [bGrid G q b h] (fun uo : Unit => some (.int (jz (h (x * 21 + y) - h ((x - 1) * 21 + y))))) (fun uo => True) (fun uo => [bGrid G q b h]) := by
  refine cof (by decide) (Nat.le_of_ble_eq_true rfl) ?_
  intro p e s m args below meth c A ls hx hb hr hml hown hts hlocks hin hA hK hP hD hS hl Q hQ
  have hown : s.vm.findClass RX1 = some m.cls := hown
  have hl : lv_has ls 3 [(0, .ref q), (1, .int (jz x)), (2, .int (jz y))] := hl
  have KH : ∀ (H : Heap) (locs : List Loc), wP G [bGrid G q b h] H → wD A [bGrid G q b h] → va_S A s.heap H locs → W p l e rmX1_stepDown s m args below meth c H locs 0 0 Q (F0 m 0 ls []) := by
    intro H locs hP hD hS
    refine lv_aload_n hx hb dX1_stepDown_0 rfl (lv_at hl 0 rfl) ?_
    refine lv_iload_n hx hb dX1_stepDown_1 rfl (lv_at hl 1 rfl) ?_
    refine lv_iload_n hx hb dX1_stepDown_2 rfl (lv_at hl 2 rfl) ?_
    refine kV ⟨hx, hb, hml, hown, hts⟩ hK hA hS hP hD [.int (jz x), .int (jz y)] [] (mX1_at l G q b h x y (by omega) (by omega)) lkX1_19 [0] [] (br := []) rfl rfl (by decide) 0 1 rfl rfl rfl rfl (Nat.le_of_ble_eq_true rfl) hl.1 dX1_stepDown_3 ⟨Nat.le_of_ble_eq_true rfl, Nat.le_of_ble_eq_true rfl⟩ ⟨Nat.le_of_ble_eq_true rfl, Nat.le_of_ble_eq_true rfl⟩ (fun u9 H locs hp9 hP hD hS => ?_)
    have hP : wP G [bGrid G q b h] H := hP
    have hD : wD A [bGrid G q b h] := hD
    show W p l e rmX1_stepDown s m args below meth c H locs 0 0 Q (F0 m 6 ls [.int (jz (h (x * 21 + y)))])
    refine lv_aload_n hx hb dX1_stepDown_6 rfl (lv_at hl 0 rfl) ?_
    refine lv_iload_n hx hb dX1_stepDown_7 rfl (lv_at hl 1 rfl) ?_
    refine jv_iconst hx hb dX1_stepDown_8 ?_
    refine jv_isub hx hb dX1_stepDown_9 ?_
    refine lv_iload_n hx hb dX1_stepDown_10 rfl (lv_at hl 2 rfl) ?_
    refine kV ⟨hx, hb, hml, hown, hts⟩ hK hA hS hP hD [.int (jz (x - 1)), .int (jz y)] [.int (jz (h (x * 21 + y)))] (mX1_at l G q b h (x - 1) y (by omega) (by omega)) lkX1_19 [0] [] (br := []) rfl rfl (by decide) 0 1 rfl rfl rfl rfl (Nat.le_of_ble_eq_true rfl) hl.1 dX1_stepDown_11 ⟨Nat.le_of_ble_eq_true rfl, Nat.le_of_ble_eq_true rfl⟩ ⟨Nat.le_of_ble_eq_true rfl, Nat.le_of_ble_eq_true rfl⟩ (fun u9 H locs hp9 hP hD hS => ?_)
    have hP : wP G [bGrid G q b h] H := hP
    have hD : wD A [bGrid G q b h] := hD
    show W p l e rmX1_stepDown s m args below meth c H locs 0 0 Q (F0 m 14 ls [.int (jz (h ((x - 1) * 21 + y))), .int (jz (h (x * 21 + y)))])
    refine jv_isub hx hb dX1_stepDown_14 ?_
    exact cret_i hx hb hr hlocks hS hP hD (Nat.le_of_ble_eq_true rfl) (Nat.le_of_ble_eq_true rfl) rfl dX1_stepDown_15 [0] (by decide) () rfl trivial (congrArg (fun z : Int => some (Value.int (jz z))) (show ((h (x * 21 + y)) - (h ((x - 1) * 21 + y))) = h (x * 21 + y) - h ((x - 1) * 21 + y) from by first | rfl | omega | (split <;> first | rfl | omega | (exfalso; omega)))) hQ
  exact KH s.heap [] hP hD hS
abbrev rmX1_fill : Room := { frames := 2, cells := 0, slots := 0, locals := 44 }
set_option maxHeartbeats 4000000 in
set_option maxRecDepth 100000 in
theorem mX1_fill (l : Launch) (G : GG) (q : Nat) (b : Nat) (h : Int → Int) (t : Nat) (a : Nat) (n : Int) (g : Int → Int) (t2 : Nat) (a2 : Nat) (n2 : Int) (g2 : Int → Int) (sc : Int) (hn : 0 ≤ n ∧ n ≤ 20) (hn2 : 0 ≤ n2 ∧ n2 ≤ 20) (hc : sc = 0 ∨ sc = 1) (hg : ∀ j : Int, 0 ≤ j → j < n → 0 ≤ g j ∧ g j < 4) (hg2 : ∀ j : Int, 0 ≤ j → j < n2 → 0 ≤ g2 j ∧ g2 j < 4) : Ct l yX1_fill cX1_fill 7 none rmX1_fill G [.ref q, .ref t, .ref t2, .int (jz sc)] [bGrid G q b h, bText G t a n g, bText G t2 a2 n2 g2] (fun uo : (Int → Int) => none) (fun uo => (∀ x y : Int, 0 ≤ x → x ≤ n → 0 ≤ y → y ≤ n2 → uo (x * 21 + y) = D sc g g2 x y)) (fun uo => [bGrid G q b uo, bText G t a n g, bText G t2 a2 n2 g2]) := by
  refine cof (by decide) (Nat.le_of_ble_eq_true rfl) ?_
  intro p e s m args below meth c A ls hx hb hr hml hown hts hlocks hin hA hK hP hD hS hl Q hQ
  have hown : s.vm.findClass RX1 = some m.cls := hown
  have hl : lv_has ls 7 [(0, .ref q), (1, .ref t), (2, .ref t2), (3, .int (jz sc))] := hl
  have KH : ∀ (H : Heap) (locs : List Loc), wP G [bGrid G q b h, bText G t a n g, bText G t2 a2 n2 g2] H → wD A [bGrid G q b h, bText G t a n g, bText G t2 a2 n2 g2] → va_S A s.heap H locs → W p l e rmX1_fill s m args below meth c H locs 0 0 Q (F0 m 0 ls []) := by
    intro H locs hP hD hS
    refine jv_iconst hx hb dX1_fill_0 ?_
    refine lv_istore (lv' := [(4, .int (jz 0)), (0, .ref q), (1, .ref t), (2, .ref t2), (3, .int (jz sc))]) hx hb dX1_fill_1 hl (by decide) rfl (fun ls hl => ?_)
    have K3 : ∀ (n9 : Nat) (i : Int) (k : Int → Int) , ((n2 + 1 - i).toNat) < n9 → (0 ≤ i ∧ i ≤ n2 + 1) → (∀ x y : Int, 0 ≤ x → 0 ≤ y → y ≤ n2 → (x < 0 ∨ (x = 0 ∧ y < i)) → k (x * 21 + y) = D sc g g2 x y) → ∀ (H : Heap) (locs : List Loc) (ls : Array Slot), wP G [bGrid G q b k, bText G t a n g, bText G t2 a2 n2 g2] H → wD A [bGrid G q b k, bText G t a n g, bText G t2 a2 n2 g2] → va_S A s.heap H locs → lv_has ls 7 [(0, .ref q), (1, .ref t), (2, .ref t2), (3, .int (jz sc)), (4, .int (jz i))] → W p l e rmX1_fill s m args below meth c H locs 0 0 Q (F0 m 3 ls []) := by
      intro n9
      induction n9 with
      | zero => intro i k hm9; exact absurd hm9 (Nat.not_lt_zero _)
      | succ n9 ih3 =>
        intro i k hm9 hi hh H locs ls hP hD hS hl
        refine lv_iload hx hb dX1_fill_3 (lv_at hl 4 rfl) ?_
        refine lv_aload_n hx hb dX1_fill_5 rfl (lv_at hl 2 rfl) ?_
        refine kV ⟨hx, hb, hml, hown, hts⟩ hK hA hS hP hD [] [.int (jz i)] (mX6_size l G t2 a2 n2 g2 ) lkX1_23 [2] [0, 1] (br := [bGrid G q b k, bText G t a n g]) rfl rfl (by decide) 0 6 rfl rfl rfl rfl (Nat.le_of_ble_eq_true rfl) hl.1 dX1_fill_6 ⟨Nat.le_of_ble_eq_true rfl, Nat.le_of_ble_eq_true rfl⟩ ⟨Nat.le_of_ble_eq_true rfl, Nat.le_of_ble_eq_true rfl⟩ (fun u9 H locs hp9 hP hD hS => ?_)
        have hP : wP G [bGrid G q b k, bText G t a n g, bText G t2 a2 n2 g2] H := hP
        have hD : wD A [bGrid G q b k, bText G t a n g, bText G t2 a2 n2 g2] := hD
        show W p l e rmX1_fill s m args below meth c H locs 0 0 Q (F0 m 9 ls [.int (jz n2), .int (jz i)])
        refine jv_icmp_gt (tgt := 27) hx hb dX1_fill_9 (by decide) (by omega) (by omega) (fun c_2 => ?_) (fun c_2 => ?_)
        · refine jv_iconst hx hb dX1_fill_27 ?_
          refine lv_istore (lv' := [(4, .int (jz 1)), (0, .ref q), (1, .ref t), (2, .ref t2), (3, .int (jz sc))]) hx hb dX1_fill_28 hl (by decide) rfl (fun ls hl => ?_)
          have K30 : ∀ (n9 : Nat) (i : Int) (k : Int → Int) , ((n + 1 - i).toNat) < n9 → (1 ≤ i ∧ i ≤ n + 1) → (∀ x y : Int, 0 ≤ x → 0 ≤ y → y ≤ n2 → (x < i ∨ (x = i ∧ y < 0)) → k (x * 21 + y) = D sc g g2 x y) → ∀ (H : Heap) (locs : List Loc) (ls : Array Slot), wP G [bGrid G q b k, bText G t a n g, bText G t2 a2 n2 g2] H → wD A [bGrid G q b k, bText G t a n g, bText G t2 a2 n2 g2] → va_S A s.heap H locs → lv_has ls 7 [(0, .ref q), (1, .ref t), (2, .ref t2), (3, .int (jz sc)), (4, .int (jz i))] → W p l e rmX1_fill s m args below meth c H locs 0 0 Q (F0 m 30 ls []) := by
            intro n9
            induction n9 with
            | zero => intro i k hm9; exact absurd hm9 (Nat.not_lt_zero _)
            | succ n9 ih30 =>
              intro i k hm9 hi hh H locs ls hP hD hS hl
              refine lv_iload hx hb dX1_fill_30 (lv_at hl 4 rfl) ?_
              refine lv_aload_n hx hb dX1_fill_32 rfl (lv_at hl 1 rfl) ?_
              refine kV ⟨hx, hb, hml, hown, hts⟩ hK hA hS hP hD [] [.int (jz i)] (mX6_size l G t a n g ) lkX1_23 [1] [0, 2] (br := [bGrid G q b k, bText G t2 a2 n2 g2]) rfl rfl (by decide) 0 6 rfl rfl rfl rfl (Nat.le_of_ble_eq_true rfl) hl.1 dX1_fill_33 ⟨Nat.le_of_ble_eq_true rfl, Nat.le_of_ble_eq_true rfl⟩ ⟨Nat.le_of_ble_eq_true rfl, Nat.le_of_ble_eq_true rfl⟩ (fun u9 H locs hp9 hP hD hS => ?_)
              have hP : wP G [bGrid G q b k, bText G t2 a2 n2 g2, bText G t a n g] H := hP
              have hD : wD A [bGrid G q b k, bText G t2 a2 n2 g2, bText G t a n g] := hD
              show W p l e rmX1_fill s m args below meth c H locs 0 0 Q (F0 m 36 ls [.int (jz n), .int (jz i)])
              refine jv_icmp_gt (tgt := 140) hx hb dX1_fill_36 (by decide) (by omega) (by omega) (fun c_4 => ?_) (fun c_4 => ?_)
              · exact cret_v hx hb hr hlocks hS hP hD (Nat.le_of_ble_eq_true rfl) (Nat.le_of_ble_eq_true rfl) dX1_fill_140 [0, 2, 1] (by decide) k rfl (by intro x y h1 h2 h3 h4; exact hh x y h1 h3 h4 (by omega)) rfl hQ
              · refine lv_aload_n hx hb dX1_fill_39 rfl (lv_at hl 0 rfl) ?_
                refine lv_iload hx hb dX1_fill_40 (lv_at hl 4 rfl) ?_
                refine jv_iconst hx hb dX1_fill_42 ?_
                refine lv_iload hx hb dX1_fill_43 (lv_at hl 4 rfl) ?_
                refine lv_iload_n hx hb dX1_fill_45 rfl (lv_at hl 3 rfl) ?_
                refine jv_imul hx hb dX1_fill_46 ?_
                refine kV ⟨hx, hb, hml, hown, hts⟩ hK hA hS hP hD [.int (jz i), .int (jz 0), .int (jz (i * sc))] [] (mX1_put l G q b k i 0 (i * sc) (by omega) (by omega)) lkX1_29 [0] [1, 2] (br := [bText G t2 a2 n2 g2, bText G t a n g]) rfl rfl (by decide) 0 1 rfl rfl rfl rfl (Nat.le_of_ble_eq_true rfl) hl.1 dX1_fill_47 ⟨Nat.le_of_ble_eq_true rfl, Nat.le_of_ble_eq_true rfl⟩ ⟨Nat.le_of_ble_eq_true rfl, Nat.le_of_ble_eq_true rfl⟩ (fun u9 H locs hp9 hP hD hS => ?_)
                have hP : wP G [bText G t2 a2 n2 g2, bText G t a n g, bGrid G q b (up k (i * 21 + 0) (i * sc))] H := hP
                have hD : wD A [bText G t2 a2 n2 g2, bText G t a n g, bGrid G q b (up k (i * 21 + 0) (i * sc))] := hD
                show W p l e rmX1_fill s m args below meth c H locs 0 0 Q (F0 m 50 ls [])
                refine jv_iconst hx hb dX1_fill_50 ?_
                refine lv_istore (lv' := [(5, .int (jz 1)), (0, .ref q), (1, .ref t), (2, .ref t2), (3, .int (jz sc)), (4, .int (jz i))]) hx hb dX1_fill_51 hl (by decide) rfl (fun ls hl => ?_)
                have K53 : ∀ (n9 : Nat) (j : Int) (k : Int → Int) , ((n2 + 1 - j).toNat) < n9 → (1 ≤ j ∧ j ≤ n2 + 1) → (∀ x y : Int, 0 ≤ x → 0 ≤ y → y ≤ n2 → (x < i ∨ (x = i ∧ y < j)) → k (x * 21 + y) = D sc g g2 x y) → ∀ (H : Heap) (locs : List Loc) (ls : Array Slot), wP G [bGrid G q b k, bText G t a n g, bText G t2 a2 n2 g2] H → wD A [bGrid G q b k, bText G t a n g, bText G t2 a2 n2 g2] → va_S A s.heap H locs → lv_has ls 7 [(0, .ref q), (1, .ref t), (2, .ref t2), (3, .int (jz sc)), (4, .int (jz i)), (5, .int (jz j))] → W p l e rmX1_fill s m args below meth c H locs 0 0 Q (F0 m 53 ls []) := by
                  intro n9
                  induction n9 with
                  | zero => intro j k hm9; exact absurd hm9 (Nat.not_lt_zero _)
                  | succ n9 ih53 =>
                    intro j k hm9 hj hh2 H locs ls hP hD hS hl
                    refine lv_iload hx hb dX1_fill_53 (lv_at hl 5 rfl) ?_
                    refine lv_aload_n hx hb dX1_fill_55 rfl (lv_at hl 2 rfl) ?_
                    refine kV ⟨hx, hb, hml, hown, hts⟩ hK hA hS hP hD [] [.int (jz j)] (mX6_size l G t2 a2 n2 g2 ) lkX1_23 [2] [0, 1] (br := [bGrid G q b k, bText G t a n g]) rfl rfl (by decide) 0 6 rfl rfl rfl rfl (Nat.le_of_ble_eq_true rfl) hl.1 dX1_fill_56 ⟨Nat.le_of_ble_eq_true rfl, Nat.le_of_ble_eq_true rfl⟩ ⟨Nat.le_of_ble_eq_true rfl, Nat.le_of_ble_eq_true rfl⟩ (fun u9 H locs hp9 hP hD hS => ?_)
                    have hP : wP G [bGrid G q b k, bText G t a n g, bText G t2 a2 n2 g2] H := hP
                    have hD : wD A [bGrid G q b k, bText G t a n g, bText G t2 a2 n2 g2] := hD
                    show W p l e rmX1_fill s m args below meth c H locs 0 0 Q (F0 m 59 ls [.int (jz n2), .int (jz j)])
                    refine jv_icmp_gt (tgt := 134) hx hb dX1_fill_59 (by decide) (by omega) (by omega) (fun c_7 => ?_) (fun c_7 => ?_)
                    · refine jv_iinc (lv' := [(4, .int (jz (i + 1))), (0, .ref q), (1, .ref t), (2, .ref t2), (3, .int (jz sc)), (5, .int (jz j))]) (k := 4) hx hb dX1_fill_134 hl rfl (by decide) rfl (fun ls hl => ?_)
                      refine lv_goto (tgt := 30) hx hb dX1_fill_137 (by decide) ?_
                      exact ih30 (i + 1) k (by omega) (by omega) (by intro x y h1 h2 h3 h4; exact hh2 x y h1 h2 h3 (by omega)) H _ _ hP hD hS (lv_sub hl [1, 2, 3, 4, 0] rfl)
                    · refine lv_aload_n hx hb dX1_fill_62 rfl (lv_at hl 1 rfl) ?_
                      refine lv_iload hx hb dX1_fill_63 (lv_at hl 4 rfl) ?_
                      refine jv_iconst hx hb dX1_fill_65 ?_
                      refine jv_isub hx hb dX1_fill_66 ?_
                      refine kV ⟨hx, hb, hml, hown, hts⟩ hK hA hS hP hD [.int (jz (i - 1))] [] (mX6_at_in l G t a n g (i - 1) (by omega) (by omega)) lkX1_33 [1] [0, 2] (br := [bGrid G q b k, bText G t2 a2 n2 g2]) rfl rfl (by decide) 0 6 rfl rfl rfl rfl (Nat.le_of_ble_eq_true rfl) hl.1 dX1_fill_67 ⟨Nat.le_of_ble_eq_true rfl, Nat.le_of_ble_eq_true rfl⟩ ⟨Nat.le_of_ble_eq_true rfl, Nat.le_of_ble_eq_true rfl⟩ (fun u9 H locs hp9 hP hD hS => ?_)
                      have hP : wP G [bGrid G q b k, bText G t2 a2 n2 g2, bText G t a n g] H := hP
                      have hD : wD A [bGrid G q b k, bText G t2 a2 n2 g2, bText G t a n g] := hD
                      show W p l e rmX1_fill s m args below meth c H locs 0 0 Q (F0 m 70 ls [.int (jz (g (i - 1)))])
                      have b1 := hg (i - 1) (by omega) (by omega)
                      refine lv_aload_n hx hb dX1_fill_70 rfl (lv_at hl 2 rfl) ?_
                      refine lv_iload hx hb dX1_fill_71 (lv_at hl 5 rfl) ?_
                      refine jv_iconst hx hb dX1_fill_73 ?_
                      refine jv_isub hx hb dX1_fill_74 ?_
                      refine kV ⟨hx, hb, hml, hown, hts⟩ hK hA hS hP hD [.int (jz (j - 1))] [.int (jz (g (i - 1)))] (mX6_at_in l G t2 a2 n2 g2 (j - 1) (by omega) (by omega)) lkX1_33 [1] [0, 2] (br := [bGrid G q b k, bText G t a n g]) rfl rfl (by decide) 0 6 rfl rfl rfl rfl (Nat.le_of_ble_eq_true rfl) hl.1 dX1_fill_75 ⟨Nat.le_of_ble_eq_true rfl, Nat.le_of_ble_eq_true rfl⟩ ⟨Nat.le_of_ble_eq_true rfl, Nat.le_of_ble_eq_true rfl⟩ (fun u9 H locs hp9 hP hD hS => ?_)
                      have hP : wP G [bGrid G q b k, bText G t a n g, bText G t2 a2 n2 g2] H := hP
                      have hD : wD A [bGrid G q b k, bText G t a n g, bText G t2 a2 n2 g2] := hD
                      show W p l e rmX1_fill s m args below meth c H locs 0 0 Q (F0 m 78 ls [.int (jz (g2 (j - 1))), .int (jz (g (i - 1)))])
                      have b2 := hg2 (j - 1) (by omega) (by omega)
                      refine kSN ⟨hx, hb, hml, hown, hts⟩ hK hA hS hP hD [.int (jz (g (i - 1))), .int (jz (g2 (j - 1)))] [] (mX8_replaceCost l G (g (i - 1)) (g2 (j - 1)) (by omega) (by omega)) lkX1_36 [] [0, 1, 2] (br := [bGrid G q b k, bText G t a n g, bText G t2 a2 n2 g2]) rfl rfl (by decide) rfl rfl (Nat.le_of_ble_eq_true rfl) hl.1 dX1_fill_78 ⟨Nat.le_of_ble_eq_true rfl, Nat.le_of_ble_eq_true rfl⟩ ⟨Nat.le_of_ble_eq_true rfl, Nat.le_of_ble_eq_true rfl⟩ (fun u9 H locs hp9 hP hD hS => ?_)
                      have hP : wP G [bGrid G q b k, bText G t a n g, bText G t2 a2 n2 g2] H := hP
                      have hD : wD A [bGrid G q b k, bText G t a n g, bText G t2 a2 n2 g2] := hD
                      show W p l e rmX1_fill s m args below meth c H locs 0 0 Q (F0 m 81 ls [.int (jz (cst (g (i - 1)) (g2 (j - 1))))])
                      have b3 := cst_bd (g (i - 1)) (g2 (j - 1))
                      refine lv_istore (lv' := [(6, .int (jz (cst (g (i - 1)) (g2 (j - 1))))), (0, .ref q), (1, .ref t), (2, .ref t2), (3, .int (jz sc)), (4, .int (jz i)), (5, .int (jz j))]) hx hb dX1_fill_81 hl (by decide) rfl (fun ls hl => ?_)
                      refine lv_aload_n hx hb dX1_fill_83 rfl (lv_at hl 1 rfl) ?_
                      refine lv_iload hx hb dX1_fill_84 (lv_at hl 5 rfl) ?_
                      refine lv_iload hx hb dX1_fill_86 (lv_at hl 6 rfl) ?_
                      refine lv_aload_n hx hb dX1_fill_88 rfl (lv_at hl 1 rfl) ?_
                      refine lv_iload hx hb dX1_fill_89 (lv_at hl 5 rfl) ?_
                      refine jv_iconst hx hb dX1_fill_91 ?_
                      refine jv_isub hx hb dX1_fill_92 ?_
                      refine lv_iload hx hb dX1_fill_93 (lv_at hl 6 rfl) ?_
                      refine kV ⟨hx, hb, hml, hown, hts⟩ hK hA hS hP hD [.int (jz (i - 1)), .int (jz j)] [.int (jz j), .int (jz i), .ref q] (mX1_at l G q b k (i - 1) j (by omega) (by omega)) lkX1_19 [0] [1, 2] (br := [bText G t a n g, bText G t2 a2 n2 g2]) rfl rfl (by decide) 0 1 rfl rfl rfl rfl (Nat.le_of_ble_eq_true rfl) hl.1 dX1_fill_95 ⟨Nat.le_of_ble_eq_true rfl, Nat.le_of_ble_eq_true rfl⟩ ⟨Nat.le_of_ble_eq_true rfl, Nat.le_of_ble_eq_true rfl⟩ (fun u9 H locs hp9 hP hD hS => ?_)
                      have hP : wP G [bText G t a n g, bText G t2 a2 n2 g2, bGrid G q b k] H := hP
                      have hD : wD A [bText G t a n g, bText G t2 a2 n2 g2, bGrid G q b k] := hD
                      show W p l e rmX1_fill s m args below meth c H locs 0 0 Q (F0 m 98 ls [.int (jz (k ((i - 1) * 21 + j))), .int (jz j), .int (jz i), .ref q])
                      have b4 := D_bd hc g g2 (i := i - 1) (j := j) (by omega) (by omega)
                      have b5 := hh2 (i - 1) j (by omega) (by omega) (by omega) (by omega)
                      refine lv_aload_n hx hb dX1_fill_98 rfl (lv_at hl 1 rfl) ?_
                      refine lv_iload hx hb dX1_fill_99 (lv_at hl 5 rfl) ?_
                      refine lv_iload hx hb dX1_fill_101 (lv_at hl 6 rfl) ?_
                      refine jv_iconst hx hb dX1_fill_103 ?_
                      refine jv_isub hx hb dX1_fill_104 ?_
                      refine kV ⟨hx, hb, hml, hown, hts⟩ hK hA hS hP hD [.int (jz i), .int (jz (j - 1))] [.int (jz (k ((i - 1) * 21 + j))), .int (jz j), .int (jz i), .ref q] (mX1_at l G q b k i (j - 1) (by omega) (by omega)) lkX1_19 [2] [0, 1] (br := [bText G t a n g, bText G t2 a2 n2 g2]) rfl rfl (by decide) 0 1 rfl rfl rfl rfl (Nat.le_of_ble_eq_true rfl) hl.1 dX1_fill_105 ⟨Nat.le_of_ble_eq_true rfl, Nat.le_of_ble_eq_true rfl⟩ ⟨Nat.le_of_ble_eq_true rfl, Nat.le_of_ble_eq_true rfl⟩ (fun u9 H locs hp9 hP hD hS => ?_)
                      have hP : wP G [bText G t a n g, bText G t2 a2 n2 g2, bGrid G q b k] H := hP
                      have hD : wD A [bText G t a n g, bText G t2 a2 n2 g2, bGrid G q b k] := hD
                      show W p l e rmX1_fill s m args below meth c H locs 0 0 Q (F0 m 108 ls [.int (jz (k (i * 21 + (j - 1)))), .int (jz (k ((i - 1) * 21 + j))), .int (jz j), .int (jz i), .ref q])
                      have b6 := D_bd hc g g2 (i := i) (j := j - 1) (by omega) (by omega)
                      have b7 := hh2 i (j - 1) (by omega) (by omega) (by omega) (by omega)
                      refine lv_aload_n hx hb dX1_fill_108 rfl (lv_at hl 1 rfl) ?_
                      refine lv_iload hx hb dX1_fill_109 (lv_at hl 5 rfl) ?_
                      refine jv_iconst hx hb dX1_fill_111 ?_
                      refine jv_isub hx hb dX1_fill_112 ?_
                      refine lv_iload hx hb dX1_fill_113 (lv_at hl 6 rfl) ?_
                      refine jv_iconst hx hb dX1_fill_115 ?_
                      refine jv_isub hx hb dX1_fill_116 ?_
                      refine kV ⟨hx, hb, hml, hown, hts⟩ hK hA hS hP hD [.int (jz (i - 1)), .int (jz (j - 1))] [.int (jz (k (i * 21 + (j - 1)))), .int (jz (k ((i - 1) * 21 + j))), .int (jz j), .int (jz i), .ref q] (mX1_at l G q b k (i - 1) (j - 1) (by omega) (by omega)) lkX1_19 [2] [0, 1] (br := [bText G t a n g, bText G t2 a2 n2 g2]) rfl rfl (by decide) 0 1 rfl rfl rfl rfl (Nat.le_of_ble_eq_true rfl) hl.1 dX1_fill_117 ⟨Nat.le_of_ble_eq_true rfl, Nat.le_of_ble_eq_true rfl⟩ ⟨Nat.le_of_ble_eq_true rfl, Nat.le_of_ble_eq_true rfl⟩ (fun u9 H locs hp9 hP hD hS => ?_)
                      have hP : wP G [bText G t a n g, bText G t2 a2 n2 g2, bGrid G q b k] H := hP
                      have hD : wD A [bText G t a n g, bText G t2 a2 n2 g2, bGrid G q b k] := hD
                      show W p l e rmX1_fill s m args below meth c H locs 0 0 Q (F0 m 120 ls [.int (jz (k ((i - 1) * 21 + (j - 1)))), .int (jz (k (i * 21 + (j - 1)))), .int (jz (k ((i - 1) * 21 + j))), .int (jz j), .int (jz i), .ref q])
                      have b8 := D_bd hc g g2 (i := i - 1) (j := j - 1) (by omega) (by omega)
                      have b9 := hh2 (i - 1) (j - 1) (by omega) (by omega) (by omega) (by omega)
                      refine lv_iload hx hb dX1_fill_120 (lv_at hl 0 rfl) ?_
                      refine kSN ⟨hx, hb, hml, hown, hts⟩ hK hA hS hP hD [.int (jz (k ((i - 1) * 21 + j))), .int (jz (k (i * 21 + (j - 1)))), .int (jz (k ((i - 1) * 21 + (j - 1)))), .int (jz (cst (g (i - 1)) (g2 (j - 1))))] [.int (jz j), .int (jz i), .ref q] (mX8_leastCost l G (k ((i - 1) * 21 + j)) (k (i * 21 + (j - 1))) (k ((i - 1) * 21 + (j - 1))) (cst (g (i - 1)) (g2 (j - 1))) (by omega) (by omega) (by omega) (by omega)) lkX1_39 [] [0, 1, 2] (br := [bText G t a n g, bText G t2 a2 n2 g2, bGrid G q b k]) rfl rfl (by decide) rfl rfl (Nat.le_of_ble_eq_true rfl) hl.1 dX1_fill_122 ⟨Nat.le_of_ble_eq_true rfl, Nat.le_of_ble_eq_true rfl⟩ ⟨Nat.le_of_ble_eq_true rfl, Nat.le_of_ble_eq_true rfl⟩ (fun u9 H locs hp9 hP hD hS => ?_)
                      have hP : wP G [bText G t a n g, bText G t2 a2 n2 g2, bGrid G q b k] H := hP
                      have hD : wD A [bText G t a n g, bText G t2 a2 n2 g2, bGrid G q b k] := hD
                      show W p l e rmX1_fill s m args below meth c H locs 0 0 Q (F0 m 125 ls [.int (jz (min (min (k ((i - 1) * 21 + j)) (k (i * 21 + (j - 1))) + 1) ((k ((i - 1) * 21 + (j - 1))) + (cst (g (i - 1)) (g2 (j - 1)))))), .int (jz j), .int (jz i), .ref q])
                      refine kV ⟨hx, hb, hml, hown, hts⟩ hK hA hS hP hD [.int (jz i), .int (jz j), .int (jz (min (min (k ((i - 1) * 21 + j)) (k (i * 21 + (j - 1))) + 1) ((k ((i - 1) * 21 + (j - 1))) + (cst (g (i - 1)) (g2 (j - 1))))))] [] (mX1_put l G q b k i j (min (min (k ((i - 1) * 21 + j)) (k (i * 21 + (j - 1))) + 1) ((k ((i - 1) * 21 + (j - 1))) + (cst (g (i - 1)) (g2 (j - 1))))) (by omega) (by omega)) lkX1_29 [2] [0, 1] (br := [bText G t a n g, bText G t2 a2 n2 g2]) rfl rfl (by decide) 0 1 rfl rfl rfl rfl (Nat.le_of_ble_eq_true rfl) hl.1 dX1_fill_125 ⟨Nat.le_of_ble_eq_true rfl, Nat.le_of_ble_eq_true rfl⟩ ⟨Nat.le_of_ble_eq_true rfl, Nat.le_of_ble_eq_true rfl⟩ (fun u9 H locs hp9 hP hD hS => ?_)
                      have hP : wP G [bText G t a n g, bText G t2 a2 n2 g2, bGrid G q b (up k (i * 21 + j) (min (min (k ((i - 1) * 21 + j)) (k (i * 21 + (j - 1))) + 1) ((k ((i - 1) * 21 + (j - 1))) + (cst (g (i - 1)) (g2 (j - 1))))))] H := hP
                      have hD : wD A [bText G t a n g, bText G t2 a2 n2 g2, bGrid G q b (up k (i * 21 + j) (min (min (k ((i - 1) * 21 + j)) (k (i * 21 + (j - 1))) + 1) ((k ((i - 1) * 21 + (j - 1))) + (cst (g (i - 1)) (g2 (j - 1))))))] := hD
                      show W p l e rmX1_fill s m args below meth c H locs 0 0 Q (F0 m 128 ls [])
                      refine jv_iinc (lv' := [(5, .int (jz (j + 1))), (6, .int (jz (cst (g (i - 1)) (g2 (j - 1))))), (0, .ref q), (1, .ref t), (2, .ref t2), (3, .int (jz sc)), (4, .int (jz i))]) (k := 6) hx hb dX1_fill_128 hl rfl (by decide) rfl (fun ls hl => ?_)
                      refine lv_goto (tgt := 53) hx hb dX1_fill_131 (by decide) ?_
                      exact ih53 (j + 1) (up k (i * 21 + j) (min (min (k ((i - 1) * 21 + j)) (k (i * 21 + (j - 1))) + 1) ((k ((i - 1) * 21 + (j - 1))) + (cst (g (i - 1)) (g2 (j - 1)))))) (by omega) (by omega) (by exact up_row (by omega) (by omega) hh2 (by rw [D_s sc g g2 (by omega) (by omega)]; rw [b5, b7, b9])) H _ _ (wP_sub (bc := [bGrid G q b (up k (i * 21 + j) (min (min (k ((i - 1) * 21 + j)) (k (i * 21 + (j - 1))) + 1) ((k ((i - 1) * 21 + (j - 1))) + (cst (g (i - 1)) (g2 (j - 1)))))), bText G t a n g, bText G t2 a2 n2 g2]) hP [2, 0, 1] rfl) (wD_sub (bc := [bGrid G q b (up k (i * 21 + j) (min (min (k ((i - 1) * 21 + j)) (k (i * 21 + (j - 1))) + 1) ((k ((i - 1) * 21 + (j - 1))) + (cst (g (i - 1)) (g2 (j - 1)))))), bText G t a n g, bText G t2 a2 n2 g2]) hD [2, 0, 1] (by decide) rfl) hS (lv_sub hl [2, 3, 4, 5, 6, 0] rfl)
                exact K53 (((n2 + 1 - 1).toNat) + 1) 1 (up k (i * 21 + 0) (i * sc)) (Nat.lt_succ_self _) (by omega) (by exact up_row (by omega) (by omega) hh (by rw [D_l sc g g2 rfl (by omega)])) H _ _ (wP_sub (bc := [bGrid G q b (up k (i * 21 + 0) (i * sc)), bText G t a n g, bText G t2 a2 n2 g2]) hP [2, 1, 0] rfl) (wD_sub (bc := [bGrid G q b (up k (i * 21 + 0) (i * sc)), bText G t a n g, bText G t2 a2 n2 g2]) hD [2, 1, 0] (by decide) rfl) hS (lv_sub hl [1, 2, 3, 4, 5, 0] rfl)
          exact K30 (((n + 1 - 1).toNat) + 1) 1 k (Nat.lt_succ_self _) (by omega) (by intro x y h1 h2 h3 h4; exact hh x y h1 h2 h3 (by omega)) H _ _ hP hD hS (lv_sub hl [1, 2, 3, 4, 0] rfl)
        · refine lv_aload_n hx hb dX1_fill_12 rfl (lv_at hl 0 rfl) ?_
          refine jv_iconst hx hb dX1_fill_13 ?_
          refine lv_iload hx hb dX1_fill_14 (lv_at hl 4 rfl) ?_
          refine lv_iload hx hb dX1_fill_16 (lv_at hl 4 rfl) ?_
          refine kV ⟨hx, hb, hml, hown, hts⟩ hK hA hS hP hD [.int (jz 0), .int (jz i), .int (jz i)] [] (mX1_put l G q b k 0 i i (by omega) (by omega)) lkX1_29 [0] [1, 2] (br := [bText G t a n g, bText G t2 a2 n2 g2]) rfl rfl (by decide) 0 1 rfl rfl rfl rfl (Nat.le_of_ble_eq_true rfl) hl.1 dX1_fill_18 ⟨Nat.le_of_ble_eq_true rfl, Nat.le_of_ble_eq_true rfl⟩ ⟨Nat.le_of_ble_eq_true rfl, Nat.le_of_ble_eq_true rfl⟩ (fun u9 H locs hp9 hP hD hS => ?_)
          have hP : wP G [bText G t a n g, bText G t2 a2 n2 g2, bGrid G q b (up k (0 * 21 + i) i)] H := hP
          have hD : wD A [bText G t a n g, bText G t2 a2 n2 g2, bGrid G q b (up k (0 * 21 + i) i)] := hD
          show W p l e rmX1_fill s m args below meth c H locs 0 0 Q (F0 m 21 ls [])
          refine jv_iinc (lv' := [(4, .int (jz (i + 1))), (0, .ref q), (1, .ref t), (2, .ref t2), (3, .int (jz sc))]) (k := 4) hx hb dX1_fill_21 hl rfl (by decide) rfl (fun ls hl => ?_)
          refine lv_goto (tgt := 3) hx hb dX1_fill_24 (by decide) ?_
          exact ih3 (i + 1) (up k (0 * 21 + i) i) (by omega) (by omega) (by exact up_row (by omega) (by omega) hh (D_0 sc g g2 rfl (by omega)).symm) H _ _ (wP_sub (bc := [bGrid G q b (up k (0 * 21 + i) i), bText G t a n g, bText G t2 a2 n2 g2]) hP [2, 0, 1] rfl) (wD_sub (bc := [bGrid G q b (up k (0 * 21 + i) i), bText G t a n g, bText G t2 a2 n2 g2]) hD [2, 0, 1] (by decide) rfl) hS (lv_sub hl [1, 2, 3, 4, 0] rfl)
    exact K3 (((n2 + 1 - 0).toNat) + 1) 0 h (Nat.lt_succ_self _) (by omega) (by intro x y h1 h2 h3 h4; omega) H _ _ hP hD hS (lv_sub hl [1, 2, 3, 4, 0] rfl)
  exact KH s.heap [] hP hD hS
abbrev rmX1_init : Room := { frames := 1, cells := 1, slots := 441, locals := 20 }
set_option maxHeartbeats 4000000 in
set_option maxRecDepth 100000 in
theorem mX1_init (l : Launch) (G : GG) (q : Nat)  : Ct l yX1_init cX1_init 1 none rmX1_init G [.ref q] [[(q, .inr (1, [.null]))]] (fun uo : Nat => none) (fun uo => True) (fun uo => [bGrid G q uo (fun _ => 0)]) := by
  refine cof (by decide) (Nat.le_of_ble_eq_true rfl) ?_
  intro p e s m args below meth c A ls hx hb hr hml hown hts hlocks hin hA hK hP hD hS hl Q hQ
  have hown : s.vm.findClass RX1 = some m.cls := hown
  have hl : lv_has ls 1 [(0, .ref q)] := hl
  have KH : ∀ (H : Heap) (locs : List Loc), wP G [[(q, .inr (1, [.null]))]] H → wD A [[(q, .inr (1, [.null]))]] → va_S A s.heap H locs → W p l e rmX1_init s m args below meth c H locs 0 0 Q (F0 m 0 ls []) := by
    intro H locs hP hD hS
    refine lv_aload_n hx hb dX1_init_0 rfl (lv_at hl 0 rfl) ?_
    refine W.objInit hx hb hown (hts _ wm102) (hts _ wm34) (hts _ wm35) rfl (by rw [hml]; exact hl.1) rfl dX1_init_1 (Nat.le_of_ble_eq_true rfl) (Nat.le_of_ble_eq_true rfl) ?_
    refine W.eq (g2 := F0 m 4 ls []) rfl ?_
    refine lv_aload_n hx hb dX1_init_4 rfl (lv_at hl 0 rfl) ?_
    refine jv_sipush hx hb dX1_init_5 (by decide) ?_
    refine jv_newi hx hb hts hK.1 hP hD hS hA 441 rfl (by decide) (Nat.le_of_ble_eq_true rfl) (Nat.le_of_ble_eq_true rfl) wm55 dX1_init_8 (fun q_1 H hP hD hS => ?_)
    have hP : wP G [[(q, .inr (1, [.null]))], [(q_1, ja G 441 ((fun _ => 0)))]] H := hP
    have hD : wD A [[(q, .inr (1, [.null]))], [(q_1, ja G 441 ((fun _ => 0)))]] := hD
    show W p l e rmX1_init s m args below meth c H locs 1 441 Q (F0 m 10 ls [.ref q_1, .ref q])
    refine va_putF (ci := 1) (v := .ref q_1) (ty := (.array .int)) (C := RX1) (T := TX1) (N := 1) hx hb hts wfX1 tyX1 tyX1_ok nmX1 hown hK.1 hP hD hS 0 rfl rfl 0 (by decide) (hts _ wm103) (fun _ h9 => h9) rfl hin rfl (by decide +kernel) rfl rfl (Nat.le_of_ble_eq_true rfl) dX1_init_10 (fun H locs hP hD hS => ?_)
    have hP : wP G [[(q, .inr (1, [.ref q_1]))], [(q_1, ja G 441 ((fun _ => 0)))]] H := hP
    have hD : wD A [[(q, .inr (1, [.ref q_1]))], [(q_1, ja G 441 ((fun _ => 0)))]] := hD
    have hP : wP G [bGrid G q q_1 (fun _ => 0)] H := hP
    have hD : wD A [bGrid G q q_1 (fun _ => 0)] := hD
    exact cret_v hx hb hr hlocks hS hP hD (Nat.le_of_ble_eq_true rfl) (Nat.le_of_ble_eq_true rfl) dX1_init_13 [0] (by decide) q_1 rfl trivial rfl hQ
  exact KH s.heap [] hP hD hS
