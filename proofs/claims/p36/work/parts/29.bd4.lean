abbrev rmX8_insert_x : Room := { frames := 7, cells := 1, slots := 6, locals := 121 }
set_option maxHeartbeats 4000000 in
set_option maxRecDepth 100000 in
theorem mX8_insert_x (l : Launch) (hl0 : l.stackTraces = false) (G : GG) (x : Nat) (st : Nat) (sv : Nat) (bu : Nat) (di : Nat) (se : Nat) (wy : Nat) (ta : Nat) (tt : Nat) (rp : Nat) (t0 : Nat) (t1 : Nat) (al : Int) (z : Int) (i : Int) (v : Int) (hz : z ≠ 0 ∧ z ≠ 1) (hz2 : jr z) : Xt l yX8_insert cX8_insert 5 (some .int) rmX8_insert_x G [.ref x, .int (jz z), .int (jz i), .int (jz v)] [bBD G x st sv bu di se wy ta tt rp, bState G st t0 t1 al] (fun uo : Unit => some (.int (jz 0))) (fun uo => (False)) (fun uo => [bBD G x st sv bu di se wy ta tt rp, bState G st t0 t1 al]) (fun E => E = "java/lang/IndexOutOfBoundsException") := by
  refine xof (by decide) (Nat.le_of_ble_eq_true rfl) ?_
  intro p e s m args below meth c A ls hx hb hr hml hown hts hlocks hin hA hK hP hD hS hl hX hout Q hQ
  have hown : s.vm.findClass RX8 = some m.cls := hown
  have hl : lv_has ls 5 [(0, .ref x), (1, .int (jz z)), (2, .int (jz i)), (3, .int (jz v))] := hl
  have KH : ∀ (H : Heap) (locs : List Loc), wP G [bBD G x st sv bu di se wy ta tt rp, bState G st t0 t1 al] H → wD A [bBD G x st sv bu di se wy ta tt rp, bState G st t0 t1 al] → va_S A s.heap H locs → W p l e rmX8_insert_x s m args below meth c H locs 0 0 Q (F0 m 0 ls []) := by
    intro H locs hP hD hS
    refine lv_aload_n hx hb dX8_insert_0 rfl (lv_at hl 0 rfl) ?_
    refine lv_iload_n hx hb dX8_insert_1 rfl (lv_at hl 1 rfl) ?_
    refine xkV ⟨hx, hb, hml, hown, hts⟩ hK hA hS hP hD [.int (jz z)] [] (mX8_textOf_x l hl0 G x st sv bu di se wy ta tt rp t0 t1 al z (by omega) (by omega)) lkX8_100 [0, 1] [] (br := []) rfl rfl (by decide) 0 8 rfl rfl rfl rfl (Nat.le_of_ble_eq_true rfl) hl.1 dX8_insert_2 ⟨Nat.le_of_ble_eq_true rfl, Nat.le_of_ble_eq_true rfl⟩ ⟨Nat.le_of_ble_eq_true rfl, Nat.le_of_ble_eq_true rfl⟩ hX (fun E ce q9 H locs hE hP hD hS hce hcv hcl => xout hout hlocks hce hcv hcl hS hP hD [0, 1] (by decide) rfl (by exact hE) (Nat.le_of_ble_eq_true rfl) (Nat.le_of_ble_eq_true rfl) hQ) (fun u9 H locs hp9 hP hD hS => ?_)
    have hc_2 : False := hp9
    have hP : wP G [bBD G x st sv bu di se wy ta tt rp, bState G st t0 t1 al] H := hP
    have hD : wD A [bBD G x st sv bu di se wy ta tt rp, bState G st t0 t1 al] := hD
    show W p l e rmX8_insert_x s m args below meth c H locs 1 6 Q (F0 m 5 ls [.ref t0])
    exact (hc_2).elim
  exact KH s.heap [] hP hD hS
abbrev rmX8_remove_x : Room := { frames := 7, cells := 1, slots := 6, locals := 121 }
set_option maxHeartbeats 4000000 in
set_option maxRecDepth 100000 in
theorem mX8_remove_x (l : Launch) (hl0 : l.stackTraces = false) (G : GG) (x : Nat) (st : Nat) (sv : Nat) (bu : Nat) (di : Nat) (se : Nat) (wy : Nat) (ta : Nat) (tt : Nat) (rp : Nat) (t0 : Nat) (t1 : Nat) (al : Int) (z : Int) (i : Int) (hz : z ≠ 0 ∧ z ≠ 1) (hz2 : jr z) : Xt l yX8_remove cX8_remove 5 (some .int) rmX8_remove_x G [.ref x, .int (jz z), .int (jz i)] [bBD G x st sv bu di se wy ta tt rp, bState G st t0 t1 al] (fun uo : Unit => some (.int (jz 0))) (fun uo => (False)) (fun uo => [bBD G x st sv bu di se wy ta tt rp, bState G st t0 t1 al]) (fun E => E = "java/lang/IndexOutOfBoundsException") := by
  refine xof (by decide) (Nat.le_of_ble_eq_true rfl) ?_
  intro p e s m args below meth c A ls hx hb hr hml hown hts hlocks hin hA hK hP hD hS hl hX hout Q hQ
  have hown : s.vm.findClass RX8 = some m.cls := hown
  have hl : lv_has ls 5 [(0, .ref x), (1, .int (jz z)), (2, .int (jz i))] := hl
  have KH : ∀ (H : Heap) (locs : List Loc), wP G [bBD G x st sv bu di se wy ta tt rp, bState G st t0 t1 al] H → wD A [bBD G x st sv bu di se wy ta tt rp, bState G st t0 t1 al] → va_S A s.heap H locs → W p l e rmX8_remove_x s m args below meth c H locs 0 0 Q (F0 m 0 ls []) := by
    intro H locs hP hD hS
    refine lv_aload_n hx hb dX8_remove_0 rfl (lv_at hl 0 rfl) ?_
    refine lv_iload_n hx hb dX8_remove_1 rfl (lv_at hl 1 rfl) ?_
    refine xkV ⟨hx, hb, hml, hown, hts⟩ hK hA hS hP hD [.int (jz z)] [] (mX8_textOf_x l hl0 G x st sv bu di se wy ta tt rp t0 t1 al z (by omega) (by omega)) lkX8_100 [0, 1] [] (br := []) rfl rfl (by decide) 0 8 rfl rfl rfl rfl (Nat.le_of_ble_eq_true rfl) hl.1 dX8_remove_2 ⟨Nat.le_of_ble_eq_true rfl, Nat.le_of_ble_eq_true rfl⟩ ⟨Nat.le_of_ble_eq_true rfl, Nat.le_of_ble_eq_true rfl⟩ hX (fun E ce q9 H locs hE hP hD hS hce hcv hcl => xout hout hlocks hce hcv hcl hS hP hD [0, 1] (by decide) rfl (by exact hE) (Nat.le_of_ble_eq_true rfl) (Nat.le_of_ble_eq_true rfl) hQ) (fun u9 H locs hp9 hP hD hS => ?_)
    have hc_2 : False := hp9
    have hP : wP G [bBD G x st sv bu di se wy ta tt rp, bState G st t0 t1 al] H := hP
    have hD : wD A [bBD G x st sv bu di se wy ta tt rp, bState G st t0 t1 al] := hD
    show W p l e rmX8_remove_x s m args below meth c H locs 1 6 Q (F0 m 5 ls [.ref t0])
    exact (hc_2).elim
  exact KH s.heap [] hP hD hS
abbrev rmX8_replace_x : Room := { frames := 7, cells := 1, slots := 6, locals := 121 }
set_option maxHeartbeats 4000000 in
set_option maxRecDepth 100000 in
theorem mX8_replace_x (l : Launch) (hl0 : l.stackTraces = false) (G : GG) (x : Nat) (st : Nat) (sv : Nat) (bu : Nat) (di : Nat) (se : Nat) (wy : Nat) (ta : Nat) (tt : Nat) (rp : Nat) (t0 : Nat) (t1 : Nat) (al : Int) (z : Int) (i : Int) (v : Int) (hz : z ≠ 0 ∧ z ≠ 1) (hz2 : jr z) : Xt l yX8_replace cX8_replace 6 (some .int) rmX8_replace_x G [.ref x, .int (jz z), .int (jz i), .int (jz v)] [bBD G x st sv bu di se wy ta tt rp, bState G st t0 t1 al] (fun uo : Unit => some (.int (jz 0))) (fun uo => (False)) (fun uo => [bBD G x st sv bu di se wy ta tt rp, bState G st t0 t1 al]) (fun E => E = "java/lang/IndexOutOfBoundsException") := by
  refine xof (by decide) (Nat.le_of_ble_eq_true rfl) ?_
  intro p e s m args below meth c A ls hx hb hr hml hown hts hlocks hin hA hK hP hD hS hl hX hout Q hQ
  have hown : s.vm.findClass RX8 = some m.cls := hown
  have hl : lv_has ls 6 [(0, .ref x), (1, .int (jz z)), (2, .int (jz i)), (3, .int (jz v))] := hl
  have KH : ∀ (H : Heap) (locs : List Loc), wP G [bBD G x st sv bu di se wy ta tt rp, bState G st t0 t1 al] H → wD A [bBD G x st sv bu di se wy ta tt rp, bState G st t0 t1 al] → va_S A s.heap H locs → W p l e rmX8_replace_x s m args below meth c H locs 0 0 Q (F0 m 0 ls []) := by
    intro H locs hP hD hS
    refine lv_aload_n hx hb dX8_replace_0 rfl (lv_at hl 0 rfl) ?_
    refine lv_iload_n hx hb dX8_replace_1 rfl (lv_at hl 1 rfl) ?_
    refine xkV ⟨hx, hb, hml, hown, hts⟩ hK hA hS hP hD [.int (jz z)] [] (mX8_textOf_x l hl0 G x st sv bu di se wy ta tt rp t0 t1 al z (by omega) (by omega)) lkX8_100 [0, 1] [] (br := []) rfl rfl (by decide) 0 8 rfl rfl rfl rfl (Nat.le_of_ble_eq_true rfl) hl.1 dX8_replace_2 ⟨Nat.le_of_ble_eq_true rfl, Nat.le_of_ble_eq_true rfl⟩ ⟨Nat.le_of_ble_eq_true rfl, Nat.le_of_ble_eq_true rfl⟩ hX (fun E ce q9 H locs hE hP hD hS hce hcv hcl => xout hout hlocks hce hcv hcl hS hP hD [0, 1] (by decide) rfl (by exact hE) (Nat.le_of_ble_eq_true rfl) (Nat.le_of_ble_eq_true rfl) hQ) (fun u9 H locs hp9 hP hD hS => ?_)
    have hc_2 : False := hp9
    have hP : wP G [bBD G x st sv bu di se wy ta tt rp, bState G st t0 t1 al] H := hP
    have hD : wD A [bBD G x st sv bu di se wy ta tt rp, bState G st t0 t1 al] := hD
    show W p l e rmX8_replace_x s m args below meth c H locs 1 6 Q (F0 m 5 ls [.ref t0])
    exact (hc_2).elim
  exact KH s.heap [] hP hD hS
abbrev rmX8_length_x : Room := { frames := 7, cells := 1, slots := 6, locals := 121 }
set_option maxHeartbeats 4000000 in
set_option maxRecDepth 100000 in
theorem mX8_length_x (l : Launch) (hl0 : l.stackTraces = false) (G : GG) (x : Nat) (st : Nat) (sv : Nat) (bu : Nat) (di : Nat) (se : Nat) (wy : Nat) (ta : Nat) (tt : Nat) (rp : Nat) (t0 : Nat) (t1 : Nat) (al : Int) (z : Int) (hz : z ≠ 0 ∧ z ≠ 1) (hz2 : jr z) : Xt l yX8_length cX8_length 2 (some .int) rmX8_length_x G [.ref x, .int (jz z)] [bBD G x st sv bu di se wy ta tt rp, bState G st t0 t1 al] (fun uo : Unit => some (.int (jz 0))) (fun uo => (False)) (fun uo => [bBD G x st sv bu di se wy ta tt rp, bState G st t0 t1 al]) (fun E => E = "java/lang/IndexOutOfBoundsException") := by
  refine xof (by decide) (Nat.le_of_ble_eq_true rfl) ?_
  intro p e s m args below meth c A ls hx hb hr hml hown hts hlocks hin hA hK hP hD hS hl hX hout Q hQ
  have hown : s.vm.findClass RX8 = some m.cls := hown
  have hl : lv_has ls 2 [(0, .ref x), (1, .int (jz z))] := hl
  have KH : ∀ (H : Heap) (locs : List Loc), wP G [bBD G x st sv bu di se wy ta tt rp, bState G st t0 t1 al] H → wD A [bBD G x st sv bu di se wy ta tt rp, bState G st t0 t1 al] → va_S A s.heap H locs → W p l e rmX8_length_x s m args below meth c H locs 0 0 Q (F0 m 0 ls []) := by
    intro H locs hP hD hS
    refine lv_aload_n hx hb dX8_length_0 rfl (lv_at hl 0 rfl) ?_
    refine lv_iload_n hx hb dX8_length_1 rfl (lv_at hl 1 rfl) ?_
    refine xkV ⟨hx, hb, hml, hown, hts⟩ hK hA hS hP hD [.int (jz z)] [] (mX8_textOf_x l hl0 G x st sv bu di se wy ta tt rp t0 t1 al z (by omega) (by omega)) lkX8_100 [0, 1] [] (br := []) rfl rfl (by decide) 0 8 rfl rfl rfl rfl (Nat.le_of_ble_eq_true rfl) hl.1 dX8_length_2 ⟨Nat.le_of_ble_eq_true rfl, Nat.le_of_ble_eq_true rfl⟩ ⟨Nat.le_of_ble_eq_true rfl, Nat.le_of_ble_eq_true rfl⟩ hX (fun E ce q9 H locs hE hP hD hS hce hcv hcl => xout hout hlocks hce hcv hcl hS hP hD [0, 1] (by decide) rfl (by exact hE) (Nat.le_of_ble_eq_true rfl) (Nat.le_of_ble_eq_true rfl) hQ) (fun u9 H locs hp9 hP hD hS => ?_)
    have hc_2 : False := hp9
    have hP : wP G [bBD G x st sv bu di se wy ta tt rp, bState G st t0 t1 al] H := hP
    have hD : wD A [bBD G x st sv bu di se wy ta tt rp, bState G st t0 t1 al] := hD
    show W p l e rmX8_length_x s m args below meth c H locs 1 6 Q (F0 m 5 ls [.ref t0])
    exact (hc_2).elim
  exact KH s.heap [] hP hD hS
abbrev rmX8_letter_x : Room := { frames := 7, cells := 1, slots := 6, locals := 121 }
set_option maxHeartbeats 4000000 in
set_option maxRecDepth 100000 in
theorem mX8_letter_x (l : Launch) (hl0 : l.stackTraces = false) (G : GG) (x : Nat) (st : Nat) (sv : Nat) (bu : Nat) (di : Nat) (se : Nat) (wy : Nat) (ta : Nat) (tt : Nat) (rp : Nat) (t0 : Nat) (t1 : Nat) (al : Int) (z : Int) (i : Int) (hz : z ≠ 0 ∧ z ≠ 1) (hz2 : jr z) : Xt l yX8_letter cX8_letter 4 (some .int) rmX8_letter_x G [.ref x, .int (jz z), .int (jz i)] [bBD G x st sv bu di se wy ta tt rp, bState G st t0 t1 al] (fun uo : Unit => some (.int (jz 0))) (fun uo => (False)) (fun uo => [bBD G x st sv bu di se wy ta tt rp, bState G st t0 t1 al]) (fun E => E = "java/lang/IndexOutOfBoundsException") := by
  refine xof (by decide) (Nat.le_of_ble_eq_true rfl) ?_
  intro p e s m args below meth c A ls hx hb hr hml hown hts hlocks hin hA hK hP hD hS hl hX hout Q hQ
  have hown : s.vm.findClass RX8 = some m.cls := hown
  have hl : lv_has ls 4 [(0, .ref x), (1, .int (jz z)), (2, .int (jz i))] := hl
  have KH : ∀ (H : Heap) (locs : List Loc), wP G [bBD G x st sv bu di se wy ta tt rp, bState G st t0 t1 al] H → wD A [bBD G x st sv bu di se wy ta tt rp, bState G st t0 t1 al] → va_S A s.heap H locs → W p l e rmX8_letter_x s m args below meth c H locs 0 0 Q (F0 m 0 ls []) := by
    intro H locs hP hD hS
    refine lv_aload_n hx hb dX8_letter_0 rfl (lv_at hl 0 rfl) ?_
    refine lv_iload_n hx hb dX8_letter_1 rfl (lv_at hl 1 rfl) ?_
    refine xkV ⟨hx, hb, hml, hown, hts⟩ hK hA hS hP hD [.int (jz z)] [] (mX8_textOf_x l hl0 G x st sv bu di se wy ta tt rp t0 t1 al z (by omega) (by omega)) lkX8_100 [0, 1] [] (br := []) rfl rfl (by decide) 0 8 rfl rfl rfl rfl (Nat.le_of_ble_eq_true rfl) hl.1 dX8_letter_2 ⟨Nat.le_of_ble_eq_true rfl, Nat.le_of_ble_eq_true rfl⟩ ⟨Nat.le_of_ble_eq_true rfl, Nat.le_of_ble_eq_true rfl⟩ hX (fun E ce q9 H locs hE hP hD hS hce hcv hcl => xout hout hlocks hce hcv hcl hS hP hD [0, 1] (by decide) rfl (by exact hE) (Nat.le_of_ble_eq_true rfl) (Nat.le_of_ble_eq_true rfl) hQ) (fun u9 H locs hp9 hP hD hS => ?_)
    have hc_2 : False := hp9
    have hP : wP G [bBD G x st sv bu di se wy ta tt rp, bState G st t0 t1 al] H := hP
    have hD : wD A [bBD G x st sv bu di se wy ta tt rp, bState G st t0 t1 al] := hD
    show W p l e rmX8_letter_x s m args below meth c H locs 1 6 Q (F0 m 5 ls [.ref t0])
    exact (hc_2).elim
  exact KH s.heap [] hP hD hS
abbrev rmX8_ifReplaced_x : Room := { frames := 7, cells := 1, slots := 6, locals := 121 }
set_option maxHeartbeats 4000000 in
set_option maxRecDepth 100000 in
theorem mX8_ifReplaced_x (l : Launch) (hl0 : l.stackTraces = false) (G : GG) (x : Nat) (st : Nat) (sv : Nat) (bu : Nat) (di : Nat) (se : Nat) (wy : Nat) (ta : Nat) (tt : Nat) (rp : Nat) (t0 : Nat) (t1 : Nat) (al : Int) (z : Int) (i : Int) (v : Int) (hz : z ≠ 0 ∧ z ≠ 1) (hz2 : jr z) : Xt l yX8_ifReplaced cX8_ifReplaced 6 (some .int) rmX8_ifReplaced_x G [.ref x, .int (jz z), .int (jz i), .int (jz v)] [bBD G x st sv bu di se wy ta tt rp, bState G st t0 t1 al] (fun uo : Unit => some (.int (jz 0))) (fun uo => (False)) (fun uo => [bBD G x st sv bu di se wy ta tt rp, bState G st t0 t1 al]) (fun E => E = "java/lang/IndexOutOfBoundsException") := by
  refine xof (by decide) (Nat.le_of_ble_eq_true rfl) ?_
  intro p e s m args below meth c A ls hx hb hr hml hown hts hlocks hin hA hK hP hD hS hl hX hout Q hQ
  have hown : s.vm.findClass RX8 = some m.cls := hown
  have hl : lv_has ls 6 [(0, .ref x), (1, .int (jz z)), (2, .int (jz i)), (3, .int (jz v))] := hl
  have KH : ∀ (H : Heap) (locs : List Loc), wP G [bBD G x st sv bu di se wy ta tt rp, bState G st t0 t1 al] H → wD A [bBD G x st sv bu di se wy ta tt rp, bState G st t0 t1 al] → va_S A s.heap H locs → W p l e rmX8_ifReplaced_x s m args below meth c H locs 0 0 Q (F0 m 0 ls []) := by
    intro H locs hP hD hS
    refine lv_aload_n hx hb dX8_ifReplaced_0 rfl (lv_at hl 0 rfl) ?_
    refine lv_iload_n hx hb dX8_ifReplaced_1 rfl (lv_at hl 1 rfl) ?_
    refine xkV ⟨hx, hb, hml, hown, hts⟩ hK hA hS hP hD [.int (jz z)] [] (mX8_textOf_x l hl0 G x st sv bu di se wy ta tt rp t0 t1 al z (by omega) (by omega)) lkX8_100 [0, 1] [] (br := []) rfl rfl (by decide) 0 8 rfl rfl rfl rfl (Nat.le_of_ble_eq_true rfl) hl.1 dX8_ifReplaced_2 ⟨Nat.le_of_ble_eq_true rfl, Nat.le_of_ble_eq_true rfl⟩ ⟨Nat.le_of_ble_eq_true rfl, Nat.le_of_ble_eq_true rfl⟩ hX (fun E ce q9 H locs hE hP hD hS hce hcv hcl => xout hout hlocks hce hcv hcl hS hP hD [0, 1] (by decide) rfl (by exact hE) (Nat.le_of_ble_eq_true rfl) (Nat.le_of_ble_eq_true rfl) hQ) (fun u9 H locs hp9 hP hD hS => ?_)
    have hc_2 : False := hp9
    have hP : wP G [bBD G x st sv bu di se wy ta tt rp, bState G st t0 t1 al] H := hP
    have hD : wD A [bBD G x st sv bu di se wy ta tt rp, bState G st t0 t1 al] := hD
    show W p l e rmX8_ifReplaced_x s m args below meth c H locs 1 6 Q (F0 m 5 ls [.ref t0])
    exact (hc_2).elim
  exact KH s.heap [] hP hD hS
abbrev rmX8_bestReplacement_x : Room := { frames := 7, cells := 1, slots := 6, locals := 121 }
set_option maxHeartbeats 4000000 in
set_option maxRecDepth 100000 in
theorem mX8_bestReplacement_x (l : Launch) (hl0 : l.stackTraces = false) (G : GG) (x : Nat) (st : Nat) (sv : Nat) (bu : Nat) (di : Nat) (se : Nat) (wy : Nat) (ta : Nat) (tt : Nat) (rp : Nat) (t0 : Nat) (t1 : Nat) (al : Int) (z : Int) (hz : z ≠ 0 ∧ z ≠ 1) (hz2 : jr z) : Xt l yX8_bestReplacement cX8_bestReplacement 9 (some .int) rmX8_bestReplacement_x G [.ref x, .int (jz z)] [bBD G x st sv bu di se wy ta tt rp, bState G st t0 t1 al] (fun uo : Unit => some (.int (jz 0))) (fun uo => (False)) (fun uo => [bBD G x st sv bu di se wy ta tt rp, bState G st t0 t1 al]) (fun E => E = "java/lang/IndexOutOfBoundsException") := by
  refine xof (by decide) (Nat.le_of_ble_eq_true rfl) ?_
  intro p e s m args below meth c A ls hx hb hr hml hown hts hlocks hin hA hK hP hD hS hl hX hout Q hQ
  have hown : s.vm.findClass RX8 = some m.cls := hown
  have hl : lv_has ls 9 [(0, .ref x), (1, .int (jz z))] := hl
  have KH : ∀ (H : Heap) (locs : List Loc), wP G [bBD G x st sv bu di se wy ta tt rp, bState G st t0 t1 al] H → wD A [bBD G x st sv bu di se wy ta tt rp, bState G st t0 t1 al] → va_S A s.heap H locs → W p l e rmX8_bestReplacement_x s m args below meth c H locs 0 0 Q (F0 m 0 ls []) := by
    intro H locs hP hD hS
    refine lv_aload_n hx hb dX8_bestReplacement_0 rfl (lv_at hl 0 rfl) ?_
    refine lv_iload_n hx hb dX8_bestReplacement_1 rfl (lv_at hl 1 rfl) ?_
    refine xkV ⟨hx, hb, hml, hown, hts⟩ hK hA hS hP hD [.int (jz z)] [] (mX8_textOf_x l hl0 G x st sv bu di se wy ta tt rp t0 t1 al z (by omega) (by omega)) lkX8_100 [0, 1] [] (br := []) rfl rfl (by decide) 0 8 rfl rfl rfl rfl (Nat.le_of_ble_eq_true rfl) hl.1 dX8_bestReplacement_2 ⟨Nat.le_of_ble_eq_true rfl, Nat.le_of_ble_eq_true rfl⟩ ⟨Nat.le_of_ble_eq_true rfl, Nat.le_of_ble_eq_true rfl⟩ hX (fun E ce q9 H locs hE hP hD hS hce hcv hcl => xout hout hlocks hce hcv hcl hS hP hD [0, 1] (by decide) rfl (by exact hE) (Nat.le_of_ble_eq_true rfl) (Nat.le_of_ble_eq_true rfl) hQ) (fun u9 H locs hp9 hP hD hS => ?_)
    have hc_2 : False := hp9
    have hP : wP G [bBD G x st sv bu di se wy ta tt rp, bState G st t0 t1 al] H := hP
    have hD : wD A [bBD G x st sv bu di se wy ta tt rp, bState G st t0 t1 al] := hD
    show W p l e rmX8_bestReplacement_x s m args below meth c H locs 1 6 Q (F0 m 5 ls [.ref t0])
    exact (hc_2).elim
  exact KH s.heap [] hP hD hS
abbrev rmX8_similarity : Room := { frames := 5, cells := 0, slots := 0, locals := 110 }
set_option maxHeartbeats 4000000 in
set_option maxRecDepth 100000 in
theorem mX8_similarity (l : Launch) (G : GG) (x : Nat) (st : Nat) (sv : Nat) (bu : Nat) (di : Nat) (se : Nat) (wy : Nat) (ta : Nat) (tt : Nat) (rp : Nat) (t0 : Nat) (t1 : Nat) (al : Int) (a0 : Nat) (n0 : Int) (g0 : Int → Int) (a1 : Nat) (n1 : Int) (g1 : Int → Int) (db : Nat) (dh : Int → Int) (hn0 : 0 ≤ n0 ∧ n0 ≤ 20) (hn1 : 0 ≤ n1 ∧ n1 ≤ 20) (hg0 : ∀ j : Int, 0 ≤ j → j < n0 → 0 ≤ g0 j ∧ g0 j < 4) (hg1 : ∀ j : Int, 0 ≤ j → j < n1 → 0 ≤ g1 j ∧ g1 j < 4) : Ct l yX8_similarity cX8_similarity 2 (some .double) rmX8_similarity G [.ref x] [bBD G x st sv bu di se wy ta tt rp, bState G st t0 t1 al, bText G t0 a0 n0 g0, bText G t1 a1 n1 g1, bGrid G di db dh] (fun uo : (Int → Int) => some (.double (sim (D 1 g0 g1 n0 n1) (max n0 n1)))) (fun uo => True) (fun uo => [bBD G x st sv bu di se wy ta tt rp, bState G st t0 t1 al, bText G t0 a0 n0 g0, bText G t1 a1 n1 g1, bGrid G di db uo]) := by
  refine cof (by decide) (Nat.le_of_ble_eq_true rfl) ?_
  intro p e s m args below meth c A ls hx hb hr hml hown hts hlocks hin hA hK hP hD hS hl Q hQ
  have hown : s.vm.findClass RX8 = some m.cls := hown
  have hl : lv_has ls 2 [(0, .ref x)] := hl
  have KH : ∀ (H : Heap) (locs : List Loc), wP G [bBD G x st sv bu di se wy ta tt rp, bState G st t0 t1 al, bText G t0 a0 n0 g0, bText G t1 a1 n1 g1, bGrid G di db dh] H → wD A [bBD G x st sv bu di se wy ta tt rp, bState G st t0 t1 al, bText G t0 a0 n0 g0, bText G t1 a1 n1 g1, bGrid G di db dh] → va_S A s.heap H locs → W p l e rmX8_similarity s m args below meth c H locs 0 0 Q (F0 m 0 ls []) := by
    intro H locs hP hD hS
    have hdb := D_bd (c := 1) (Or.inr rfl) g0 g1 (i := n0) (j := n1) (by omega) (by omega)
    refine lv_aload_n hx hb dX8_similarity_0 rfl (lv_at hl 0 rfl) ?_
    refine va_get (ci := 8) (v := .ref st) (C := RX8) (T := TX8) (N := 9) hx hb hts wfX8 hown hK.1 hP 0 rfl rfl 0 (by decide) (hts _ wm166) (fun _ h9 => h9) rfl dX8_similarity_1 ?_
    refine jv_iconst hx hb dX8_similarity_4 ?_
    refine kV ⟨hx, hb, hml, hown, hts⟩ hK hA hS hP hD [.int (jz 0)] [] (mX5_text_0 l G st t0 t1 al 0 (by omega) (by omega)) lkX8_87 [1] [0, 2, 3, 4] (br := [bBD G x st sv bu di se wy ta tt rp, bText G t0 a0 n0 g0, bText G t1 a1 n1 g1, bGrid G di db dh]) rfl rfl (by decide) 0 5 rfl rfl rfl rfl (Nat.le_of_ble_eq_true rfl) hl.1 dX8_similarity_5 ⟨Nat.le_of_ble_eq_true rfl, Nat.le_of_ble_eq_true rfl⟩ ⟨Nat.le_of_ble_eq_true rfl, Nat.le_of_ble_eq_true rfl⟩ (fun u9 H locs hp9 hP hD hS => ?_)
    have hP : wP G [bBD G x st sv bu di se wy ta tt rp, bText G t0 a0 n0 g0, bText G t1 a1 n1 g1, bGrid G di db dh, bState G st t0 t1 al] H := hP
    have hD : wD A [bBD G x st sv bu di se wy ta tt rp, bText G t0 a0 n0 g0, bText G t1 a1 n1 g1, bGrid G di db dh, bState G st t0 t1 al] := hD
    show W p l e rmX8_similarity s m args below meth c H locs 0 0 Q (F0 m 8 ls [.ref t0])
    refine kV ⟨hx, hb, hml, hown, hts⟩ hK hA hS hP hD [] [] (mX6_size l G t0 a0 n0 g0 ) lkX8_95 [1] [0, 2, 3, 4] (br := [bBD G x st sv bu di se wy ta tt rp, bText G t1 a1 n1 g1, bGrid G di db dh, bState G st t0 t1 al]) rfl rfl (by decide) 0 6 rfl rfl rfl rfl (Nat.le_of_ble_eq_true rfl) hl.1 dX8_similarity_8 ⟨Nat.le_of_ble_eq_true rfl, Nat.le_of_ble_eq_true rfl⟩ ⟨Nat.le_of_ble_eq_true rfl, Nat.le_of_ble_eq_true rfl⟩ (fun u9 H locs hp9 hP hD hS => ?_)
    have hP : wP G [bBD G x st sv bu di se wy ta tt rp, bText G t1 a1 n1 g1, bGrid G di db dh, bState G st t0 t1 al, bText G t0 a0 n0 g0] H := hP
    have hD : wD A [bBD G x st sv bu di se wy ta tt rp, bText G t1 a1 n1 g1, bGrid G di db dh, bState G st t0 t1 al, bText G t0 a0 n0 g0] := hD
    show W p l e rmX8_similarity s m args below meth c H locs 0 0 Q (F0 m 11 ls [.int (jz n0)])
    refine lv_aload_n hx hb dX8_similarity_11 rfl (lv_at hl 0 rfl) ?_
    refine va_get (ci := 8) (v := .ref st) (C := RX8) (T := TX8) (N := 9) hx hb hts wfX8 hown hK.1 hP 0 rfl rfl 0 (by decide) (hts _ wm166) (fun _ h9 => h9) rfl dX8_similarity_12 ?_
    refine jv_iconst hx hb dX8_similarity_15 ?_
    refine kV ⟨hx, hb, hml, hown, hts⟩ hK hA hS hP hD [.int (jz 1)] [.int (jz n0)] (mX5_text_1 l G st t0 t1 al 1 (by omega) (by omega)) lkX8_87 [3] [0, 1, 2, 4] (br := [bBD G x st sv bu di se wy ta tt rp, bText G t1 a1 n1 g1, bGrid G di db dh, bText G t0 a0 n0 g0]) rfl rfl (by decide) 0 5 rfl rfl rfl rfl (Nat.le_of_ble_eq_true rfl) hl.1 dX8_similarity_16 ⟨Nat.le_of_ble_eq_true rfl, Nat.le_of_ble_eq_true rfl⟩ ⟨Nat.le_of_ble_eq_true rfl, Nat.le_of_ble_eq_true rfl⟩ (fun u9 H locs hp9 hP hD hS => ?_)
    have hP : wP G [bBD G x st sv bu di se wy ta tt rp, bText G t1 a1 n1 g1, bGrid G di db dh, bText G t0 a0 n0 g0, bState G st t0 t1 al] H := hP
    have hD : wD A [bBD G x st sv bu di se wy ta tt rp, bText G t1 a1 n1 g1, bGrid G di db dh, bText G t0 a0 n0 g0, bState G st t0 t1 al] := hD
    show W p l e rmX8_similarity s m args below meth c H locs 0 0 Q (F0 m 19 ls [.ref t1, .int (jz n0)])
    refine kV ⟨hx, hb, hml, hown, hts⟩ hK hA hS hP hD [] [.int (jz n0)] (mX6_size l G t1 a1 n1 g1 ) lkX8_95 [1] [0, 2, 3, 4] (br := [bBD G x st sv bu di se wy ta tt rp, bGrid G di db dh, bText G t0 a0 n0 g0, bState G st t0 t1 al]) rfl rfl (by decide) 0 6 rfl rfl rfl rfl (Nat.le_of_ble_eq_true rfl) hl.1 dX8_similarity_19 ⟨Nat.le_of_ble_eq_true rfl, Nat.le_of_ble_eq_true rfl⟩ ⟨Nat.le_of_ble_eq_true rfl, Nat.le_of_ble_eq_true rfl⟩ (fun u9 H locs hp9 hP hD hS => ?_)
    have hP : wP G [bBD G x st sv bu di se wy ta tt rp, bGrid G di db dh, bText G t0 a0 n0 g0, bState G st t0 t1 al, bText G t1 a1 n1 g1] H := hP
    have hD : wD A [bBD G x st sv bu di se wy ta tt rp, bGrid G di db dh, bText G t0 a0 n0 g0, bState G st t0 t1 al, bText G t1 a1 n1 g1] := hD
    show W p l e rmX8_similarity s m args below meth c H locs 0 0 Q (F0 m 22 ls [.int (jz n1), .int (jz n0)])
    refine jv_max hx hb (hml.trans hl.1.symm) hown (hts _ wm577) (hts _ wm474) (hts _ wm26) (hts _ wm475) (Nat.le_of_ble_eq_true rfl) (Nat.le_of_ble_eq_true rfl) (Nat.le_of_ble_eq_true rfl) (Nat.le_of_ble_eq_true rfl) (by omega) (by omega) dX8_similarity_22 ?_
    refine lv_istore_n (lv' := [(1, .int (jz (max n0 n1))), (0, .ref x)]) hx hb dX8_similarity_25 rfl hl (by decide) rfl (fun ls hl => ?_)
    refine lv_iload_n hx hb dX8_similarity_26 rfl (lv_at hl 0 rfl) ?_
    refine jv_if_ne (tgt := 32) hx hb dX8_similarity_27 (by decide) (by omega) (fun c_5 => ?_) (fun c_5 => ?_)
    · refine lv_dconst1 hx hb dX8_similarity_32 ?_
      refine lv_aload_n hx hb dX8_similarity_33 rfl (lv_at hl 1 rfl) ?_
      refine kV ⟨hx, hb, hml, hown, hts⟩ hK hA hS hP hD [] [.double FP.dconst1] (mX8_distance l G x st sv bu di se wy ta tt rp t0 t1 al a0 n0 g0 a1 n1 g1 db dh (by omega) (by omega) (by exact hg0) (by exact hg1)) lkX8_173 [0, 3, 2, 4, 1] [] (br := []) rfl rfl (by decide) 0 8 rfl rfl rfl rfl (Nat.le_of_ble_eq_true rfl) hl.1 dX8_similarity_34 ⟨Nat.le_of_ble_eq_true rfl, Nat.le_of_ble_eq_true rfl⟩ ⟨Nat.le_of_ble_eq_true rfl, Nat.le_of_ble_eq_true rfl⟩ (fun u9 H locs hp9 hP hD hS => ?_)
      obtain ⟨u_6, rfl⟩ : ∃ z, z = u9 := ⟨_, rfl⟩
      have hP : wP G [bBD G x st sv bu di se wy ta tt rp, bState G st t0 t1 al, bText G t0 a0 n0 g0, bText G t1 a1 n1 g1, bGrid G di db u_6] H := hP
      have hD : wD A [bBD G x st sv bu di se wy ta tt rp, bState G st t0 t1 al, bText G t0 a0 n0 g0, bText G t1 a1 n1 g1, bGrid G di db u_6] := hD
      show W p l e rmX8_similarity s m args below meth c H locs 0 0 Q (F0 m 37 ls [.int (jz (D 1 g0 g1 n0 n1)), .double FP.dconst1])
      refine lv_i2d hx hb dX8_similarity_37 ?_
      refine lv_iload_n hx hb dX8_similarity_38 rfl (lv_at hl 0 rfl) ?_
      refine lv_i2d hx hb dX8_similarity_39 ?_
      refine lv_ddiv hx hb dX8_similarity_40 (by exact (dbl_ok (by omega) (by omega) (by omega) (by omega)).1) ?_
      refine lv_dsub hx hb dX8_similarity_41 (by exact (dbl_ok (by omega) (by omega) (by omega) (by omega)).2) ?_
      exact cret_d hx hb hr hlocks hS hP hD (Nat.le_of_ble_eq_true rfl) (Nat.le_of_ble_eq_true rfl) dX8_similarity_42 [0, 1, 2, 3, 4] (by decide) u_6 rfl trivial (congrArg (fun z : UInt64 => some (Value.double z)) (show (FP.dsub FP.dconst1 (FP.ddiv (FP.i2d (jz (D 1 g0 g1 n0 n1))) (FP.i2d (jz (max n0 n1))))) = sim (D 1 g0 g1 n0 n1) (max n0 n1) from by unfold sim; rw [if_neg (by omega)])) hQ
    · refine lv_dconst1 hx hb dX8_similarity_30 ?_
      exact cret_d hx hb hr hlocks hS hP hD (Nat.le_of_ble_eq_true rfl) (Nat.le_of_ble_eq_true rfl) dX8_similarity_31 [0, 3, 2, 4, 1] (by decide) dh rfl trivial (congrArg (fun z : UInt64 => some (Value.double z)) (show FP.dconst1 = sim (D 1 g0 g1 n0 n1) (max n0 n1) from by unfold sim; rw [if_pos (by omega)])) hQ
  exact KH s.heap [] hP hD hS
abbrev rmX8_ifReplaced_0 : Room := { frames := 7, cells := 2, slots := 12, locals := 121 }
set_option maxHeartbeats 4000000 in
set_option maxRecDepth 100000 in
theorem mX8_ifReplaced_0 (l : Launch) (hl0 : l.stackTraces = false) (G : GG) (x : Nat) (st : Nat) (sv : Nat) (bu : Nat) (di : Nat) (se : Nat) (wy : Nat) (ta : Nat) (tt : Nat) (rp : Nat) (t0 : Nat) (t1 : Nat) (al : Int) (a0 : Nat) (n0 : Int) (g0 : Int → Int) (a1 : Nat) (n1 : Int) (g1 : Int → Int) (q : Nat) (q2 : Nat) (ct : Nat) (ot : Nat) (b : Nat) (h : Int → Int) (b2 : Nat) (h2 : Int → Int) (ca : Nat) (cn : Int) (cg : Int → Int) (oa : Nat) (on : Int) (og : Int → Int) (z : Int) (i : Int) (v : Int) (hn0 : 0 ≤ n0 ∧ n0 ≤ 20) (hn1 : 0 ≤ n1 ∧ n1 ≤ 20) (hg0 : ∀ j : Int, 0 ≤ j → j < n0 → 0 ≤ g0 j ∧ g0 j < 4) (hg1 : ∀ j : Int, 0 ≤ j → j < n1 → 0 ≤ g1 j ∧ g1 j < 4) (hal : 2 ≤ al ∧ al ≤ 4) (hz : z = 0) (hi : jr i) (hv : jr v) : Xt l yX8_ifReplaced cX8_ifReplaced 6 (some .int) rmX8_ifReplaced_0 G [.ref x, .int (jz z), .int (jz i), .int (jz v)] [bBD G x st sv bu di se wy ta tt rp, bState G st t0 t1 al, bText G t0 a0 n0 g0, bText G t1 a1 n1 g1, bRep G rp q q2 ct ot, bGrid G q b h, bGrid G q2 b2 h2, bText G ct ca cn cg, bText G ot oa on og] (fun uo : (Int → Int) × (Int → Int) × (Int → Int) × (Int → Int) => some (.int (jz (D 1 (up g0 i v) g1 n0 n1)))) (fun uo => ((0 ≤ i ∧ i < n0) ∧ (0 ≤ v ∧ v < al))) (fun uo => [bBD G x st sv bu di se wy ta tt rp, bState G st t0 t1 al, bText G t0 a0 n0 g0, bText G t1 a1 n1 g1, bRep G rp q q2 ct ot, bGrid G q b uo.1, bGrid G q2 b2 uo.2.1, bText G ct ca n0 uo.2.2.1, bText G ot oa n1 uo.2.2.2]) (fun E => (E = "java/lang/IndexOutOfBoundsException" ∧ ¬ (0 ≤ i ∧ i < n0)) ∨ (E = "java/lang/IllegalArgumentException" ∧ (0 ≤ i ∧ i < n0) ∧ ¬ (0 ≤ v ∧ v < al))) := by
  refine xof (by decide) (Nat.le_of_ble_eq_true rfl) ?_
  intro p e s m args below meth c A ls hx hb hr hml hown hts hlocks hin hA hK hP hD hS hl hX hout Q hQ
  have hown : s.vm.findClass RX8 = some m.cls := hown
  have hl : lv_has ls 6 [(0, .ref x), (1, .int (jz z)), (2, .int (jz i)), (3, .int (jz v))] := hl
  have KH : ∀ (H : Heap) (locs : List Loc), wP G [bBD G x st sv bu di se wy ta tt rp, bState G st t0 t1 al, bText G t0 a0 n0 g0, bText G t1 a1 n1 g1, bRep G rp q q2 ct ot, bGrid G q b h, bGrid G q2 b2 h2, bText G ct ca cn cg, bText G ot oa on og] H → wD A [bBD G x st sv bu di se wy ta tt rp, bState G st t0 t1 al, bText G t0 a0 n0 g0, bText G t1 a1 n1 g1, bRep G rp q q2 ct ot, bGrid G q b h, bGrid G q2 b2 h2, bText G ct ca cn cg, bText G ot oa on og] → va_S A s.heap H locs → W p l e rmX8_ifReplaced_0 s m args below meth c H locs 0 0 Q (F0 m 0 ls []) := by
    intro H locs hP hD hS
    refine lv_aload_n hx hb dX8_ifReplaced_0 rfl (lv_at hl 0 rfl) ?_
    refine lv_iload_n hx hb dX8_ifReplaced_1 rfl (lv_at hl 1 rfl) ?_
    refine kV ⟨hx, hb, hml, hown, hts⟩ hK hA hS hP hD [.int (jz z)] [] (mX8_textOf_0 l G x st sv bu di se wy ta tt rp t0 t1 al z (by omega)) lkX8_100 [0, 1] [2, 3, 4, 5, 6, 7, 8] (br := [bText G t0 a0 n0 g0, bText G t1 a1 n1 g1, bRep G rp q q2 ct ot, bGrid G q b h, bGrid G q2 b2 h2, bText G ct ca cn cg, bText G ot oa on og]) rfl rfl (by decide) 0 8 rfl rfl rfl rfl (Nat.le_of_ble_eq_true rfl) hl.1 dX8_ifReplaced_2 ⟨Nat.le_of_ble_eq_true rfl, Nat.le_of_ble_eq_true rfl⟩ ⟨Nat.le_of_ble_eq_true rfl, Nat.le_of_ble_eq_true rfl⟩ (fun u9 H locs hp9 hP hD hS => ?_)
    have hP : wP G [bText G t0 a0 n0 g0, bText G t1 a1 n1 g1, bRep G rp q q2 ct ot, bGrid G q b h, bGrid G q2 b2 h2, bText G ct ca cn cg, bText G ot oa on og, bBD G x st sv bu di se wy ta tt rp, bState G st t0 t1 al] H := hP
    have hD : wD A [bText G t0 a0 n0 g0, bText G t1 a1 n1 g1, bRep G rp q q2 ct ot, bGrid G q b h, bGrid G q2 b2 h2, bText G ct ca cn cg, bText G ot oa on og, bBD G x st sv bu di se wy ta tt rp, bState G st t0 t1 al] := hD
    show W p l e rmX8_ifReplaced_0 s m args below meth c H locs 0 0 Q (F0 m 5 ls [.ref t0])
    refine lv_astore (lv' := [(4, .ref t0), (0, .ref x), (1, .int (jz z)), (2, .int (jz i)), (3, .int (jz v))]) hx hb dX8_ifReplaced_5 hl (by decide) rfl (fun ls hl => ?_)
    refine lv_aload hx hb dX8_ifReplaced_7 (lv_at hl 0 rfl) ?_
    refine lv_iload_n hx hb dX8_ifReplaced_9 rfl (lv_at hl 3 rfl) ?_
    refine xkS ⟨hx, hb, hml, hown, hts⟩ hK hA hS hP hD [.ref t0, .int (jz i)] [] (mX8_checkPlace l hl0 G t0 a0 n0 g0 i (by omega) (by omega)) lkX8_121 [0] [1, 2, 3, 4, 5, 6, 7, 8] (br := [bText G t1 a1 n1 g1, bRep G rp q q2 ct ot, bGrid G q b h, bGrid G q2 b2 h2, bText G ct ca cn cg, bText G ot oa on og, bBD G x st sv bu di se wy ta tt rp, bState G st t0 t1 al]) rfl rfl (by decide) rfl rfl (Nat.le_of_ble_eq_true rfl) hl.1 dX8_ifReplaced_10 ⟨Nat.le_of_ble_eq_true rfl, Nat.le_of_ble_eq_true rfl⟩ ⟨Nat.le_of_ble_eq_true rfl, Nat.le_of_ble_eq_true rfl⟩ hX (fun E ce q9 H locs hE hP hD hS hce hcv hcl => xout hout hlocks hce hcv hcl hS hP hD [6, 7, 8, 0, 1, 2, 3, 4, 5] (by decide) rfl (by exact Or.inl hE) (Nat.le_of_ble_eq_true rfl) (Nat.le_of_ble_eq_true rfl) hQ) (fun u9 H locs hp9 hP hD hS => ?_)
    have hc_3 : 0 ≤ i ∧ i < n0 := hp9
    have hP : wP G [bText G t1 a1 n1 g1, bRep G rp q q2 ct ot, bGrid G q b h, bGrid G q2 b2 h2, bText G ct ca cn cg, bText G ot oa on og, bBD G x st sv bu di se wy ta tt rp, bState G st t0 t1 al, bText G t0 a0 n0 g0] H := hP
    have hD : wD A [bText G t1 a1 n1 g1, bRep G rp q q2 ct ot, bGrid G q b h, bGrid G q2 b2 h2, bText G ct ca cn cg, bText G ot oa on og, bBD G x st sv bu di se wy ta tt rp, bState G st t0 t1 al, bText G t0 a0 n0 g0] := hD
    show W p l e rmX8_ifReplaced_0 s m args below meth c H locs 1 6 Q (F0 m 13 ls [])
    have hc1 := hc_3
    refine lv_aload_n hx hb dX8_ifReplaced_13 rfl (lv_at hl 1 rfl) ?_
    refine lv_iload_n hx hb dX8_ifReplaced_14 rfl (lv_at hl 4 rfl) ?_
    refine xkV ⟨hx, hb, hml, hown, hts⟩ hK hA hS hP hD [.int (jz v)] [] (mX8_checkLetter l hl0 G x st sv bu di se wy ta tt rp t0 t1 al v (by omega) (by omega)) lkX8_108 [6, 7] [0, 1, 2, 3, 4, 5, 8] (br := [bText G t1 a1 n1 g1, bRep G rp q q2 ct ot, bGrid G q b h, bGrid G q2 b2 h2, bText G ct ca cn cg, bText G ot oa on og, bText G t0 a0 n0 g0]) rfl rfl (by decide) 0 8 rfl rfl rfl rfl (Nat.le_of_ble_eq_true rfl) hl.1 dX8_ifReplaced_15 ⟨Nat.le_of_ble_eq_true rfl, Nat.le_of_ble_eq_true rfl⟩ ⟨Nat.le_of_ble_eq_true rfl, Nat.le_of_ble_eq_true rfl⟩ hX (fun E ce q9 H locs hE hP hD hS hce hcv hcl => xout hout hlocks hce hcv hcl hS hP hD [7, 8, 6, 0, 1, 2, 3, 4, 5] (by decide) rfl (by exact Or.inr ⟨hE.1, by omega, hE.2⟩) (Nat.le_of_ble_eq_true rfl) (Nat.le_of_ble_eq_true rfl) hQ) (fun u9 H locs hp9 hP hD hS => ?_)
    have hc_5 : 0 ≤ v ∧ v < al := hp9
    have hP : wP G [bText G t1 a1 n1 g1, bRep G rp q q2 ct ot, bGrid G q b h, bGrid G q2 b2 h2, bText G ct ca cn cg, bText G ot oa on og, bText G t0 a0 n0 g0, bBD G x st sv bu di se wy ta tt rp, bState G st t0 t1 al] H := hP
    have hD : wD A [bText G t1 a1 n1 g1, bRep G rp q q2 ct ot, bGrid G q b h, bGrid G q2 b2 h2, bText G ct ca cn cg, bText G ot oa on og, bText G t0 a0 n0 g0, bBD G x st sv bu di se wy ta tt rp, bState G st t0 t1 al] := hD
    show W p l e rmX8_ifReplaced_0 s m args below meth c H locs 2 12 Q (F0 m 18 ls [])
    have hc2 := hc_5
    refine lv_aload_n hx hb dX8_ifReplaced_18 rfl (lv_at hl 1 rfl) ?_
    refine jv_iconst hx hb dX8_ifReplaced_19 ?_
    refine lv_iload_n hx hb dX8_ifReplaced_20 rfl (lv_at hl 2 rfl) ?_
    refine jv_isub hx hb dX8_ifReplaced_21 ?_
    refine kV ⟨hx, hb, hml, hown, hts⟩ hK hA hS hP hD [.int (jz (1 - z))] [] (mX8_textOf_1 l G x st sv bu di se wy ta tt rp t0 t1 al (1 - z) (by omega)) lkX8_100 [7, 8] [0, 1, 2, 3, 4, 5, 6] (br := [bText G t1 a1 n1 g1, bRep G rp q q2 ct ot, bGrid G q b h, bGrid G q2 b2 h2, bText G ct ca cn cg, bText G ot oa on og, bText G t0 a0 n0 g0]) rfl rfl (by decide) 0 8 rfl rfl rfl rfl (Nat.le_of_ble_eq_true rfl) hl.1 dX8_ifReplaced_22 ⟨Nat.le_of_ble_eq_true rfl, Nat.le_of_ble_eq_true rfl⟩ ⟨Nat.le_of_ble_eq_true rfl, Nat.le_of_ble_eq_true rfl⟩ (fun u9 H locs hp9 hP hD hS => ?_)
    have hP : wP G [bText G t1 a1 n1 g1, bRep G rp q q2 ct ot, bGrid G q b h, bGrid G q2 b2 h2, bText G ct ca cn cg, bText G ot oa on og, bText G t0 a0 n0 g0, bBD G x st sv bu di se wy ta tt rp, bState G st t0 t1 al] H := hP
    have hD : wD A [bText G t1 a1 n1 g1, bRep G rp q q2 ct ot, bGrid G q b h, bGrid G q2 b2 h2, bText G ct ca cn cg, bText G ot oa on og, bText G t0 a0 n0 g0, bBD G x st sv bu di se wy ta tt rp, bState G st t0 t1 al] := hD
    show W p l e rmX8_ifReplaced_0 s m args below meth c H locs 2 12 Q (F0 m 25 ls [.ref t1])
    refine lv_astore (lv' := [(5, .ref t1), (4, .ref t0), (0, .ref x), (1, .int (jz z)), (2, .int (jz i)), (3, .int (jz v))]) hx hb dX8_ifReplaced_25 hl (by decide) rfl (fun ls hl => ?_)
    refine lv_aload_n hx hb dX8_ifReplaced_27 rfl (lv_at hl 2 rfl) ?_
    refine va_get (ci := 8) (v := .ref rp) (C := RX8) (T := TX8) (N := 9) hx hb hts wfX8 hown hK.1 hP 13 rfl rfl 8 (by decide) (hts _ wm174) (fun _ h9 => h9) rfl dX8_ifReplaced_28 ?_
    refine lv_aload hx hb dX8_ifReplaced_31 (lv_at hl 1 rfl) ?_
    refine lv_aload hx hb dX8_ifReplaced_33 (lv_at hl 0 rfl) ?_
    refine kV ⟨hx, hb, hml, hown, hts⟩ hK hA hS hP hD [.ref t0, .ref t1] [] (mX3_prepare l G rp q q2 ct ot b h b2 h2 ca cn cg oa on og t0 a0 n0 g0 t1 a1 n1 g1 (by omega) (by omega) (by exact hg0) (by exact hg1)) lkX8_214 [1, 2, 3, 4, 5, 6, 0] [7, 8] (br := [bBD G x st sv bu di se wy ta tt rp, bState G st t0 t1 al]) rfl rfl (by decide) 0 3 rfl rfl rfl rfl (Nat.le_of_ble_eq_true rfl) hl.1 dX8_ifReplaced_35 ⟨Nat.le_of_ble_eq_true rfl, Nat.le_of_ble_eq_true rfl⟩ ⟨Nat.le_of_ble_eq_true rfl, Nat.le_of_ble_eq_true rfl⟩ (fun u9 H locs hp9 hP hD hS => ?_)
    obtain ⟨u_7, u_8, u_9, u_10⟩ := u9
    have hc_11 : ∀ x y : Int, 0 ≤ x → x ≤ n0 → 0 ≤ y → y ≤ n1 → u_7 (x * 21 + y) = D 1 g0 g1 x y := hp9.1
    have hd_12 : ∀ x y : Int, 0 ≤ x → x ≤ n0 → 0 ≤ y → y ≤ n1 → u_8 (x * 21 + y) = D 1 (rv g0 n0) (rv g1 n1) x y := hp9.2
    have hP : wP G [bBD G x st sv bu di se wy ta tt rp, bState G st t0 t1 al, bRep G rp q q2 ct ot, bGrid G q b u_7, bGrid G q2 b2 u_8, bText G ct ca n0 u_9, bText G ot oa n1 u_10, bText G t0 a0 n0 g0, bText G t1 a1 n1 g1] H := hP
    have hD : wD A [bBD G x st sv bu di se wy ta tt rp, bState G st t0 t1 al, bRep G rp q q2 ct ot, bGrid G q b u_7, bGrid G q2 b2 u_8, bText G ct ca n0 u_9, bText G ot oa n1 u_10, bText G t0 a0 n0 g0, bText G t1 a1 n1 g1] := hD
    show W p l e rmX8_ifReplaced_0 s m args below meth c H locs 2 12 Q (F0 m 38 ls [])
    have hp1 := hc_11
    have hp2 := hd_12
    refine lv_aload_n hx hb dX8_ifReplaced_38 rfl (lv_at hl 2 rfl) ?_
    refine va_get (ci := 8) (v := .ref rp) (C := RX8) (T := TX8) (N := 9) hx hb hts wfX8 hown hK.1 hP 0 rfl rfl 8 (by decide) (hts _ wm174) (fun _ h9 => h9) rfl dX8_ifReplaced_39 ?_
    refine lv_aload hx hb dX8_ifReplaced_42 (lv_at hl 1 rfl) ?_
    refine lv_aload hx hb dX8_ifReplaced_44 (lv_at hl 0 rfl) ?_
    refine lv_iload_n hx hb dX8_ifReplaced_46 rfl (lv_at hl 4 rfl) ?_
    refine lv_iload_n hx hb dX8_ifReplaced_47 rfl (lv_at hl 5 rfl) ?_
    refine kV ⟨hx, hb, hml, hown, hts⟩ hK hA hS hP hD [.ref t0, .ref t1, .int (jz i), .int (jz v)] [] (mX3_distanceWith l G rp q q2 ct ot b u_7 b2 u_8 t0 a0 n0 g0 t1 a1 n1 g1 i v (by omega) (by omega) (by exact hg0) (by exact hg1) (by omega) (by omega) (by exact hp1) (by exact hp2)) lkX8_217 [2, 3, 4, 7, 8] [0, 1, 5, 6] (br := [bBD G x st sv bu di se wy ta tt rp, bState G st t0 t1 al, bText G ct ca n0 u_9, bText G ot oa n1 u_10]) rfl rfl (by decide) 0 3 rfl rfl rfl rfl (Nat.le_of_ble_eq_true rfl) hl.1 dX8_ifReplaced_48 ⟨Nat.le_of_ble_eq_true rfl, Nat.le_of_ble_eq_true rfl⟩ ⟨Nat.le_of_ble_eq_true rfl, Nat.le_of_ble_eq_true rfl⟩ (fun u9 H locs hp9 hP hD hS => ?_)
    have hP : wP G [bBD G x st sv bu di se wy ta tt rp, bState G st t0 t1 al, bText G ct ca n0 u_9, bText G ot oa n1 u_10, bRep G rp q q2 ct ot, bGrid G q b u_7, bGrid G q2 b2 u_8, bText G t0 a0 n0 g0, bText G t1 a1 n1 g1] H := hP
    have hD : wD A [bBD G x st sv bu di se wy ta tt rp, bState G st t0 t1 al, bText G ct ca n0 u_9, bText G ot oa n1 u_10, bRep G rp q q2 ct ot, bGrid G q b u_7, bGrid G q2 b2 u_8, bText G t0 a0 n0 g0, bText G t1 a1 n1 g1] := hD
    show W p l e rmX8_ifReplaced_0 s m args below meth c H locs 2 12 Q (F0 m 51 ls [.int (jz (D 1 (up g0 i v) g1 n0 n1))])
    rw [hQ]
    exact vx_ret (cret_i hx hb hr hlocks hS hP hD (Nat.le_of_ble_eq_true rfl) (Nat.le_of_ble_eq_true rfl) rfl dX8_ifReplaced_51 [0, 1, 7, 8, 4, 5, 6, 2, 3] (by decide) ⟨u_7, u_8, u_9, u_10⟩ rfl (show (0 ≤ i ∧ i < n0) ∧ (0 ≤ v ∧ v < al) from by omega) (congrArg (fun z : Int => some (Value.int (jz z))) (show (D 1 (up g0 i v) g1 n0 n1) = D 1 (up g0 i v) g1 n0 n1 from by first | rfl | omega | (split <;> first | rfl | omega | (exfalso; omega)))) rfl)
  exact KH s.heap [] hP hD hS
abbrev rmX8_bestReplacement_0 : Room := { frames := 4, cells := 0, slots := 0, locals := 92 }
set_option maxHeartbeats 4000000 in
set_option maxRecDepth 100000 in
theorem mX8_bestReplacement_0 (l : Launch) (G : GG) (x : Nat) (st : Nat) (sv : Nat) (bu : Nat) (di : Nat) (se : Nat) (wy : Nat) (ta : Nat) (tt : Nat) (rp : Nat) (t0 : Nat) (t1 : Nat) (al : Int) (a0 : Nat) (n0 : Int) (g0 : Int → Int) (a1 : Nat) (n1 : Int) (g1 : Int → Int) (q : Nat) (q2 : Nat) (ct : Nat) (ot : Nat) (b : Nat) (h : Int → Int) (b2 : Nat) (h2 : Int → Int) (ca : Nat) (cn : Int) (cg : Int → Int) (oa : Nat) (on : Int) (og : Int → Int) (z : Int) (hn0 : 0 ≤ n0 ∧ n0 ≤ 20) (hn1 : 0 ≤ n1 ∧ n1 ≤ 20) (hg0 : ∀ j : Int, 0 ≤ j → j < n0 → 0 ≤ g0 j ∧ g0 j < 4) (hg1 : ∀ j : Int, 0 ≤ j → j < n1 → 0 ≤ g1 j ∧ g1 j < 4) (hal : 2 ≤ al ∧ al ≤ 4) (hz : z = 0) : Ct l yX8_bestReplacement cX8_bestReplacement 9 (some .int) rmX8_bestReplacement_0 G [.ref x, .int (jz z)] [bBD G x st sv bu di se wy ta tt rp, bState G st t0 t1 al, bText G t0 a0 n0 g0, bText G t1 a1 n1 g1, bRep G rp q q2 ct ot, bGrid G q b h, bGrid G q2 b2 h2, bText G ct ca cn cg, bText G ot oa on og] (fun uo : (Int → Int) × (Int → Int) × (Int → Int) × (Int → Int) => some (.int (jz (bst0 al n0 n1 g0 g1)))) (fun uo => True) (fun uo => [bBD G x st sv bu di se wy ta tt rp, bState G st t0 t1 al, bText G t0 a0 n0 g0, bText G t1 a1 n1 g1, bRep G rp q q2 ct ot, bGrid G q b uo.1, bGrid G q2 b2 uo.2.1, bText G ct ca n0 uo.2.2.1, bText G ot oa n1 uo.2.2.2]) := by
  refine cof (by decide) (Nat.le_of_ble_eq_true rfl) ?_
  intro p e s m args below meth c A ls hx hb hr hml hown hts hlocks hin hA hK hP hD hS hl Q hQ
  have hown : s.vm.findClass RX8 = some m.cls := hown
  have hl : lv_has ls 9 [(0, .ref x), (1, .int (jz z))] := hl
  have KH : ∀ (H : Heap) (locs : List Loc), wP G [bBD G x st sv bu di se wy ta tt rp, bState G st t0 t1 al, bText G t0 a0 n0 g0, bText G t1 a1 n1 g1, bRep G rp q q2 ct ot, bGrid G q b h, bGrid G q2 b2 h2, bText G ct ca cn cg, bText G ot oa on og] H → wD A [bBD G x st sv bu di se wy ta tt rp, bState G st t0 t1 al, bText G t0 a0 n0 g0, bText G t1 a1 n1 g1, bRep G rp q q2 ct ot, bGrid G q b h, bGrid G q2 b2 h2, bText G ct ca cn cg, bText G ot oa on og] → va_S A s.heap H locs → W p l e rmX8_bestReplacement_0 s m args below meth c H locs 0 0 Q (F0 m 0 ls []) := by
    intro H locs hP hD hS
    refine lv_aload_n hx hb dX8_bestReplacement_0 rfl (lv_at hl 0 rfl) ?_
    refine lv_iload_n hx hb dX8_bestReplacement_1 rfl (lv_at hl 1 rfl) ?_
    refine kV ⟨hx, hb, hml, hown, hts⟩ hK hA hS hP hD [.int (jz z)] [] (mX8_textOf_0 l G x st sv bu di se wy ta tt rp t0 t1 al z (by omega)) lkX8_100 [0, 1] [2, 3, 4, 5, 6, 7, 8] (br := [bText G t0 a0 n0 g0, bText G t1 a1 n1 g1, bRep G rp q q2 ct ot, bGrid G q b h, bGrid G q2 b2 h2, bText G ct ca cn cg, bText G ot oa on og]) rfl rfl (by decide) 0 8 rfl rfl rfl rfl (Nat.le_of_ble_eq_true rfl) hl.1 dX8_bestReplacement_2 ⟨Nat.le_of_ble_eq_true rfl, Nat.le_of_ble_eq_true rfl⟩ ⟨Nat.le_of_ble_eq_true rfl, Nat.le_of_ble_eq_true rfl⟩ (fun u9 H locs hp9 hP hD hS => ?_)
    have hP : wP G [bText G t0 a0 n0 g0, bText G t1 a1 n1 g1, bRep G rp q q2 ct ot, bGrid G q b h, bGrid G q2 b2 h2, bText G ct ca cn cg, bText G ot oa on og, bBD G x st sv bu di se wy ta tt rp, bState G st t0 t1 al] H := hP
    have hD : wD A [bText G t0 a0 n0 g0, bText G t1 a1 n1 g1, bRep G rp q q2 ct ot, bGrid G q b h, bGrid G q2 b2 h2, bText G ct ca cn cg, bText G ot oa on og, bBD G x st sv bu di se wy ta tt rp, bState G st t0 t1 al] := hD
    show W p l e rmX8_bestReplacement_0 s m args below meth c H locs 0 0 Q (F0 m 5 ls [.ref t0])
    refine lv_astore_n (lv' := [(2, .ref t0), (0, .ref x), (1, .int (jz z))]) hx hb dX8_bestReplacement_5 rfl hl (by decide) rfl (fun ls hl => ?_)
    refine lv_aload_n hx hb dX8_bestReplacement_6 rfl (lv_at hl 1 rfl) ?_
    refine jv_iconst hx hb dX8_bestReplacement_7 ?_
    refine lv_iload_n hx hb dX8_bestReplacement_8 rfl (lv_at hl 2 rfl) ?_
    refine jv_isub hx hb dX8_bestReplacement_9 ?_
    refine kV ⟨hx, hb, hml, hown, hts⟩ hK hA hS hP hD [.int (jz (1 - z))] [] (mX8_textOf_1 l G x st sv bu di se wy ta tt rp t0 t1 al (1 - z) (by omega)) lkX8_100 [7, 8] [0, 1, 2, 3, 4, 5, 6] (br := [bText G t0 a0 n0 g0, bText G t1 a1 n1 g1, bRep G rp q q2 ct ot, bGrid G q b h, bGrid G q2 b2 h2, bText G ct ca cn cg, bText G ot oa on og]) rfl rfl (by decide) 0 8 rfl rfl rfl rfl (Nat.le_of_ble_eq_true rfl) hl.1 dX8_bestReplacement_10 ⟨Nat.le_of_ble_eq_true rfl, Nat.le_of_ble_eq_true rfl⟩ ⟨Nat.le_of_ble_eq_true rfl, Nat.le_of_ble_eq_true rfl⟩ (fun u9 H locs hp9 hP hD hS => ?_)
    have hP : wP G [bText G t0 a0 n0 g0, bText G t1 a1 n1 g1, bRep G rp q q2 ct ot, bGrid G q b h, bGrid G q2 b2 h2, bText G ct ca cn cg, bText G ot oa on og, bBD G x st sv bu di se wy ta tt rp, bState G st t0 t1 al] H := hP
    have hD : wD A [bText G t0 a0 n0 g0, bText G t1 a1 n1 g1, bRep G rp q q2 ct ot, bGrid G q b h, bGrid G q2 b2 h2, bText G ct ca cn cg, bText G ot oa on og, bBD G x st sv bu di se wy ta tt rp, bState G st t0 t1 al] := hD
    show W p l e rmX8_bestReplacement_0 s m args below meth c H locs 0 0 Q (F0 m 13 ls [.ref t1])
    refine lv_astore_n (lv' := [(3, .ref t1), (2, .ref t0), (0, .ref x), (1, .int (jz z))]) hx hb dX8_bestReplacement_13 rfl hl (by decide) rfl (fun ls hl => ?_)
    refine lv_aload_n hx hb dX8_bestReplacement_14 rfl (lv_at hl 2 rfl) ?_
    refine va_get (ci := 8) (v := .ref rp) (C := RX8) (T := TX8) (N := 9) hx hb hts wfX8 hown hK.1 hP 13 rfl rfl 8 (by decide) (hts _ wm174) (fun _ h9 => h9) rfl dX8_bestReplacement_15 ?_
    refine lv_aload_n hx hb dX8_bestReplacement_18 rfl (lv_at hl 1 rfl) ?_
    refine lv_aload_n hx hb dX8_bestReplacement_19 rfl (lv_at hl 0 rfl) ?_
    refine kV ⟨hx, hb, hml, hown, hts⟩ hK hA hS hP hD [.ref t0, .ref t1] [] (mX3_prepare l G rp q q2 ct ot b h b2 h2 ca cn cg oa on og t0 a0 n0 g0 t1 a1 n1 g1 (by omega) (by omega) (by exact hg0) (by exact hg1)) lkX8_214 [2, 3, 4, 5, 6, 0, 1] [7, 8] (br := [bBD G x st sv bu di se wy ta tt rp, bState G st t0 t1 al]) rfl rfl (by decide) 0 3 rfl rfl rfl rfl (Nat.le_of_ble_eq_true rfl) hl.1 dX8_bestReplacement_20 ⟨Nat.le_of_ble_eq_true rfl, Nat.le_of_ble_eq_true rfl⟩ ⟨Nat.le_of_ble_eq_true rfl, Nat.le_of_ble_eq_true rfl⟩ (fun u9 H locs hp9 hP hD hS => ?_)
    obtain ⟨u_3, u_4, u_5, u_6⟩ := u9
    have hc_7 : ∀ x y : Int, 0 ≤ x → x ≤ n0 → 0 ≤ y → y ≤ n1 → u_3 (x * 21 + y) = D 1 g0 g1 x y := hp9.1
    have hd_8 : ∀ x y : Int, 0 ≤ x → x ≤ n0 → 0 ≤ y → y ≤ n1 → u_4 (x * 21 + y) = D 1 (rv g0 n0) (rv g1 n1) x y := hp9.2
    have hP : wP G [bBD G x st sv bu di se wy ta tt rp, bState G st t0 t1 al, bRep G rp q q2 ct ot, bGrid G q b u_3, bGrid G q2 b2 u_4, bText G ct ca n0 u_5, bText G ot oa n1 u_6, bText G t0 a0 n0 g0, bText G t1 a1 n1 g1] H := hP
    have hD : wD A [bBD G x st sv bu di se wy ta tt rp, bState G st t0 t1 al, bRep G rp q q2 ct ot, bGrid G q b u_3, bGrid G q2 b2 u_4, bText G ct ca n0 u_5, bText G ot oa n1 u_6, bText G t0 a0 n0 g0, bText G t1 a1 n1 g1] := hD
    show W p l e rmX8_bestReplacement_0 s m args below meth c H locs 0 0 Q (F0 m 23 ls [])
    have hp1 := hc_7
    have hp2 := hd_8
    refine jv_iconst hx hb dX8_bestReplacement_23 ?_
    refine lv_istore (lv' := [(4, .int (jz ((-1)))), (3, .ref t1), (2, .ref t0), (0, .ref x), (1, .int (jz z))]) hx hb dX8_bestReplacement_24 hl (by decide) rfl (fun ls hl => ?_)
    refine jv_bipush hx hb dX8_bestReplacement_26 (by decide) ?_
    refine lv_istore (lv' := [(5, .int (jz 21)), (4, .int (jz ((-1)))), (3, .ref t1), (2, .ref t0), (0, .ref x), (1, .int (jz z))]) hx hb dX8_bestReplacement_28 hl (by decide) rfl (fun ls hl => ?_)
    refine jv_iconst hx hb dX8_bestReplacement_30 ?_
    refine lv_istore (lv' := [(6, .int (jz 0)), (5, .int (jz 21)), (4, .int (jz ((-1)))), (3, .ref t1), (2, .ref t0), (0, .ref x), (1, .int (jz z))]) hx hb dX8_bestReplacement_31 hl (by decide) rfl (fun ls hl => ?_)
    have K33 : ∀ (n9 : Nat) (bst : Int) (lst : Int) (ix : Int) , ((n0 - ix).toNat) < n9 → (0 ≤ ix ∧ ix ≤ n0) → (bRel bst lst (bAll (fun i v => D 1 (up g0 i v) g1 n0 n1) al ix.toNat)) → ∀ (H : Heap) (locs : List Loc) (ls : Array Slot), wP G [bBD G x st sv bu di se wy ta tt rp, bState G st t0 t1 al, bRep G rp q q2 ct ot, bGrid G q b u_3, bGrid G q2 b2 u_4, bText G ct ca n0 u_5, bText G ot oa n1 u_6, bText G t0 a0 n0 g0, bText G t1 a1 n1 g1] H → wD A [bBD G x st sv bu di se wy ta tt rp, bState G st t0 t1 al, bRep G rp q q2 ct ot, bGrid G q b u_3, bGrid G q2 b2 u_4, bText G ct ca n0 u_5, bText G ot oa n1 u_6, bText G t0 a0 n0 g0, bText G t1 a1 n1 g1] → va_S A s.heap H locs → lv_has ls 9 [(0, .ref x), (1, .int (jz z)), (2, .ref t0), (3, .ref t1), (4, .int (jz bst)), (5, .int (jz lst)), (6, .int (jz ix))] → W p l e rmX8_bestReplacement_0 s m args below meth c H locs 0 0 Q (F0 m 33 ls []) := by
      intro n9
      induction n9 with
      | zero => intro bst lst ix hm9; exact absurd hm9 (Nat.not_lt_zero _)
      | succ n9 ih33 =>
        intro bst lst ix hm9 hix hb9 H locs ls hP hD hS hl
        have hbb := bRel_bd hb9
        refine lv_iload hx hb dX8_bestReplacement_33 (lv_at hl 6 rfl) ?_
        refine lv_aload_n hx hb dX8_bestReplacement_35 rfl (lv_at hl 2 rfl) ?_
        refine kV ⟨hx, hb, hml, hown, hts⟩ hK hA hS hP hD [] [.int (jz ix)] (mX6_size l G t0 a0 n0 g0 ) lkX8_95 [7] [0, 1, 2, 3, 4, 5, 6, 8] (br := [bBD G x st sv bu di se wy ta tt rp, bState G st t0 t1 al, bRep G rp q q2 ct ot, bGrid G q b u_3, bGrid G q2 b2 u_4, bText G ct ca n0 u_5, bText G ot oa n1 u_6, bText G t1 a1 n1 g1]) rfl rfl (by decide) 0 6 rfl rfl rfl rfl (Nat.le_of_ble_eq_true rfl) hl.1 dX8_bestReplacement_36 ⟨Nat.le_of_ble_eq_true rfl, Nat.le_of_ble_eq_true rfl⟩ ⟨Nat.le_of_ble_eq_true rfl, Nat.le_of_ble_eq_true rfl⟩ (fun u9 H locs hp9 hP hD hS => ?_)
        have hP : wP G [bBD G x st sv bu di se wy ta tt rp, bState G st t0 t1 al, bRep G rp q q2 ct ot, bGrid G q b u_3, bGrid G q2 b2 u_4, bText G ct ca n0 u_5, bText G ot oa n1 u_6, bText G t1 a1 n1 g1, bText G t0 a0 n0 g0] H := hP
        have hD : wD A [bBD G x st sv bu di se wy ta tt rp, bState G st t0 t1 al, bRep G rp q q2 ct ot, bGrid G q b u_3, bGrid G q2 b2 u_4, bText G ct ca n0 u_5, bText G ot oa n1 u_6, bText G t1 a1 n1 g1, bText G t0 a0 n0 g0] := hD
        show W p l e rmX8_bestReplacement_0 s m args below meth c H locs 0 0 Q (F0 m 39 ls [.int (jz n0), .int (jz ix)])
        refine jv_icmp_ge (tgt := 105) hx hb dX8_bestReplacement_39 (by decide) (by omega) (by omega) (fun c_10 => ?_) (fun c_10 => ?_)
        · refine lv_iload hx hb dX8_bestReplacement_105 (lv_at hl 4 rfl) ?_
          exact cret_i hx hb hr hlocks hS hP hD (Nat.le_of_ble_eq_true rfl) (Nat.le_of_ble_eq_true rfl) rfl dX8_bestReplacement_107 [0, 1, 8, 7, 2, 3, 4, 5, 6] (by decide) ⟨u_3, u_4, u_5, u_6⟩ rfl trivial (congrArg (fun z : Int => some (Value.int (jz z))) (show bst = bst0 al n0 n1 g0 g1 from by unfold bst0 bestF; rw [show n0.toNat = ix.toNat by omega]; exact (bRel_1 hb9).symm)) hQ
        · refine jv_iconst hx hb dX8_bestReplacement_42 ?_
          refine lv_istore (lv' := [(7, .int (jz 0)), (0, .ref x), (1, .int (jz z)), (2, .ref t0), (3, .ref t1), (4, .int (jz bst)), (5, .int (jz lst)), (6, .int (jz ix))]) hx hb dX8_bestReplacement_43 hl (by decide) rfl (fun ls hl => ?_)
          have K45 : ∀ (n9 : Nat) (bst : Int) (lst : Int) (le : Int) , ((al - le).toNat) < n9 → (0 ≤ le ∧ le ≤ al) → (bRel bst lst (bLet (fun i v => D 1 (up g0 i v) g1 n0 n1) ix le.toNat (bAll (fun i v => D 1 (up g0 i v) g1 n0 n1) al ix.toNat))) → ∀ (H : Heap) (locs : List Loc) (ls : Array Slot), wP G [bBD G x st sv bu di se wy ta tt rp, bState G st t0 t1 al, bRep G rp q q2 ct ot, bGrid G q b u_3, bGrid G q2 b2 u_4, bText G ct ca n0 u_5, bText G ot oa n1 u_6, bText G t1 a1 n1 g1, bText G t0 a0 n0 g0] H → wD A [bBD G x st sv bu di se wy ta tt rp, bState G st t0 t1 al, bRep G rp q q2 ct ot, bGrid G q b u_3, bGrid G q2 b2 u_4, bText G ct ca n0 u_5, bText G ot oa n1 u_6, bText G t1 a1 n1 g1, bText G t0 a0 n0 g0] → va_S A s.heap H locs → lv_has ls 9 [(0, .ref x), (1, .int (jz z)), (2, .ref t0), (3, .ref t1), (4, .int (jz bst)), (5, .int (jz lst)), (6, .int (jz ix)), (7, .int (jz le))] → W p l e rmX8_bestReplacement_0 s m args below meth c H locs 0 0 Q (F0 m 45 ls []) := by
            intro n9
            induction n9 with
            | zero => intro bst lst le hm9; exact absurd hm9 (Nat.not_lt_zero _)
            | succ n9 ih45 =>
              intro bst lst le hm9 hle hb8 H locs ls hP hD hS hl
              have hbb8 := bRel_bd hb8
              refine lv_iload hx hb dX8_bestReplacement_45 (lv_at hl 7 rfl) ?_
              refine lv_aload_n hx hb dX8_bestReplacement_47 rfl (lv_at hl 0 rfl) ?_
              refine va_get (ci := 8) (v := .ref st) (C := RX8) (T := TX8) (N := 9) hx hb hts wfX8 hown hK.1 hP 0 rfl rfl 0 (by decide) (hts _ wm166) (fun _ h9 => h9) rfl dX8_bestReplacement_48 ?_
              refine kV ⟨hx, hb, hml, hown, hts⟩ hK hA hS hP hD [] [.int (jz le)] (mX5_alphabet l G st t0 t1 al ) lkX8_68 [1] [0, 2, 3, 4, 5, 6, 7, 8] (br := [bBD G x st sv bu di se wy ta tt rp, bRep G rp q q2 ct ot, bGrid G q b u_3, bGrid G q2 b2 u_4, bText G ct ca n0 u_5, bText G ot oa n1 u_6, bText G t1 a1 n1 g1, bText G t0 a0 n0 g0]) rfl rfl (by decide) 0 5 rfl rfl rfl rfl (Nat.le_of_ble_eq_true rfl) hl.1 dX8_bestReplacement_51 ⟨Nat.le_of_ble_eq_true rfl, Nat.le_of_ble_eq_true rfl⟩ ⟨Nat.le_of_ble_eq_true rfl, Nat.le_of_ble_eq_true rfl⟩ (fun u9 H locs hp9 hP hD hS => ?_)
              have hP : wP G [bBD G x st sv bu di se wy ta tt rp, bRep G rp q q2 ct ot, bGrid G q b u_3, bGrid G q2 b2 u_4, bText G ct ca n0 u_5, bText G ot oa n1 u_6, bText G t1 a1 n1 g1, bText G t0 a0 n0 g0, bState G st t0 t1 al] H := hP
              have hD : wD A [bBD G x st sv bu di se wy ta tt rp, bRep G rp q q2 ct ot, bGrid G q b u_3, bGrid G q2 b2 u_4, bText G ct ca n0 u_5, bText G ot oa n1 u_6, bText G t1 a1 n1 g1, bText G t0 a0 n0 g0, bState G st t0 t1 al] := hD
              show W p l e rmX8_bestReplacement_0 s m args below meth c H locs 0 0 Q (F0 m 54 ls [.int (jz al), .int (jz le)])
              refine jv_icmp_ge (tgt := 99) hx hb dX8_bestReplacement_54 (by decide) (by omega) (by omega) (fun c_12 => ?_) (fun c_12 => ?_)
              · refine jv_iinc (lv' := [(6, .int (jz (ix + 1))), (0, .ref x), (1, .int (jz z)), (2, .ref t0), (3, .ref t1), (4, .int (jz bst)), (5, .int (jz lst)), (7, .int (jz le))]) (k := 6) hx hb dX8_bestReplacement_99 hl rfl (by decide) rfl (fun ls hl => ?_)
                refine lv_goto (tgt := 33) hx hb dX8_bestReplacement_102 (by decide) ?_
                exact ih33 bst lst (ix + 1) (by omega) (by omega) (by rw [bAll_s _ _ (by omega), show al = le by omega]; rw [show al = le by omega] at hb8; exact hb8) H _ _ (wP_sub (bc := [bBD G x st sv bu di se wy ta tt rp, bState G st t0 t1 al, bRep G rp q q2 ct ot, bGrid G q b u_3, bGrid G q2 b2 u_4, bText G ct ca n0 u_5, bText G ot oa n1 u_6, bText G t0 a0 n0 g0, bText G t1 a1 n1 g1]) hP [0, 8, 1, 2, 3, 4, 5, 7, 6] rfl) (wD_sub (bc := [bBD G x st sv bu di se wy ta tt rp, bState G st t0 t1 al, bRep G rp q q2 ct ot, bGrid G q b u_3, bGrid G q2 b2 u_4, bText G ct ca n0 u_5, bText G ot oa n1 u_6, bText G t0 a0 n0 g0, bText G t1 a1 n1 g1]) hD [0, 8, 1, 2, 3, 4, 5, 7, 6] (by decide) rfl) hS (lv_sub hl [1, 2, 3, 4, 5, 6, 0] rfl)
              · refine lv_aload_n hx hb dX8_bestReplacement_57 rfl (lv_at hl 0 rfl) ?_
                refine va_get (ci := 8) (v := .ref rp) (C := RX8) (T := TX8) (N := 9) hx hb hts wfX8 hown hK.1 hP 0 rfl rfl 8 (by decide) (hts _ wm174) (fun _ h9 => h9) rfl dX8_bestReplacement_58 ?_
                refine lv_aload_n hx hb dX8_bestReplacement_61 rfl (lv_at hl 2 rfl) ?_
                refine lv_aload_n hx hb dX8_bestReplacement_62 rfl (lv_at hl 3 rfl) ?_
                refine lv_iload hx hb dX8_bestReplacement_63 (lv_at hl 6 rfl) ?_
                refine lv_iload hx hb dX8_bestReplacement_65 (lv_at hl 7 rfl) ?_
                refine kV ⟨hx, hb, hml, hown, hts⟩ hK hA hS hP hD [.ref t0, .ref t1, .int (jz ix), .int (jz le)] [] (mX3_distanceWith l G rp q q2 ct ot b u_3 b2 u_4 t0 a0 n0 g0 t1 a1 n1 g1 ix le (by omega) (by omega) (by exact hg0) (by exact hg1) (by omega) (by omega) (by exact hp1) (by exact hp2)) lkX8_217 [1, 2, 3, 7, 6] [0, 4, 5, 8] (br := [bBD G x st sv bu di se wy ta tt rp, bText G ct ca n0 u_5, bText G ot oa n1 u_6, bState G st t0 t1 al]) rfl rfl (by decide) 0 3 rfl rfl rfl rfl (Nat.le_of_ble_eq_true rfl) hl.1 dX8_bestReplacement_67 ⟨Nat.le_of_ble_eq_true rfl, Nat.le_of_ble_eq_true rfl⟩ ⟨Nat.le_of_ble_eq_true rfl, Nat.le_of_ble_eq_true rfl⟩ (fun u9 H locs hp9 hP hD hS => ?_)
                have hP : wP G [bBD G x st sv bu di se wy ta tt rp, bText G ct ca n0 u_5, bText G ot oa n1 u_6, bState G st t0 t1 al, bRep G rp q q2 ct ot, bGrid G q b u_3, bGrid G q2 b2 u_4, bText G t0 a0 n0 g0, bText G t1 a1 n1 g1] H := hP
                have hD : wD A [bBD G x st sv bu di se wy ta tt rp, bText G ct ca n0 u_5, bText G ot oa n1 u_6, bState G st t0 t1 al, bRep G rp q q2 ct ot, bGrid G q b u_3, bGrid G q2 b2 u_4, bText G t0 a0 n0 g0, bText G t1 a1 n1 g1] := hD
                show W p l e rmX8_bestReplacement_0 s m args below meth c H locs 0 0 Q (F0 m 70 ls [.int (jz (D 1 (up g0 ix le) g1 n0 n1))])
                have hdb := D_bd (c := 1) (Or.inr rfl) (up g0 ix le) g1 (i := n0) (j := n1) (by omega) (by omega)
                have hdm := D_max (up g0 ix le) g1 (i := n0) (j := n1) (by omega) (by omega)
                refine lv_istore (lv' := [(8, .int (jz (D 1 (up g0 ix le) g1 n0 n1))), (0, .ref x), (1, .int (jz z)), (2, .ref t0), (3, .ref t1), (4, .int (jz bst)), (5, .int (jz lst)), (6, .int (jz ix)), (7, .int (jz le))]) hx hb dX8_bestReplacement_70 hl (by decide) rfl (fun ls hl => ?_)
                refine lv_iload hx hb dX8_bestReplacement_72 (lv_at hl 0 rfl) ?_
                refine lv_iload hx hb dX8_bestReplacement_74 (lv_at hl 6 rfl) ?_
                refine jv_icmp_ge (tgt := 93) hx hb dX8_bestReplacement_76 (by decide) (by omega) (by omega) (fun c_14 => ?_) (fun c_14 => ?_)
                · refine jv_iinc (lv' := [(7, .int (jz (le + 1))), (8, .int (jz (D 1 (up g0 ix le) g1 n0 n1))), (0, .ref x), (1, .int (jz z)), (2, .ref t0), (3, .ref t1), (4, .int (jz bst)), (5, .int (jz lst)), (6, .int (jz ix))]) (k := 8) hx hb dX8_bestReplacement_93 hl rfl (by decide) rfl (fun ls hl => ?_)
                  refine lv_goto (tgt := 45) hx hb dX8_bestReplacement_96 (by decide) ?_
                  exact ih45 bst lst (le + 1) (by omega) (by omega) (by rw [bLet_s _ _ (by omega)]; exact bRel_no hb8 (by omega) (by omega)) H _ _ (wP_sub (bc := [bBD G x st sv bu di se wy ta tt rp, bState G st t0 t1 al, bRep G rp q q2 ct ot, bGrid G q b u_3, bGrid G q2 b2 u_4, bText G ct ca n0 u_5, bText G ot oa n1 u_6, bText G t1 a1 n1 g1, bText G t0 a0 n0 g0]) hP [0, 3, 4, 5, 6, 1, 2, 8, 7] rfl) (wD_sub (bc := [bBD G x st sv bu di se wy ta tt rp, bState G st t0 t1 al, bRep G rp q q2 ct ot, bGrid G q b u_3, bGrid G q2 b2 u_4, bText G ct ca n0 u_5, bText G ot oa n1 u_6, bText G t1 a1 n1 g1, bText G t0 a0 n0 g0]) hD [0, 3, 4, 5, 6, 1, 2, 8, 7] (by decide) rfl) hS (lv_sub hl [2, 3, 4, 5, 6, 7, 8, 0] rfl)
                · refine lv_iload hx hb dX8_bestReplacement_79 (lv_at hl 0 rfl) ?_
                  refine lv_istore (lv' := [(5, .int (jz (D 1 (up g0 ix le) g1 n0 n1))), (8, .int (jz (D 1 (up g0 ix le) g1 n0 n1))), (0, .ref x), (1, .int (jz z)), (2, .ref t0), (3, .ref t1), (4, .int (jz bst)), (6, .int (jz ix)), (7, .int (jz le))]) hx hb dX8_bestReplacement_81 hl (by decide) rfl (fun ls hl => ?_)
                  refine jv_bipush hx hb dX8_bestReplacement_83 (by decide) ?_
                  refine lv_iload hx hb dX8_bestReplacement_85 (lv_at hl 7 rfl) ?_
                  refine jv_imul hx hb dX8_bestReplacement_87 ?_
                  refine lv_iload hx hb dX8_bestReplacement_88 (lv_at hl 8 rfl) ?_
                  refine jv_iadd hx hb dX8_bestReplacement_90 ?_
                  refine lv_istore (lv' := [(4, .int (jz ((10 * ix) + le))), (5, .int (jz (D 1 (up g0 ix le) g1 n0 n1))), (8, .int (jz (D 1 (up g0 ix le) g1 n0 n1))), (0, .ref x), (1, .int (jz z)), (2, .ref t0), (3, .ref t1), (6, .int (jz ix)), (7, .int (jz le))]) hx hb dX8_bestReplacement_91 hl (by decide) rfl (fun ls hl => ?_)
                  refine jv_iinc (lv' := [(7, .int (jz (le + 1))), (4, .int (jz ((10 * ix) + le))), (5, .int (jz (D 1 (up g0 ix le) g1 n0 n1))), (8, .int (jz (D 1 (up g0 ix le) g1 n0 n1))), (0, .ref x), (1, .int (jz z)), (2, .ref t0), (3, .ref t1), (6, .int (jz ix))]) (k := 8) hx hb dX8_bestReplacement_93 hl rfl (by decide) rfl (fun ls hl => ?_)
                  refine lv_goto (tgt := 45) hx hb dX8_bestReplacement_96 (by decide) ?_
                  exact ih45 ((10 * ix) + le) (D 1 (up g0 ix le) g1 n0 n1) (le + 1) (by omega) (by omega) (by rw [bLet_s _ _ (by omega)]; exact bRel_up hb8 (by omega) (by omega) (by omega)) H _ _ (wP_sub (bc := [bBD G x st sv bu di se wy ta tt rp, bState G st t0 t1 al, bRep G rp q q2 ct ot, bGrid G q b u_3, bGrid G q2 b2 u_4, bText G ct ca n0 u_5, bText G ot oa n1 u_6, bText G t1 a1 n1 g1, bText G t0 a0 n0 g0]) hP [0, 3, 4, 5, 6, 1, 2, 8, 7] rfl) (wD_sub (bc := [bBD G x st sv bu di se wy ta tt rp, bState G st t0 t1 al, bRep G rp q q2 ct ot, bGrid G q b u_3, bGrid G q2 b2 u_4, bText G ct ca n0 u_5, bText G ot oa n1 u_6, bText G t1 a1 n1 g1, bText G t0 a0 n0 g0]) hD [0, 3, 4, 5, 6, 1, 2, 8, 7] (by decide) rfl) hS (lv_sub hl [4, 5, 6, 7, 1, 2, 8, 0] rfl)
          exact K45 (((al - 0).toNat) + 1) bst lst 0 (Nat.lt_succ_self _) (by omega) (by exact hb9) H _ _ hP hD hS (lv_sub hl [1, 2, 3, 4, 5, 6, 7, 0] rfl)
    exact K33 (((n0 - 0).toNat) + 1) ((-1)) 21 0 (Nat.lt_succ_self _) (by omega) (by exact Or.inl ⟨rfl, rfl, rfl⟩) H _ _ hP hD hS (lv_sub hl [5, 6, 4, 3, 2, 1, 0] rfl)
  exact KH s.heap [] hP hD hS
abbrev rmX8_ifReplaced_1 : Room := { frames := 7, cells := 2, slots := 12, locals := 121 }
set_option maxHeartbeats 4000000 in
set_option maxRecDepth 100000 in
theorem mX8_ifReplaced_1 (l : Launch) (hl0 : l.stackTraces = false) (G : GG) (x : Nat) (st : Nat) (sv : Nat) (bu : Nat) (di : Nat) (se : Nat) (wy : Nat) (ta : Nat) (tt : Nat) (rp : Nat) (t0 : Nat) (t1 : Nat) (al : Int) (a0 : Nat) (n0 : Int) (g0 : Int → Int) (a1 : Nat) (n1 : Int) (g1 : Int → Int) (q : Nat) (q2 : Nat) (ct : Nat) (ot : Nat) (b : Nat) (h : Int → Int) (b2 : Nat) (h2 : Int → Int) (ca : Nat) (cn : Int) (cg : Int → Int) (oa : Nat) (on : Int) (og : Int → Int) (z : Int) (i : Int) (v : Int) (hn0 : 0 ≤ n0 ∧ n0 ≤ 20) (hn1 : 0 ≤ n1 ∧ n1 ≤ 20) (hg0 : ∀ j : Int, 0 ≤ j → j < n0 → 0 ≤ g0 j ∧ g0 j < 4) (hg1 : ∀ j : Int, 0 ≤ j → j < n1 → 0 ≤ g1 j ∧ g1 j < 4) (hal : 2 ≤ al ∧ al ≤ 4) (hz : z = 1) (hi : jr i) (hv : jr v) : Xt l yX8_ifReplaced cX8_ifReplaced 6 (some .int) rmX8_ifReplaced_1 G [.ref x, .int (jz z), .int (jz i), .int (jz v)] [bBD G x st sv bu di se wy ta tt rp, bState G st t0 t1 al, bText G t0 a0 n0 g0, bText G t1 a1 n1 g1, bRep G rp q q2 ct ot, bGrid G q b h, bGrid G q2 b2 h2, bText G ct ca cn cg, bText G ot oa on og] (fun uo : (Int → Int) × (Int → Int) × (Int → Int) × (Int → Int) => some (.int (jz (D 1 (up g1 i v) g0 n1 n0)))) (fun uo => ((0 ≤ i ∧ i < n1) ∧ (0 ≤ v ∧ v < al))) (fun uo => [bBD G x st sv bu di se wy ta tt rp, bState G st t0 t1 al, bText G t0 a0 n0 g0, bText G t1 a1 n1 g1, bRep G rp q q2 ct ot, bGrid G q b uo.1, bGrid G q2 b2 uo.2.1, bText G ct ca n1 uo.2.2.1, bText G ot oa n0 uo.2.2.2]) (fun E => (E = "java/lang/IndexOutOfBoundsException" ∧ ¬ (0 ≤ i ∧ i < n1)) ∨ (E = "java/lang/IllegalArgumentException" ∧ (0 ≤ i ∧ i < n1) ∧ ¬ (0 ≤ v ∧ v < al))) := by
  refine xof (by decide) (Nat.le_of_ble_eq_true rfl) ?_
  intro p e s m args below meth c A ls hx hb hr hml hown hts hlocks hin hA hK hP hD hS hl hX hout Q hQ
  have hown : s.vm.findClass RX8 = some m.cls := hown
  have hl : lv_has ls 6 [(0, .ref x), (1, .int (jz z)), (2, .int (jz i)), (3, .int (jz v))] := hl
  have KH : ∀ (H : Heap) (locs : List Loc), wP G [bBD G x st sv bu di se wy ta tt rp, bState G st t0 t1 al, bText G t0 a0 n0 g0, bText G t1 a1 n1 g1, bRep G rp q q2 ct ot, bGrid G q b h, bGrid G q2 b2 h2, bText G ct ca cn cg, bText G ot oa on og] H → wD A [bBD G x st sv bu di se wy ta tt rp, bState G st t0 t1 al, bText G t0 a0 n0 g0, bText G t1 a1 n1 g1, bRep G rp q q2 ct ot, bGrid G q b h, bGrid G q2 b2 h2, bText G ct ca cn cg, bText G ot oa on og] → va_S A s.heap H locs → W p l e rmX8_ifReplaced_1 s m args below meth c H locs 0 0 Q (F0 m 0 ls []) := by
    intro H locs hP hD hS
    refine lv_aload_n hx hb dX8_ifReplaced_0 rfl (lv_at hl 0 rfl) ?_
    refine lv_iload_n hx hb dX8_ifReplaced_1 rfl (lv_at hl 1 rfl) ?_
    refine kV ⟨hx, hb, hml, hown, hts⟩ hK hA hS hP hD [.int (jz z)] [] (mX8_textOf_1 l G x st sv bu di se wy ta tt rp t0 t1 al z (by omega)) lkX8_100 [0, 1] [2, 3, 4, 5, 6, 7, 8] (br := [bText G t0 a0 n0 g0, bText G t1 a1 n1 g1, bRep G rp q q2 ct ot, bGrid G q b h, bGrid G q2 b2 h2, bText G ct ca cn cg, bText G ot oa on og]) rfl rfl (by decide) 0 8 rfl rfl rfl rfl (Nat.le_of_ble_eq_true rfl) hl.1 dX8_ifReplaced_2 ⟨Nat.le_of_ble_eq_true rfl, Nat.le_of_ble_eq_true rfl⟩ ⟨Nat.le_of_ble_eq_true rfl, Nat.le_of_ble_eq_true rfl⟩ (fun u9 H locs hp9 hP hD hS => ?_)
    have hP : wP G [bText G t0 a0 n0 g0, bText G t1 a1 n1 g1, bRep G rp q q2 ct ot, bGrid G q b h, bGrid G q2 b2 h2, bText G ct ca cn cg, bText G ot oa on og, bBD G x st sv bu di se wy ta tt rp, bState G st t0 t1 al] H := hP
    have hD : wD A [bText G t0 a0 n0 g0, bText G t1 a1 n1 g1, bRep G rp q q2 ct ot, bGrid G q b h, bGrid G q2 b2 h2, bText G ct ca cn cg, bText G ot oa on og, bBD G x st sv bu di se wy ta tt rp, bState G st t0 t1 al] := hD
    show W p l e rmX8_ifReplaced_1 s m args below meth c H locs 0 0 Q (F0 m 5 ls [.ref t1])
    refine lv_astore (lv' := [(4, .ref t1), (0, .ref x), (1, .int (jz z)), (2, .int (jz i)), (3, .int (jz v))]) hx hb dX8_ifReplaced_5 hl (by decide) rfl (fun ls hl => ?_)
    refine lv_aload hx hb dX8_ifReplaced_7 (lv_at hl 0 rfl) ?_
    refine lv_iload_n hx hb dX8_ifReplaced_9 rfl (lv_at hl 3 rfl) ?_
    refine xkS ⟨hx, hb, hml, hown, hts⟩ hK hA hS hP hD [.ref t1, .int (jz i)] [] (mX8_checkPlace l hl0 G t1 a1 n1 g1 i (by omega) (by omega)) lkX8_121 [1] [0, 2, 3, 4, 5, 6, 7, 8] (br := [bText G t0 a0 n0 g0, bRep G rp q q2 ct ot, bGrid G q b h, bGrid G q2 b2 h2, bText G ct ca cn cg, bText G ot oa on og, bBD G x st sv bu di se wy ta tt rp, bState G st t0 t1 al]) rfl rfl (by decide) rfl rfl (Nat.le_of_ble_eq_true rfl) hl.1 dX8_ifReplaced_10 ⟨Nat.le_of_ble_eq_true rfl, Nat.le_of_ble_eq_true rfl⟩ ⟨Nat.le_of_ble_eq_true rfl, Nat.le_of_ble_eq_true rfl⟩ hX (fun E ce q9 H locs hE hP hD hS hce hcv hcl => xout hout hlocks hce hcv hcl hS hP hD [6, 7, 0, 8, 1, 2, 3, 4, 5] (by decide) rfl (by exact Or.inl hE) (Nat.le_of_ble_eq_true rfl) (Nat.le_of_ble_eq_true rfl) hQ) (fun u9 H locs hp9 hP hD hS => ?_)
    have hc_3 : 0 ≤ i ∧ i < n1 := hp9
    have hP : wP G [bText G t0 a0 n0 g0, bRep G rp q q2 ct ot, bGrid G q b h, bGrid G q2 b2 h2, bText G ct ca cn cg, bText G ot oa on og, bBD G x st sv bu di se wy ta tt rp, bState G st t0 t1 al, bText G t1 a1 n1 g1] H := hP
    have hD : wD A [bText G t0 a0 n0 g0, bRep G rp q q2 ct ot, bGrid G q b h, bGrid G q2 b2 h2, bText G ct ca cn cg, bText G ot oa on og, bBD G x st sv bu di se wy ta tt rp, bState G st t0 t1 al, bText G t1 a1 n1 g1] := hD
    show W p l e rmX8_ifReplaced_1 s m args below meth c H locs 1 6 Q (F0 m 13 ls [])
    have hc1 := hc_3
    refine lv_aload_n hx hb dX8_ifReplaced_13 rfl (lv_at hl 1 rfl) ?_
    refine lv_iload_n hx hb dX8_ifReplaced_14 rfl (lv_at hl 4 rfl) ?_
    refine xkV ⟨hx, hb, hml, hown, hts⟩ hK hA hS hP hD [.int (jz v)] [] (mX8_checkLetter l hl0 G x st sv bu di se wy ta tt rp t0 t1 al v (by omega) (by omega)) lkX8_108 [6, 7] [0, 1, 2, 3, 4, 5, 8] (br := [bText G t0 a0 n0 g0, bRep G rp q q2 ct ot, bGrid G q b h, bGrid G q2 b2 h2, bText G ct ca cn cg, bText G ot oa on og, bText G t1 a1 n1 g1]) rfl rfl (by decide) 0 8 rfl rfl rfl rfl (Nat.le_of_ble_eq_true rfl) hl.1 dX8_ifReplaced_15 ⟨Nat.le_of_ble_eq_true rfl, Nat.le_of_ble_eq_true rfl⟩ ⟨Nat.le_of_ble_eq_true rfl, Nat.le_of_ble_eq_true rfl⟩ hX (fun E ce q9 H locs hE hP hD hS hce hcv hcl => xout hout hlocks hce hcv hcl hS hP hD [7, 8, 0, 6, 1, 2, 3, 4, 5] (by decide) rfl (by exact Or.inr ⟨hE.1, by omega, hE.2⟩) (Nat.le_of_ble_eq_true rfl) (Nat.le_of_ble_eq_true rfl) hQ) (fun u9 H locs hp9 hP hD hS => ?_)
    have hc_5 : 0 ≤ v ∧ v < al := hp9
    have hP : wP G [bText G t0 a0 n0 g0, bRep G rp q q2 ct ot, bGrid G q b h, bGrid G q2 b2 h2, bText G ct ca cn cg, bText G ot oa on og, bText G t1 a1 n1 g1, bBD G x st sv bu di se wy ta tt rp, bState G st t0 t1 al] H := hP
    have hD : wD A [bText G t0 a0 n0 g0, bRep G rp q q2 ct ot, bGrid G q b h, bGrid G q2 b2 h2, bText G ct ca cn cg, bText G ot oa on og, bText G t1 a1 n1 g1, bBD G x st sv bu di se wy ta tt rp, bState G st t0 t1 al] := hD
    show W p l e rmX8_ifReplaced_1 s m args below meth c H locs 2 12 Q (F0 m 18 ls [])
    have hc2 := hc_5
    refine lv_aload_n hx hb dX8_ifReplaced_18 rfl (lv_at hl 1 rfl) ?_
    refine jv_iconst hx hb dX8_ifReplaced_19 ?_
    refine lv_iload_n hx hb dX8_ifReplaced_20 rfl (lv_at hl 2 rfl) ?_
    refine jv_isub hx hb dX8_ifReplaced_21 ?_
    refine kV ⟨hx, hb, hml, hown, hts⟩ hK hA hS hP hD [.int (jz (1 - z))] [] (mX8_textOf_0 l G x st sv bu di se wy ta tt rp t0 t1 al (1 - z) (by omega)) lkX8_100 [7, 8] [0, 1, 2, 3, 4, 5, 6] (br := [bText G t0 a0 n0 g0, bRep G rp q q2 ct ot, bGrid G q b h, bGrid G q2 b2 h2, bText G ct ca cn cg, bText G ot oa on og, bText G t1 a1 n1 g1]) rfl rfl (by decide) 0 8 rfl rfl rfl rfl (Nat.le_of_ble_eq_true rfl) hl.1 dX8_ifReplaced_22 ⟨Nat.le_of_ble_eq_true rfl, Nat.le_of_ble_eq_true rfl⟩ ⟨Nat.le_of_ble_eq_true rfl, Nat.le_of_ble_eq_true rfl⟩ (fun u9 H locs hp9 hP hD hS => ?_)
    have hP : wP G [bText G t0 a0 n0 g0, bRep G rp q q2 ct ot, bGrid G q b h, bGrid G q2 b2 h2, bText G ct ca cn cg, bText G ot oa on og, bText G t1 a1 n1 g1, bBD G x st sv bu di se wy ta tt rp, bState G st t0 t1 al] H := hP
    have hD : wD A [bText G t0 a0 n0 g0, bRep G rp q q2 ct ot, bGrid G q b h, bGrid G q2 b2 h2, bText G ct ca cn cg, bText G ot oa on og, bText G t1 a1 n1 g1, bBD G x st sv bu di se wy ta tt rp, bState G st t0 t1 al] := hD
    show W p l e rmX8_ifReplaced_1 s m args below meth c H locs 2 12 Q (F0 m 25 ls [.ref t0])
    refine lv_astore (lv' := [(5, .ref t0), (4, .ref t1), (0, .ref x), (1, .int (jz z)), (2, .int (jz i)), (3, .int (jz v))]) hx hb dX8_ifReplaced_25 hl (by decide) rfl (fun ls hl => ?_)
    refine lv_aload_n hx hb dX8_ifReplaced_27 rfl (lv_at hl 2 rfl) ?_
    refine va_get (ci := 8) (v := .ref rp) (C := RX8) (T := TX8) (N := 9) hx hb hts wfX8 hown hK.1 hP 13 rfl rfl 8 (by decide) (hts _ wm174) (fun _ h9 => h9) rfl dX8_ifReplaced_28 ?_
    refine lv_aload hx hb dX8_ifReplaced_31 (lv_at hl 1 rfl) ?_
    refine lv_aload hx hb dX8_ifReplaced_33 (lv_at hl 0 rfl) ?_
    refine kV ⟨hx, hb, hml, hown, hts⟩ hK hA hS hP hD [.ref t1, .ref t0] [] (mX3_prepare l G rp q q2 ct ot b h b2 h2 ca cn cg oa on og t1 a1 n1 g1 t0 a0 n0 g0 (by omega) (by omega) (by exact hg1) (by exact hg0)) lkX8_214 [1, 2, 3, 4, 5, 6, 0] [7, 8] (br := [bBD G x st sv bu di se wy ta tt rp, bState G st t0 t1 al]) rfl rfl (by decide) 0 3 rfl rfl rfl rfl (Nat.le_of_ble_eq_true rfl) hl.1 dX8_ifReplaced_35 ⟨Nat.le_of_ble_eq_true rfl, Nat.le_of_ble_eq_true rfl⟩ ⟨Nat.le_of_ble_eq_true rfl, Nat.le_of_ble_eq_true rfl⟩ (fun u9 H locs hp9 hP hD hS => ?_)
    obtain ⟨u_7, u_8, u_9, u_10⟩ := u9
    have hc_11 : ∀ x y : Int, 0 ≤ x → x ≤ n1 → 0 ≤ y → y ≤ n0 → u_7 (x * 21 + y) = D 1 g1 g0 x y := hp9.1
    have hd_12 : ∀ x y : Int, 0 ≤ x → x ≤ n1 → 0 ≤ y → y ≤ n0 → u_8 (x * 21 + y) = D 1 (rv g1 n1) (rv g0 n0) x y := hp9.2
    have hP : wP G [bBD G x st sv bu di se wy ta tt rp, bState G st t0 t1 al, bRep G rp q q2 ct ot, bGrid G q b u_7, bGrid G q2 b2 u_8, bText G ct ca n1 u_9, bText G ot oa n0 u_10, bText G t1 a1 n1 g1, bText G t0 a0 n0 g0] H := hP
    have hD : wD A [bBD G x st sv bu di se wy ta tt rp, bState G st t0 t1 al, bRep G rp q q2 ct ot, bGrid G q b u_7, bGrid G q2 b2 u_8, bText G ct ca n1 u_9, bText G ot oa n0 u_10, bText G t1 a1 n1 g1, bText G t0 a0 n0 g0] := hD
    show W p l e rmX8_ifReplaced_1 s m args below meth c H locs 2 12 Q (F0 m 38 ls [])
    have hp1 := hc_11
    have hp2 := hd_12
    refine lv_aload_n hx hb dX8_ifReplaced_38 rfl (lv_at hl 2 rfl) ?_
    refine va_get (ci := 8) (v := .ref rp) (C := RX8) (T := TX8) (N := 9) hx hb hts wfX8 hown hK.1 hP 0 rfl rfl 8 (by decide) (hts _ wm174) (fun _ h9 => h9) rfl dX8_ifReplaced_39 ?_
    refine lv_aload hx hb dX8_ifReplaced_42 (lv_at hl 1 rfl) ?_
    refine lv_aload hx hb dX8_ifReplaced_44 (lv_at hl 0 rfl) ?_
    refine lv_iload_n hx hb dX8_ifReplaced_46 rfl (lv_at hl 4 rfl) ?_
    refine lv_iload_n hx hb dX8_ifReplaced_47 rfl (lv_at hl 5 rfl) ?_
    refine kV ⟨hx, hb, hml, hown, hts⟩ hK hA hS hP hD [.ref t1, .ref t0, .int (jz i), .int (jz v)] [] (mX3_distanceWith l G rp q q2 ct ot b u_7 b2 u_8 t1 a1 n1 g1 t0 a0 n0 g0 i v (by omega) (by omega) (by exact hg1) (by exact hg0) (by omega) (by omega) (by exact hp1) (by exact hp2)) lkX8_217 [2, 3, 4, 7, 8] [0, 1, 5, 6] (br := [bBD G x st sv bu di se wy ta tt rp, bState G st t0 t1 al, bText G ct ca n1 u_9, bText G ot oa n0 u_10]) rfl rfl (by decide) 0 3 rfl rfl rfl rfl (Nat.le_of_ble_eq_true rfl) hl.1 dX8_ifReplaced_48 ⟨Nat.le_of_ble_eq_true rfl, Nat.le_of_ble_eq_true rfl⟩ ⟨Nat.le_of_ble_eq_true rfl, Nat.le_of_ble_eq_true rfl⟩ (fun u9 H locs hp9 hP hD hS => ?_)
    have hP : wP G [bBD G x st sv bu di se wy ta tt rp, bState G st t0 t1 al, bText G ct ca n1 u_9, bText G ot oa n0 u_10, bRep G rp q q2 ct ot, bGrid G q b u_7, bGrid G q2 b2 u_8, bText G t1 a1 n1 g1, bText G t0 a0 n0 g0] H := hP
    have hD : wD A [bBD G x st sv bu di se wy ta tt rp, bState G st t0 t1 al, bText G ct ca n1 u_9, bText G ot oa n0 u_10, bRep G rp q q2 ct ot, bGrid G q b u_7, bGrid G q2 b2 u_8, bText G t1 a1 n1 g1, bText G t0 a0 n0 g0] := hD
    show W p l e rmX8_ifReplaced_1 s m args below meth c H locs 2 12 Q (F0 m 51 ls [.int (jz (D 1 (up g1 i v) g0 n1 n0))])
    rw [hQ]
    exact vx_ret (cret_i hx hb hr hlocks hS hP hD (Nat.le_of_ble_eq_true rfl) (Nat.le_of_ble_eq_true rfl) rfl dX8_ifReplaced_51 [0, 1, 8, 7, 4, 5, 6, 2, 3] (by decide) ⟨u_7, u_8, u_9, u_10⟩ rfl (show (0 ≤ i ∧ i < n1) ∧ (0 ≤ v ∧ v < al) from by omega) (congrArg (fun z : Int => some (Value.int (jz z))) (show (D 1 (up g1 i v) g0 n1 n0) = D 1 (up g1 i v) g0 n1 n0 from by first | rfl | omega | (split <;> first | rfl | omega | (exfalso; omega)))) rfl)
  exact KH s.heap [] hP hD hS
abbrev rmX8_bestReplacement_1 : Room := { frames := 4, cells := 0, slots := 0, locals := 92 }
set_option maxHeartbeats 4000000 in
set_option maxRecDepth 100000 in
theorem mX8_bestReplacement_1 (l : Launch) (G : GG) (x : Nat) (st : Nat) (sv : Nat) (bu : Nat) (di : Nat) (se : Nat) (wy : Nat) (ta : Nat) (tt : Nat) (rp : Nat) (t0 : Nat) (t1 : Nat) (al : Int) (a0 : Nat) (n0 : Int) (g0 : Int → Int) (a1 : Nat) (n1 : Int) (g1 : Int → Int) (q : Nat) (q2 : Nat) (ct : Nat) (ot : Nat) (b : Nat) (h : Int → Int) (b2 : Nat) (h2 : Int → Int) (ca : Nat) (cn : Int) (cg : Int → Int) (oa : Nat) (on : Int) (og : Int → Int) (z : Int) (hn0 : 0 ≤ n0 ∧ n0 ≤ 20) (hn1 : 0 ≤ n1 ∧ n1 ≤ 20) (hg0 : ∀ j : Int, 0 ≤ j → j < n0 → 0 ≤ g0 j ∧ g0 j < 4) (hg1 : ∀ j : Int, 0 ≤ j → j < n1 → 0 ≤ g1 j ∧ g1 j < 4) (hal : 2 ≤ al ∧ al ≤ 4) (hz : z = 1) : Ct l yX8_bestReplacement cX8_bestReplacement 9 (some .int) rmX8_bestReplacement_1 G [.ref x, .int (jz z)] [bBD G x st sv bu di se wy ta tt rp, bState G st t0 t1 al, bText G t0 a0 n0 g0, bText G t1 a1 n1 g1, bRep G rp q q2 ct ot, bGrid G q b h, bGrid G q2 b2 h2, bText G ct ca cn cg, bText G ot oa on og] (fun uo : (Int → Int) × (Int → Int) × (Int → Int) × (Int → Int) => some (.int (jz (bst0 al n1 n0 g1 g0)))) (fun uo => True) (fun uo => [bBD G x st sv bu di se wy ta tt rp, bState G st t0 t1 al, bText G t0 a0 n0 g0, bText G t1 a1 n1 g1, bRep G rp q q2 ct ot, bGrid G q b uo.1, bGrid G q2 b2 uo.2.1, bText G ct ca n1 uo.2.2.1, bText G ot oa n0 uo.2.2.2]) := by
  refine cof (by decide) (Nat.le_of_ble_eq_true rfl) ?_
  intro p e s m args below meth c A ls hx hb hr hml hown hts hlocks hin hA hK hP hD hS hl Q hQ
  have hown : s.vm.findClass RX8 = some m.cls := hown
  have hl : lv_has ls 9 [(0, .ref x), (1, .int (jz z))] := hl
  have KH : ∀ (H : Heap) (locs : List Loc), wP G [bBD G x st sv bu di se wy ta tt rp, bState G st t0 t1 al, bText G t0 a0 n0 g0, bText G t1 a1 n1 g1, bRep G rp q q2 ct ot, bGrid G q b h, bGrid G q2 b2 h2, bText G ct ca cn cg, bText G ot oa on og] H → wD A [bBD G x st sv bu di se wy ta tt rp, bState G st t0 t1 al, bText G t0 a0 n0 g0, bText G t1 a1 n1 g1, bRep G rp q q2 ct ot, bGrid G q b h, bGrid G q2 b2 h2, bText G ct ca cn cg, bText G ot oa on og] → va_S A s.heap H locs → W p l e rmX8_bestReplacement_1 s m args below meth c H locs 0 0 Q (F0 m 0 ls []) := by
    intro H locs hP hD hS
    refine lv_aload_n hx hb dX8_bestReplacement_0 rfl (lv_at hl 0 rfl) ?_
    refine lv_iload_n hx hb dX8_bestReplacement_1 rfl (lv_at hl 1 rfl) ?_
    refine kV ⟨hx, hb, hml, hown, hts⟩ hK hA hS hP hD [.int (jz z)] [] (mX8_textOf_1 l G x st sv bu di se wy ta tt rp t0 t1 al z (by omega)) lkX8_100 [0, 1] [2, 3, 4, 5, 6, 7, 8] (br := [bText G t0 a0 n0 g0, bText G t1 a1 n1 g1, bRep G rp q q2 ct ot, bGrid G q b h, bGrid G q2 b2 h2, bText G ct ca cn cg, bText G ot oa on og]) rfl rfl (by decide) 0 8 rfl rfl rfl rfl (Nat.le_of_ble_eq_true rfl) hl.1 dX8_bestReplacement_2 ⟨Nat.le_of_ble_eq_true rfl, Nat.le_of_ble_eq_true rfl⟩ ⟨Nat.le_of_ble_eq_true rfl, Nat.le_of_ble_eq_true rfl⟩ (fun u9 H locs hp9 hP hD hS => ?_)
    have hP : wP G [bText G t0 a0 n0 g0, bText G t1 a1 n1 g1, bRep G rp q q2 ct ot, bGrid G q b h, bGrid G q2 b2 h2, bText G ct ca cn cg, bText G ot oa on og, bBD G x st sv bu di se wy ta tt rp, bState G st t0 t1 al] H := hP
    have hD : wD A [bText G t0 a0 n0 g0, bText G t1 a1 n1 g1, bRep G rp q q2 ct ot, bGrid G q b h, bGrid G q2 b2 h2, bText G ct ca cn cg, bText G ot oa on og, bBD G x st sv bu di se wy ta tt rp, bState G st t0 t1 al] := hD
    show W p l e rmX8_bestReplacement_1 s m args below meth c H locs 0 0 Q (F0 m 5 ls [.ref t1])
    refine lv_astore_n (lv' := [(2, .ref t1), (0, .ref x), (1, .int (jz z))]) hx hb dX8_bestReplacement_5 rfl hl (by decide) rfl (fun ls hl => ?_)
    refine lv_aload_n hx hb dX8_bestReplacement_6 rfl (lv_at hl 1 rfl) ?_
    refine jv_iconst hx hb dX8_bestReplacement_7 ?_
    refine lv_iload_n hx hb dX8_bestReplacement_8 rfl (lv_at hl 2 rfl) ?_
    refine jv_isub hx hb dX8_bestReplacement_9 ?_
    refine kV ⟨hx, hb, hml, hown, hts⟩ hK hA hS hP hD [.int (jz (1 - z))] [] (mX8_textOf_0 l G x st sv bu di se wy ta tt rp t0 t1 al (1 - z) (by omega)) lkX8_100 [7, 8] [0, 1, 2, 3, 4, 5, 6] (br := [bText G t0 a0 n0 g0, bText G t1 a1 n1 g1, bRep G rp q q2 ct ot, bGrid G q b h, bGrid G q2 b2 h2, bText G ct ca cn cg, bText G ot oa on og]) rfl rfl (by decide) 0 8 rfl rfl rfl rfl (Nat.le_of_ble_eq_true rfl) hl.1 dX8_bestReplacement_10 ⟨Nat.le_of_ble_eq_true rfl, Nat.le_of_ble_eq_true rfl⟩ ⟨Nat.le_of_ble_eq_true rfl, Nat.le_of_ble_eq_true rfl⟩ (fun u9 H locs hp9 hP hD hS => ?_)
    have hP : wP G [bText G t0 a0 n0 g0, bText G t1 a1 n1 g1, bRep G rp q q2 ct ot, bGrid G q b h, bGrid G q2 b2 h2, bText G ct ca cn cg, bText G ot oa on og, bBD G x st sv bu di se wy ta tt rp, bState G st t0 t1 al] H := hP
    have hD : wD A [bText G t0 a0 n0 g0, bText G t1 a1 n1 g1, bRep G rp q q2 ct ot, bGrid G q b h, bGrid G q2 b2 h2, bText G ct ca cn cg, bText G ot oa on og, bBD G x st sv bu di se wy ta tt rp, bState G st t0 t1 al] := hD
    show W p l e rmX8_bestReplacement_1 s m args below meth c H locs 0 0 Q (F0 m 13 ls [.ref t0])
    refine lv_astore_n (lv' := [(3, .ref t0), (2, .ref t1), (0, .ref x), (1, .int (jz z))]) hx hb dX8_bestReplacement_13 rfl hl (by decide) rfl (fun ls hl => ?_)
    refine lv_aload_n hx hb dX8_bestReplacement_14 rfl (lv_at hl 2 rfl) ?_
    refine va_get (ci := 8) (v := .ref rp) (C := RX8) (T := TX8) (N := 9) hx hb hts wfX8 hown hK.1 hP 13 rfl rfl 8 (by decide) (hts _ wm174) (fun _ h9 => h9) rfl dX8_bestReplacement_15 ?_
    refine lv_aload_n hx hb dX8_bestReplacement_18 rfl (lv_at hl 1 rfl) ?_
    refine lv_aload_n hx hb dX8_bestReplacement_19 rfl (lv_at hl 0 rfl) ?_
    refine kV ⟨hx, hb, hml, hown, hts⟩ hK hA hS hP hD [.ref t1, .ref t0] [] (mX3_prepare l G rp q q2 ct ot b h b2 h2 ca cn cg oa on og t1 a1 n1 g1 t0 a0 n0 g0 (by omega) (by omega) (by exact hg1) (by exact hg0)) lkX8_214 [2, 3, 4, 5, 6, 1, 0] [7, 8] (br := [bBD G x st sv bu di se wy ta tt rp, bState G st t0 t1 al]) rfl rfl (by decide) 0 3 rfl rfl rfl rfl (Nat.le_of_ble_eq_true rfl) hl.1 dX8_bestReplacement_20 ⟨Nat.le_of_ble_eq_true rfl, Nat.le_of_ble_eq_true rfl⟩ ⟨Nat.le_of_ble_eq_true rfl, Nat.le_of_ble_eq_true rfl⟩ (fun u9 H locs hp9 hP hD hS => ?_)
    obtain ⟨u_3, u_4, u_5, u_6⟩ := u9
    have hc_7 : ∀ x y : Int, 0 ≤ x → x ≤ n1 → 0 ≤ y → y ≤ n0 → u_3 (x * 21 + y) = D 1 g1 g0 x y := hp9.1
    have hd_8 : ∀ x y : Int, 0 ≤ x → x ≤ n1 → 0 ≤ y → y ≤ n0 → u_4 (x * 21 + y) = D 1 (rv g1 n1) (rv g0 n0) x y := hp9.2
    have hP : wP G [bBD G x st sv bu di se wy ta tt rp, bState G st t0 t1 al, bRep G rp q q2 ct ot, bGrid G q b u_3, bGrid G q2 b2 u_4, bText G ct ca n1 u_5, bText G ot oa n0 u_6, bText G t1 a1 n1 g1, bText G t0 a0 n0 g0] H := hP
    have hD : wD A [bBD G x st sv bu di se wy ta tt rp, bState G st t0 t1 al, bRep G rp q q2 ct ot, bGrid G q b u_3, bGrid G q2 b2 u_4, bText G ct ca n1 u_5, bText G ot oa n0 u_6, bText G t1 a1 n1 g1, bText G t0 a0 n0 g0] := hD
    show W p l e rmX8_bestReplacement_1 s m args below meth c H locs 0 0 Q (F0 m 23 ls [])
    have hp1 := hc_7
    have hp2 := hd_8
    refine jv_iconst hx hb dX8_bestReplacement_23 ?_
    refine lv_istore (lv' := [(4, .int (jz ((-1)))), (3, .ref t0), (2, .ref t1), (0, .ref x), (1, .int (jz z))]) hx hb dX8_bestReplacement_24 hl (by decide) rfl (fun ls hl => ?_)
    refine jv_bipush hx hb dX8_bestReplacement_26 (by decide) ?_
    refine lv_istore (lv' := [(5, .int (jz 21)), (4, .int (jz ((-1)))), (3, .ref t0), (2, .ref t1), (0, .ref x), (1, .int (jz z))]) hx hb dX8_bestReplacement_28 hl (by decide) rfl (fun ls hl => ?_)
    refine jv_iconst hx hb dX8_bestReplacement_30 ?_
    refine lv_istore (lv' := [(6, .int (jz 0)), (5, .int (jz 21)), (4, .int (jz ((-1)))), (3, .ref t0), (2, .ref t1), (0, .ref x), (1, .int (jz z))]) hx hb dX8_bestReplacement_31 hl (by decide) rfl (fun ls hl => ?_)
    have K33 : ∀ (n9 : Nat) (bst : Int) (lst : Int) (ix : Int) , ((n1 - ix).toNat) < n9 → (0 ≤ ix ∧ ix ≤ n1) → (bRel bst lst (bAll (fun i v => D 1 (up g1 i v) g0 n1 n0) al ix.toNat)) → ∀ (H : Heap) (locs : List Loc) (ls : Array Slot), wP G [bBD G x st sv bu di se wy ta tt rp, bState G st t0 t1 al, bRep G rp q q2 ct ot, bGrid G q b u_3, bGrid G q2 b2 u_4, bText G ct ca n1 u_5, bText G ot oa n0 u_6, bText G t1 a1 n1 g1, bText G t0 a0 n0 g0] H → wD A [bBD G x st sv bu di se wy ta tt rp, bState G st t0 t1 al, bRep G rp q q2 ct ot, bGrid G q b u_3, bGrid G q2 b2 u_4, bText G ct ca n1 u_5, bText G ot oa n0 u_6, bText G t1 a1 n1 g1, bText G t0 a0 n0 g0] → va_S A s.heap H locs → lv_has ls 9 [(0, .ref x), (1, .int (jz z)), (2, .ref t1), (3, .ref t0), (4, .int (jz bst)), (5, .int (jz lst)), (6, .int (jz ix))] → W p l e rmX8_bestReplacement_1 s m args below meth c H locs 0 0 Q (F0 m 33 ls []) := by
      intro n9
      induction n9 with
      | zero => intro bst lst ix hm9; exact absurd hm9 (Nat.not_lt_zero _)
      | succ n9 ih33 =>
        intro bst lst ix hm9 hix hb9 H locs ls hP hD hS hl
        have hbb := bRel_bd hb9
        refine lv_iload hx hb dX8_bestReplacement_33 (lv_at hl 6 rfl) ?_
        refine lv_aload_n hx hb dX8_bestReplacement_35 rfl (lv_at hl 2 rfl) ?_
        refine kV ⟨hx, hb, hml, hown, hts⟩ hK hA hS hP hD [] [.int (jz ix)] (mX6_size l G t1 a1 n1 g1 ) lkX8_95 [7] [0, 1, 2, 3, 4, 5, 6, 8] (br := [bBD G x st sv bu di se wy ta tt rp, bState G st t0 t1 al, bRep G rp q q2 ct ot, bGrid G q b u_3, bGrid G q2 b2 u_4, bText G ct ca n1 u_5, bText G ot oa n0 u_6, bText G t0 a0 n0 g0]) rfl rfl (by decide) 0 6 rfl rfl rfl rfl (Nat.le_of_ble_eq_true rfl) hl.1 dX8_bestReplacement_36 ⟨Nat.le_of_ble_eq_true rfl, Nat.le_of_ble_eq_true rfl⟩ ⟨Nat.le_of_ble_eq_true rfl, Nat.le_of_ble_eq_true rfl⟩ (fun u9 H locs hp9 hP hD hS => ?_)
        have hP : wP G [bBD G x st sv bu di se wy ta tt rp, bState G st t0 t1 al, bRep G rp q q2 ct ot, bGrid G q b u_3, bGrid G q2 b2 u_4, bText G ct ca n1 u_5, bText G ot oa n0 u_6, bText G t0 a0 n0 g0, bText G t1 a1 n1 g1] H := hP
        have hD : wD A [bBD G x st sv bu di se wy ta tt rp, bState G st t0 t1 al, bRep G rp q q2 ct ot, bGrid G q b u_3, bGrid G q2 b2 u_4, bText G ct ca n1 u_5, bText G ot oa n0 u_6, bText G t0 a0 n0 g0, bText G t1 a1 n1 g1] := hD
        show W p l e rmX8_bestReplacement_1 s m args below meth c H locs 0 0 Q (F0 m 39 ls [.int (jz n1), .int (jz ix)])
        refine jv_icmp_ge (tgt := 105) hx hb dX8_bestReplacement_39 (by decide) (by omega) (by omega) (fun c_10 => ?_) (fun c_10 => ?_)
        · refine lv_iload hx hb dX8_bestReplacement_105 (lv_at hl 4 rfl) ?_
          exact cret_i hx hb hr hlocks hS hP hD (Nat.le_of_ble_eq_true rfl) (Nat.le_of_ble_eq_true rfl) rfl dX8_bestReplacement_107 [0, 1, 7, 8, 2, 3, 4, 5, 6] (by decide) ⟨u_3, u_4, u_5, u_6⟩ rfl trivial (congrArg (fun z : Int => some (Value.int (jz z))) (show bst = bst0 al n1 n0 g1 g0 from by unfold bst0 bestF; rw [show n1.toNat = ix.toNat by omega]; exact (bRel_1 hb9).symm)) hQ
        · refine jv_iconst hx hb dX8_bestReplacement_42 ?_
          refine lv_istore (lv' := [(7, .int (jz 0)), (0, .ref x), (1, .int (jz z)), (2, .ref t1), (3, .ref t0), (4, .int (jz bst)), (5, .int (jz lst)), (6, .int (jz ix))]) hx hb dX8_bestReplacement_43 hl (by decide) rfl (fun ls hl => ?_)
          have K45 : ∀ (n9 : Nat) (bst : Int) (lst : Int) (le : Int) , ((al - le).toNat) < n9 → (0 ≤ le ∧ le ≤ al) → (bRel bst lst (bLet (fun i v => D 1 (up g1 i v) g0 n1 n0) ix le.toNat (bAll (fun i v => D 1 (up g1 i v) g0 n1 n0) al ix.toNat))) → ∀ (H : Heap) (locs : List Loc) (ls : Array Slot), wP G [bBD G x st sv bu di se wy ta tt rp, bState G st t0 t1 al, bRep G rp q q2 ct ot, bGrid G q b u_3, bGrid G q2 b2 u_4, bText G ct ca n1 u_5, bText G ot oa n0 u_6, bText G t0 a0 n0 g0, bText G t1 a1 n1 g1] H → wD A [bBD G x st sv bu di se wy ta tt rp, bState G st t0 t1 al, bRep G rp q q2 ct ot, bGrid G q b u_3, bGrid G q2 b2 u_4, bText G ct ca n1 u_5, bText G ot oa n0 u_6, bText G t0 a0 n0 g0, bText G t1 a1 n1 g1] → va_S A s.heap H locs → lv_has ls 9 [(0, .ref x), (1, .int (jz z)), (2, .ref t1), (3, .ref t0), (4, .int (jz bst)), (5, .int (jz lst)), (6, .int (jz ix)), (7, .int (jz le))] → W p l e rmX8_bestReplacement_1 s m args below meth c H locs 0 0 Q (F0 m 45 ls []) := by
            intro n9
            induction n9 with
            | zero => intro bst lst le hm9; exact absurd hm9 (Nat.not_lt_zero _)
            | succ n9 ih45 =>
              intro bst lst le hm9 hle hb8 H locs ls hP hD hS hl
              have hbb8 := bRel_bd hb8
              refine lv_iload hx hb dX8_bestReplacement_45 (lv_at hl 7 rfl) ?_
              refine lv_aload_n hx hb dX8_bestReplacement_47 rfl (lv_at hl 0 rfl) ?_
              refine va_get (ci := 8) (v := .ref st) (C := RX8) (T := TX8) (N := 9) hx hb hts wfX8 hown hK.1 hP 0 rfl rfl 0 (by decide) (hts _ wm166) (fun _ h9 => h9) rfl dX8_bestReplacement_48 ?_
              refine kV ⟨hx, hb, hml, hown, hts⟩ hK hA hS hP hD [] [.int (jz le)] (mX5_alphabet l G st t0 t1 al ) lkX8_68 [1] [0, 2, 3, 4, 5, 6, 7, 8] (br := [bBD G x st sv bu di se wy ta tt rp, bRep G rp q q2 ct ot, bGrid G q b u_3, bGrid G q2 b2 u_4, bText G ct ca n1 u_5, bText G ot oa n0 u_6, bText G t0 a0 n0 g0, bText G t1 a1 n1 g1]) rfl rfl (by decide) 0 5 rfl rfl rfl rfl (Nat.le_of_ble_eq_true rfl) hl.1 dX8_bestReplacement_51 ⟨Nat.le_of_ble_eq_true rfl, Nat.le_of_ble_eq_true rfl⟩ ⟨Nat.le_of_ble_eq_true rfl, Nat.le_of_ble_eq_true rfl⟩ (fun u9 H locs hp9 hP hD hS => ?_)
              have hP : wP G [bBD G x st sv bu di se wy ta tt rp, bRep G rp q q2 ct ot, bGrid G q b u_3, bGrid G q2 b2 u_4, bText G ct ca n1 u_5, bText G ot oa n0 u_6, bText G t0 a0 n0 g0, bText G t1 a1 n1 g1, bState G st t0 t1 al] H := hP
              have hD : wD A [bBD G x st sv bu di se wy ta tt rp, bRep G rp q q2 ct ot, bGrid G q b u_3, bGrid G q2 b2 u_4, bText G ct ca n1 u_5, bText G ot oa n0 u_6, bText G t0 a0 n0 g0, bText G t1 a1 n1 g1, bState G st t0 t1 al] := hD
              show W p l e rmX8_bestReplacement_1 s m args below meth c H locs 0 0 Q (F0 m 54 ls [.int (jz al), .int (jz le)])
              refine jv_icmp_ge (tgt := 99) hx hb dX8_bestReplacement_54 (by decide) (by omega) (by omega) (fun c_12 => ?_) (fun c_12 => ?_)
              · refine jv_iinc (lv' := [(6, .int (jz (ix + 1))), (0, .ref x), (1, .int (jz z)), (2, .ref t1), (3, .ref t0), (4, .int (jz bst)), (5, .int (jz lst)), (7, .int (jz le))]) (k := 6) hx hb dX8_bestReplacement_99 hl rfl (by decide) rfl (fun ls hl => ?_)
                refine lv_goto (tgt := 33) hx hb dX8_bestReplacement_102 (by decide) ?_
                exact ih33 bst lst (ix + 1) (by omega) (by omega) (by rw [bAll_s _ _ (by omega), show al = le by omega]; rw [show al = le by omega] at hb8; exact hb8) H _ _ (wP_sub (bc := [bBD G x st sv bu di se wy ta tt rp, bState G st t0 t1 al, bRep G rp q q2 ct ot, bGrid G q b u_3, bGrid G q2 b2 u_4, bText G ct ca n1 u_5, bText G ot oa n0 u_6, bText G t1 a1 n1 g1, bText G t0 a0 n0 g0]) hP [0, 8, 1, 2, 3, 4, 5, 7, 6] rfl) (wD_sub (bc := [bBD G x st sv bu di se wy ta tt rp, bState G st t0 t1 al, bRep G rp q q2 ct ot, bGrid G q b u_3, bGrid G q2 b2 u_4, bText G ct ca n1 u_5, bText G ot oa n0 u_6, bText G t1 a1 n1 g1, bText G t0 a0 n0 g0]) hD [0, 8, 1, 2, 3, 4, 5, 7, 6] (by decide) rfl) hS (lv_sub hl [1, 2, 3, 4, 5, 6, 0] rfl)
              · refine lv_aload_n hx hb dX8_bestReplacement_57 rfl (lv_at hl 0 rfl) ?_
                refine va_get (ci := 8) (v := .ref rp) (C := RX8) (T := TX8) (N := 9) hx hb hts wfX8 hown hK.1 hP 0 rfl rfl 8 (by decide) (hts _ wm174) (fun _ h9 => h9) rfl dX8_bestReplacement_58 ?_
                refine lv_aload_n hx hb dX8_bestReplacement_61 rfl (lv_at hl 2 rfl) ?_
                refine lv_aload_n hx hb dX8_bestReplacement_62 rfl (lv_at hl 3 rfl) ?_
                refine lv_iload hx hb dX8_bestReplacement_63 (lv_at hl 6 rfl) ?_
                refine lv_iload hx hb dX8_bestReplacement_65 (lv_at hl 7 rfl) ?_
                refine kV ⟨hx, hb, hml, hown, hts⟩ hK hA hS hP hD [.ref t1, .ref t0, .int (jz ix), .int (jz le)] [] (mX3_distanceWith l G rp q q2 ct ot b u_3 b2 u_4 t1 a1 n1 g1 t0 a0 n0 g0 ix le (by omega) (by omega) (by exact hg1) (by exact hg0) (by omega) (by omega) (by exact hp1) (by exact hp2)) lkX8_217 [1, 2, 3, 7, 6] [0, 4, 5, 8] (br := [bBD G x st sv bu di se wy ta tt rp, bText G ct ca n1 u_5, bText G ot oa n0 u_6, bState G st t0 t1 al]) rfl rfl (by decide) 0 3 rfl rfl rfl rfl (Nat.le_of_ble_eq_true rfl) hl.1 dX8_bestReplacement_67 ⟨Nat.le_of_ble_eq_true rfl, Nat.le_of_ble_eq_true rfl⟩ ⟨Nat.le_of_ble_eq_true rfl, Nat.le_of_ble_eq_true rfl⟩ (fun u9 H locs hp9 hP hD hS => ?_)
                have hP : wP G [bBD G x st sv bu di se wy ta tt rp, bText G ct ca n1 u_5, bText G ot oa n0 u_6, bState G st t0 t1 al, bRep G rp q q2 ct ot, bGrid G q b u_3, bGrid G q2 b2 u_4, bText G t1 a1 n1 g1, bText G t0 a0 n0 g0] H := hP
                have hD : wD A [bBD G x st sv bu di se wy ta tt rp, bText G ct ca n1 u_5, bText G ot oa n0 u_6, bState G st t0 t1 al, bRep G rp q q2 ct ot, bGrid G q b u_3, bGrid G q2 b2 u_4, bText G t1 a1 n1 g1, bText G t0 a0 n0 g0] := hD
                show W p l e rmX8_bestReplacement_1 s m args below meth c H locs 0 0 Q (F0 m 70 ls [.int (jz (D 1 (up g1 ix le) g0 n1 n0))])
                have hdb := D_bd (c := 1) (Or.inr rfl) (up g1 ix le) g0 (i := n1) (j := n0) (by omega) (by omega)
                have hdm := D_max (up g1 ix le) g0 (i := n1) (j := n0) (by omega) (by omega)
                refine lv_istore (lv' := [(8, .int (jz (D 1 (up g1 ix le) g0 n1 n0))), (0, .ref x), (1, .int (jz z)), (2, .ref t1), (3, .ref t0), (4, .int (jz bst)), (5, .int (jz lst)), (6, .int (jz ix)), (7, .int (jz le))]) hx hb dX8_bestReplacement_70 hl (by decide) rfl (fun ls hl => ?_)
                refine lv_iload hx hb dX8_bestReplacement_72 (lv_at hl 0 rfl) ?_
                refine lv_iload hx hb dX8_bestReplacement_74 (lv_at hl 6 rfl) ?_
                refine jv_icmp_ge (tgt := 93) hx hb dX8_bestReplacement_76 (by decide) (by omega) (by omega) (fun c_14 => ?_) (fun c_14 => ?_)
                · refine jv_iinc (lv' := [(7, .int (jz (le + 1))), (8, .int (jz (D 1 (up g1 ix le) g0 n1 n0))), (0, .ref x), (1, .int (jz z)), (2, .ref t1), (3, .ref t0), (4, .int (jz bst)), (5, .int (jz lst)), (6, .int (jz ix))]) (k := 8) hx hb dX8_bestReplacement_93 hl rfl (by decide) rfl (fun ls hl => ?_)
                  refine lv_goto (tgt := 45) hx hb dX8_bestReplacement_96 (by decide) ?_
                  exact ih45 bst lst (le + 1) (by omega) (by omega) (by rw [bLet_s _ _ (by omega)]; exact bRel_no hb8 (by omega) (by omega)) H _ _ (wP_sub (bc := [bBD G x st sv bu di se wy ta tt rp, bState G st t0 t1 al, bRep G rp q q2 ct ot, bGrid G q b u_3, bGrid G q2 b2 u_4, bText G ct ca n1 u_5, bText G ot oa n0 u_6, bText G t0 a0 n0 g0, bText G t1 a1 n1 g1]) hP [0, 3, 4, 5, 6, 1, 2, 8, 7] rfl) (wD_sub (bc := [bBD G x st sv bu di se wy ta tt rp, bState G st t0 t1 al, bRep G rp q q2 ct ot, bGrid G q b u_3, bGrid G q2 b2 u_4, bText G ct ca n1 u_5, bText G ot oa n0 u_6, bText G t0 a0 n0 g0, bText G t1 a1 n1 g1]) hD [0, 3, 4, 5, 6, 1, 2, 8, 7] (by decide) rfl) hS (lv_sub hl [2, 3, 4, 5, 6, 7, 8, 0] rfl)
                · refine lv_iload hx hb dX8_bestReplacement_79 (lv_at hl 0 rfl) ?_
                  refine lv_istore (lv' := [(5, .int (jz (D 1 (up g1 ix le) g0 n1 n0))), (8, .int (jz (D 1 (up g1 ix le) g0 n1 n0))), (0, .ref x), (1, .int (jz z)), (2, .ref t1), (3, .ref t0), (4, .int (jz bst)), (6, .int (jz ix)), (7, .int (jz le))]) hx hb dX8_bestReplacement_81 hl (by decide) rfl (fun ls hl => ?_)
                  refine jv_bipush hx hb dX8_bestReplacement_83 (by decide) ?_
                  refine lv_iload hx hb dX8_bestReplacement_85 (lv_at hl 7 rfl) ?_
                  refine jv_imul hx hb dX8_bestReplacement_87 ?_
                  refine lv_iload hx hb dX8_bestReplacement_88 (lv_at hl 8 rfl) ?_
                  refine jv_iadd hx hb dX8_bestReplacement_90 ?_
                  refine lv_istore (lv' := [(4, .int (jz ((10 * ix) + le))), (5, .int (jz (D 1 (up g1 ix le) g0 n1 n0))), (8, .int (jz (D 1 (up g1 ix le) g0 n1 n0))), (0, .ref x), (1, .int (jz z)), (2, .ref t1), (3, .ref t0), (6, .int (jz ix)), (7, .int (jz le))]) hx hb dX8_bestReplacement_91 hl (by decide) rfl (fun ls hl => ?_)
                  refine jv_iinc (lv' := [(7, .int (jz (le + 1))), (4, .int (jz ((10 * ix) + le))), (5, .int (jz (D 1 (up g1 ix le) g0 n1 n0))), (8, .int (jz (D 1 (up g1 ix le) g0 n1 n0))), (0, .ref x), (1, .int (jz z)), (2, .ref t1), (3, .ref t0), (6, .int (jz ix))]) (k := 8) hx hb dX8_bestReplacement_93 hl rfl (by decide) rfl (fun ls hl => ?_)
                  refine lv_goto (tgt := 45) hx hb dX8_bestReplacement_96 (by decide) ?_
                  exact ih45 ((10 * ix) + le) (D 1 (up g1 ix le) g0 n1 n0) (le + 1) (by omega) (by omega) (by rw [bLet_s _ _ (by omega)]; exact bRel_up hb8 (by omega) (by omega) (by omega)) H _ _ (wP_sub (bc := [bBD G x st sv bu di se wy ta tt rp, bState G st t0 t1 al, bRep G rp q q2 ct ot, bGrid G q b u_3, bGrid G q2 b2 u_4, bText G ct ca n1 u_5, bText G ot oa n0 u_6, bText G t0 a0 n0 g0, bText G t1 a1 n1 g1]) hP [0, 3, 4, 5, 6, 1, 2, 8, 7] rfl) (wD_sub (bc := [bBD G x st sv bu di se wy ta tt rp, bState G st t0 t1 al, bRep G rp q q2 ct ot, bGrid G q b u_3, bGrid G q2 b2 u_4, bText G ct ca n1 u_5, bText G ot oa n0 u_6, bText G t0 a0 n0 g0, bText G t1 a1 n1 g1]) hD [0, 3, 4, 5, 6, 1, 2, 8, 7] (by decide) rfl) hS (lv_sub hl [4, 5, 6, 7, 1, 2, 8, 0] rfl)
          exact K45 (((al - 0).toNat) + 1) bst lst 0 (Nat.lt_succ_self _) (by omega) (by exact hb9) H _ _ hP hD hS (lv_sub hl [1, 2, 3, 4, 5, 6, 7, 0] rfl)
    exact K33 (((n1 - 0).toNat) + 1) ((-1)) 21 0 (Nat.lt_succ_self _) (by omega) (by exact Or.inl ⟨rfl, rfl, rfl⟩) H _ _ hP hD hS (lv_sub hl [5, 6, 4, 3, 2, 1, 0] rfl)
  exact KH s.heap [] hP hD hS
