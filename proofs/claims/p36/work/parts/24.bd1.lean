abbrev bBD (G : GG) (x : Nat) (st : Nat) (sv : Nat) (bu : Nat) (di : Nat) (se : Nat) (wy : Nat) (ta : Nat) (tt : Nat) (rp : Nat) : va_W := [(x, .inr (8, [.ref st, .ref sv, .ref bu, .ref di, .ref se, .ref wy, .ref ta, .ref tt, .ref rp]))]
abbrev rmX8_textOf_0 : Room := { frames := 1, cells := 0, slots := 0, locals := 21 }
set_option maxHeartbeats 4000000 in
set_option maxRecDepth 100000 in
theorem mX8_textOf_0 (l : Launch) (G : GG) (x : Nat) (st : Nat) (sv : Nat) (bu : Nat) (di : Nat) (se : Nat) (wy : Nat) (ta : Nat) (tt : Nat) (rp : Nat) (t0 : Nat) (t1 : Nat) (al : Int) (z : Int) (hz : z = 0) : Ct l yX8_textOf cX8_textOf 2 (some (.object "BlockDistance$Text")) rmX8_textOf_0 G [.ref x, .int (jz z)] [bBD G x st sv bu di se wy ta tt rp, bState G st t0 t1 al] (fun uo : Unit => some (.ref t0)) (fun uo => True) (fun uo => [bBD G x st sv bu di se wy ta tt rp, bState G st t0 t1 al]) := by
  refine cof (by decide) (Nat.le_of_ble_eq_true rfl) ?_
  intro p e s m args below meth c A ls hx hb hr hml hown hts hlocks hin hA hK hP hD hS hl Q hQ
  have hown : s.vm.findClass RX8 = some m.cls := hown
  have hl : lv_has ls 2 [(0, .ref x), (1, .int (jz z))] := hl
  have KH : ∀ (H : Heap) (locs : List Loc), wP G [bBD G x st sv bu di se wy ta tt rp, bState G st t0 t1 al] H → wD A [bBD G x st sv bu di se wy ta tt rp, bState G st t0 t1 al] → va_S A s.heap H locs → W p l e rmX8_textOf_0 s m args below meth c H locs 0 0 Q (F0 m 0 ls []) := by
    intro H locs hP hD hS
    refine lv_iload_n hx hb dX8_textOf_0 rfl (lv_at hl 1 rfl) ?_
    refine jv_if_eq (tgt := 20) hx hb dX8_textOf_1 (by decide) (by omega) (fun c_1 => ?_) (fun c_1 => ?_)
    · refine lv_aload_n hx hb dX8_textOf_20 rfl (lv_at hl 0 rfl) ?_
      refine va_get (ci := 8) (v := .ref st) (C := RX8) (T := TX8) (N := 9) hx hb hts wfX8 hown hK.1 hP 0 rfl rfl 0 (by decide) (hts _ wm166) (fun _ h9 => h9) rfl dX8_textOf_21 ?_
      refine lv_iload_n hx hb dX8_textOf_24 rfl (lv_at hl 1 rfl) ?_
      refine kV ⟨hx, hb, hml, hown, hts⟩ hK hA hS hP hD [.int (jz z)] [] (mX5_text_0 l G st t0 t1 al z (by omega) (by omega)) lkX8_87 [1] [0] (br := [bBD G x st sv bu di se wy ta tt rp]) rfl rfl (by decide) 0 5 rfl rfl rfl rfl (Nat.le_of_ble_eq_true rfl) hl.1 dX8_textOf_25 ⟨Nat.le_of_ble_eq_true rfl, Nat.le_of_ble_eq_true rfl⟩ ⟨Nat.le_of_ble_eq_true rfl, Nat.le_of_ble_eq_true rfl⟩ (fun u9 H locs hp9 hP hD hS => ?_)
      have hP : wP G [bBD G x st sv bu di se wy ta tt rp, bState G st t0 t1 al] H := hP
      have hD : wD A [bBD G x st sv bu di se wy ta tt rp, bState G st t0 t1 al] := hD
      show W p l e rmX8_textOf_0 s m args below meth c H locs 0 0 Q (F0 m 28 ls [.ref t0])
      exact cret_r hx hb hr hlocks hS hP hD (Nat.le_of_ble_eq_true rfl) (Nat.le_of_ble_eq_true rfl) dX8_textOf_28 [0, 1] (by decide) () rfl trivial (congrArg (fun z : Nat => some (Value.ref z)) (show t0 = t0 from by rfl)) hQ
    · exfalso; omega
  exact KH s.heap [] hP hD hS
abbrev rmX8_textOf_1 : Room := { frames := 1, cells := 0, slots := 0, locals := 21 }
set_option maxHeartbeats 4000000 in
set_option maxRecDepth 100000 in
theorem mX8_textOf_1 (l : Launch) (G : GG) (x : Nat) (st : Nat) (sv : Nat) (bu : Nat) (di : Nat) (se : Nat) (wy : Nat) (ta : Nat) (tt : Nat) (rp : Nat) (t0 : Nat) (t1 : Nat) (al : Int) (z : Int) (hz : z = 1) : Ct l yX8_textOf cX8_textOf 2 (some (.object "BlockDistance$Text")) rmX8_textOf_1 G [.ref x, .int (jz z)] [bBD G x st sv bu di se wy ta tt rp, bState G st t0 t1 al] (fun uo : Unit => some (.ref t1)) (fun uo => True) (fun uo => [bBD G x st sv bu di se wy ta tt rp, bState G st t0 t1 al]) := by
  refine cof (by decide) (Nat.le_of_ble_eq_true rfl) ?_
  intro p e s m args below meth c A ls hx hb hr hml hown hts hlocks hin hA hK hP hD hS hl Q hQ
  have hown : s.vm.findClass RX8 = some m.cls := hown
  have hl : lv_has ls 2 [(0, .ref x), (1, .int (jz z))] := hl
  have KH : ∀ (H : Heap) (locs : List Loc), wP G [bBD G x st sv bu di se wy ta tt rp, bState G st t0 t1 al] H → wD A [bBD G x st sv bu di se wy ta tt rp, bState G st t0 t1 al] → va_S A s.heap H locs → W p l e rmX8_textOf_1 s m args below meth c H locs 0 0 Q (F0 m 0 ls []) := by
    intro H locs hP hD hS
    refine lv_iload_n hx hb dX8_textOf_0 rfl (lv_at hl 1 rfl) ?_
    refine jv_if_eq (tgt := 20) hx hb dX8_textOf_1 (by decide) (by omega) (fun c_1 => ?_) (fun c_1 => ?_)
    · exfalso; omega
    · refine lv_iload_n hx hb dX8_textOf_4 rfl (lv_at hl 1 rfl) ?_
      refine jv_iconst hx hb dX8_textOf_5 ?_
      refine jv_icmp_eq (tgt := 20) hx hb dX8_textOf_6 (by decide) (by omega) (by omega) (fun c_2 => ?_) (fun c_2 => ?_)
      · refine lv_aload_n hx hb dX8_textOf_20 rfl (lv_at hl 0 rfl) ?_
        refine va_get (ci := 8) (v := .ref st) (C := RX8) (T := TX8) (N := 9) hx hb hts wfX8 hown hK.1 hP 0 rfl rfl 0 (by decide) (hts _ wm166) (fun _ h9 => h9) rfl dX8_textOf_21 ?_
        refine lv_iload_n hx hb dX8_textOf_24 rfl (lv_at hl 1 rfl) ?_
        refine kV ⟨hx, hb, hml, hown, hts⟩ hK hA hS hP hD [.int (jz z)] [] (mX5_text_1 l G st t0 t1 al z (by omega) (by omega)) lkX8_87 [1] [0] (br := [bBD G x st sv bu di se wy ta tt rp]) rfl rfl (by decide) 0 5 rfl rfl rfl rfl (Nat.le_of_ble_eq_true rfl) hl.1 dX8_textOf_25 ⟨Nat.le_of_ble_eq_true rfl, Nat.le_of_ble_eq_true rfl⟩ ⟨Nat.le_of_ble_eq_true rfl, Nat.le_of_ble_eq_true rfl⟩ (fun u9 H locs hp9 hP hD hS => ?_)
        have hP : wP G [bBD G x st sv bu di se wy ta tt rp, bState G st t0 t1 al] H := hP
        have hD : wD A [bBD G x st sv bu di se wy ta tt rp, bState G st t0 t1 al] := hD
        show W p l e rmX8_textOf_1 s m args below meth c H locs 0 0 Q (F0 m 28 ls [.ref t1])
        exact cret_r hx hb hr hlocks hS hP hD (Nat.le_of_ble_eq_true rfl) (Nat.le_of_ble_eq_true rfl) dX8_textOf_28 [0, 1] (by decide) () rfl trivial (congrArg (fun z : Nat => some (Value.ref z)) (show t1 = t1 from by rfl)) hQ
      · exfalso; omega
  exact KH s.heap [] hP hD hS
abbrev rmX8_textOf_x : Room := { frames := 6, cells := 1, slots := 6, locals := 100 }
set_option maxHeartbeats 4000000 in
set_option maxRecDepth 100000 in
theorem mX8_textOf_x (l : Launch) (hl0 : l.stackTraces = false) (G : GG) (x : Nat) (st : Nat) (sv : Nat) (bu : Nat) (di : Nat) (se : Nat) (wy : Nat) (ta : Nat) (tt : Nat) (rp : Nat) (t0 : Nat) (t1 : Nat) (al : Int) (z : Int) (hz : z ≠ 0 ∧ z ≠ 1) (hz2 : jr z) : Xt l yX8_textOf cX8_textOf 2 (some (.object "BlockDistance$Text")) rmX8_textOf_x G [.ref x, .int (jz z)] [bBD G x st sv bu di se wy ta tt rp, bState G st t0 t1 al] (fun uo : Unit => some (.ref t0)) (fun uo => (False)) (fun uo => [bBD G x st sv bu di se wy ta tt rp, bState G st t0 t1 al]) (fun E => E = "java/lang/IndexOutOfBoundsException") := by
  refine xof (by decide) (Nat.le_of_ble_eq_true rfl) ?_
  intro p e s m args below meth c A ls hx hb hr hml hown hts hlocks hin hA hK hP hD hS hl hX hout Q hQ
  have hown : s.vm.findClass RX8 = some m.cls := hown
  have hl : lv_has ls 2 [(0, .ref x), (1, .int (jz z))] := hl
  have KH : ∀ (H : Heap) (locs : List Loc), wP G [bBD G x st sv bu di se wy ta tt rp, bState G st t0 t1 al] H → wD A [bBD G x st sv bu di se wy ta tt rp, bState G st t0 t1 al] → va_S A s.heap H locs → W p l e rmX8_textOf_x s m args below meth c H locs 0 0 Q (F0 m 0 ls []) := by
    intro H locs hP hD hS
    refine lv_iload_n hx hb dX8_textOf_0 rfl (lv_at hl 1 rfl) ?_
    refine jv_if_eq (tgt := 20) hx hb dX8_textOf_1 (by decide) (by omega) (fun c_1 => ?_) (fun c_1 => ?_)
    · exfalso; omega
    · refine lv_iload_n hx hb dX8_textOf_4 rfl (lv_at hl 1 rfl) ?_
      refine jv_iconst hx hb dX8_textOf_5 ?_
      refine jv_icmp_eq (tgt := 20) hx hb dX8_textOf_6 (by decide) (by omega) (by omega) (fun c_2 => ?_) (fun c_2 => ?_)
      · exfalso; omega
      · obtain ⟨sa9, hstr9⟩ := hK.2.2.2.1 (293, "there is no such text") (by decide +kernel)
        rw [hQ]
        exact vx_throwSW (A := A) (cls := "java/lang/IndexOutOfBoundsException") (names := ["java/lang/RuntimeException", "java/lang/Exception"]) hx hb hl0 hown (by decide +kernel) (by decide +kernel) (hts _ wm202) (hts _ wm23) hstr9 (xat hK hts xa_107) xg_107 hX.1 hX.2 hS (hl.1.trans hml.symm) dX8_textOf_9 dX8_textOf_12 dX8_textOf_13 dX8_textOf_16 dX8_textOf_19 (fun x9 hx9 => (hout x9 hx9).elim) (Nat.lt_of_lt_of_le (Nat.lt_succ_self 5) (Nat.le_of_ble_eq_true rfl)) (Nat.le_of_ble_eq_true rfl) (Nat.le_of_ble_eq_true rfl) (Nat.le_of_ble_eq_true rfl) hlocks (xthrow hS hP hD [0, 1] (by decide) rfl (by first | exact ⟨rfl, by omega⟩ | rfl)) hS.2.2 (Nat.le_of_ble_eq_true rfl) (Nat.le_of_ble_eq_true rfl)
  exact KH s.heap [] hP hD hS
abbrev rmX8_checkPlace : Room := { frames := 6, cells := 1, slots := 6, locals := 100 }
set_option maxHeartbeats 4000000 in
set_option maxRecDepth 100000 in
theorem mX8_checkPlace (l : Launch) (hl0 : l.stackTraces = false) (G : GG) (t : Nat) (a : Nat) (n : Int) (g : Int → Int) (z : Int) (hn : 0 ≤ n ∧ n ≤ 20) (hz : jr z) : Xt l yX8_checkPlace cX8_checkPlace 2 none rmX8_checkPlace G [.ref t, .int (jz z)] [bText G t a n g] (fun uo : Unit => none) (fun uo => (0 ≤ z ∧ z < n)) (fun uo => [bText G t a n g]) (fun E => E = "java/lang/IndexOutOfBoundsException" ∧ ¬ (0 ≤ z ∧ z < n)) := by
  refine xof (by decide) (Nat.le_of_ble_eq_true rfl) ?_
  intro p e s m args below meth c A ls hx hb hr hml hown hts hlocks hin hA hK hP hD hS hl hX hout Q hQ
  have hown : s.vm.findClass RX8 = some m.cls := hown
  have hl : lv_has ls 2 [(0, .ref t), (1, .int (jz z))] := hl
  have KH : ∀ (H : Heap) (locs : List Loc), wP G [bText G t a n g] H → wD A [bText G t a n g] → va_S A s.heap H locs → W p l e rmX8_checkPlace s m args below meth c H locs 0 0 Q (F0 m 0 ls []) := by
    intro H locs hP hD hS
    refine lv_iload_n hx hb dX8_checkPlace_0 rfl (lv_at hl 1 rfl) ?_
    refine jv_if_lt (tgt := 12) hx hb dX8_checkPlace_1 (by decide) (by omega) (fun c_1 => ?_) (fun c_1 => ?_)
    · obtain ⟨sa9, hstr9⟩ := hK.2.2.2.1 (295, "there is no such letter of the text") (by decide +kernel)
      rw [hQ]
      exact vx_throwSW (A := A) (cls := "java/lang/IndexOutOfBoundsException") (names := ["java/lang/RuntimeException", "java/lang/Exception"]) hx hb hl0 hown (by decide +kernel) (by decide +kernel) (hts _ wm202) (hts _ wm23) hstr9 (xat hK hts xa_107) xg_107 hX.1 hX.2 hS (hl.1.trans hml.symm) dX8_checkPlace_12 dX8_checkPlace_15 dX8_checkPlace_16 dX8_checkPlace_19 dX8_checkPlace_22 (fun x9 hx9 => (hout x9 hx9).elim) (Nat.lt_of_lt_of_le (Nat.lt_succ_self 5) (Nat.le_of_ble_eq_true rfl)) (Nat.le_of_ble_eq_true rfl) (Nat.le_of_ble_eq_true rfl) (Nat.le_of_ble_eq_true rfl) hlocks (xthrow hS hP hD [0] (by decide) rfl (by first | exact ⟨rfl, by omega⟩ | rfl)) hS.2.2 (Nat.le_of_ble_eq_true rfl) (Nat.le_of_ble_eq_true rfl)
    · refine lv_iload_n hx hb dX8_checkPlace_4 rfl (lv_at hl 1 rfl) ?_
      refine lv_aload_n hx hb dX8_checkPlace_5 rfl (lv_at hl 0 rfl) ?_
      refine kV ⟨hx, hb, hml, hown, hts⟩ hK hA hS hP hD [] [.int (jz z)] (mX6_size l G t a n g ) lkX8_95 [0] [] (br := []) rfl rfl (by decide) 0 6 rfl rfl rfl rfl (Nat.le_of_ble_eq_true rfl) hl.1 dX8_checkPlace_6 ⟨Nat.le_of_ble_eq_true rfl, Nat.le_of_ble_eq_true rfl⟩ ⟨Nat.le_of_ble_eq_true rfl, Nat.le_of_ble_eq_true rfl⟩ (fun u9 H locs hp9 hP hD hS => ?_)
      have hP : wP G [bText G t a n g] H := hP
      have hD : wD A [bText G t a n g] := hD
      show W p l e rmX8_checkPlace s m args below meth c H locs 0 0 Q (F0 m 9 ls [.int (jz n), .int (jz z)])
      refine jv_icmp_lt (tgt := 23) hx hb dX8_checkPlace_9 (by decide) (by omega) (by omega) (fun c_3 => ?_) (fun c_3 => ?_)
      · rw [hQ]
        exact vx_ret (cret_v hx hb hr hlocks hS hP hD (Nat.le_of_ble_eq_true rfl) (Nat.le_of_ble_eq_true rfl) dX8_checkPlace_23 [0] (by decide) () rfl (show 0 ≤ z ∧ z < n from by omega) rfl rfl)
      · obtain ⟨sa9, hstr9⟩ := hK.2.2.2.1 (295, "there is no such letter of the text") (by decide +kernel)
        rw [hQ]
        exact vx_throwSW (A := A) (cls := "java/lang/IndexOutOfBoundsException") (names := ["java/lang/RuntimeException", "java/lang/Exception"]) hx hb hl0 hown (by decide +kernel) (by decide +kernel) (hts _ wm202) (hts _ wm23) hstr9 (xat hK hts xa_107) xg_107 hX.1 hX.2 hS (hl.1.trans hml.symm) dX8_checkPlace_12 dX8_checkPlace_15 dX8_checkPlace_16 dX8_checkPlace_19 dX8_checkPlace_22 (fun x9 hx9 => (hout x9 hx9).elim) (Nat.lt_of_lt_of_le (Nat.lt_succ_self 5) (Nat.le_of_ble_eq_true rfl)) (Nat.le_of_ble_eq_true rfl) (Nat.le_of_ble_eq_true rfl) (Nat.le_of_ble_eq_true rfl) hlocks (xthrow hS hP hD [0] (by decide) rfl (by first | exact ⟨rfl, by omega⟩ | rfl)) hS.2.2 (Nat.le_of_ble_eq_true rfl) (Nat.le_of_ble_eq_true rfl)
  exact KH s.heap [] hP hD hS
abbrev rmX8_checkLetter : Room := { frames := 6, cells := 1, slots := 6, locals := 100 }
set_option maxHeartbeats 4000000 in
set_option maxRecDepth 100000 in
theorem mX8_checkLetter (l : Launch) (hl0 : l.stackTraces = false) (G : GG) (x : Nat) (st : Nat) (sv : Nat) (bu : Nat) (di : Nat) (se : Nat) (wy : Nat) (ta : Nat) (tt : Nat) (rp : Nat) (t0 : Nat) (t1 : Nat) (al : Int) (z : Int) (hal : 2 ≤ al ∧ al ≤ 4) (hz : jr z) : Xt l yX8_checkLetter cX8_checkLetter 2 none rmX8_checkLetter G [.ref x, .int (jz z)] [bBD G x st sv bu di se wy ta tt rp, bState G st t0 t1 al] (fun uo : Unit => none) (fun uo => (0 ≤ z ∧ z < al)) (fun uo => [bBD G x st sv bu di se wy ta tt rp, bState G st t0 t1 al]) (fun E => E = "java/lang/IllegalArgumentException" ∧ ¬ (0 ≤ z ∧ z < al)) := by
  refine xof (by decide) (Nat.le_of_ble_eq_true rfl) ?_
  intro p e s m args below meth c A ls hx hb hr hml hown hts hlocks hin hA hK hP hD hS hl hX hout Q hQ
  have hown : s.vm.findClass RX8 = some m.cls := hown
  have hl : lv_has ls 2 [(0, .ref x), (1, .int (jz z))] := hl
  have KH : ∀ (H : Heap) (locs : List Loc), wP G [bBD G x st sv bu di se wy ta tt rp, bState G st t0 t1 al] H → wD A [bBD G x st sv bu di se wy ta tt rp, bState G st t0 t1 al] → va_S A s.heap H locs → W p l e rmX8_checkLetter s m args below meth c H locs 0 0 Q (F0 m 0 ls []) := by
    intro H locs hP hD hS
    refine lv_iload_n hx hb dX8_checkLetter_0 rfl (lv_at hl 1 rfl) ?_
    refine jv_if_lt (tgt := 15) hx hb dX8_checkLetter_1 (by decide) (by omega) (fun c_1 => ?_) (fun c_1 => ?_)
    · obtain ⟨sa9, hstr9⟩ := hK.2.2.2.1 (297, "the letter is not in the alphabet") (by decide +kernel)
      rw [hQ]
      exact vx_throwSW (A := A) (cls := "java/lang/IllegalArgumentException") (names := ["java/lang/RuntimeException", "java/lang/Exception"]) hx hb hl0 hown (by decide +kernel) (by decide +kernel) (hts _ wm287) (hts _ wm24) hstr9 (xat hK hts xa_80) xg_80 hX.1 hX.2 hS (hl.1.trans hml.symm) dX8_checkLetter_15 dX8_checkLetter_18 dX8_checkLetter_19 dX8_checkLetter_22 dX8_checkLetter_25 (fun x9 hx9 => (hout x9 hx9).elim) (Nat.lt_of_lt_of_le (Nat.lt_succ_self 5) (Nat.le_of_ble_eq_true rfl)) (Nat.le_of_ble_eq_true rfl) (Nat.le_of_ble_eq_true rfl) (Nat.le_of_ble_eq_true rfl) hlocks (xthrow hS hP hD [0, 1] (by decide) rfl (by first | exact ⟨rfl, by omega⟩ | rfl)) hS.2.2 (Nat.le_of_ble_eq_true rfl) (Nat.le_of_ble_eq_true rfl)
    · refine lv_iload_n hx hb dX8_checkLetter_4 rfl (lv_at hl 1 rfl) ?_
      refine lv_aload_n hx hb dX8_checkLetter_5 rfl (lv_at hl 0 rfl) ?_
      refine va_get (ci := 8) (v := .ref st) (C := RX8) (T := TX8) (N := 9) hx hb hts wfX8 hown hK.1 hP 0 rfl rfl 0 (by decide) (hts _ wm166) (fun _ h9 => h9) rfl dX8_checkLetter_6 ?_
      refine kV ⟨hx, hb, hml, hown, hts⟩ hK hA hS hP hD [] [.int (jz z)] (mX5_alphabet l G st t0 t1 al ) lkX8_68 [1] [0] (br := [bBD G x st sv bu di se wy ta tt rp]) rfl rfl (by decide) 0 5 rfl rfl rfl rfl (Nat.le_of_ble_eq_true rfl) hl.1 dX8_checkLetter_9 ⟨Nat.le_of_ble_eq_true rfl, Nat.le_of_ble_eq_true rfl⟩ ⟨Nat.le_of_ble_eq_true rfl, Nat.le_of_ble_eq_true rfl⟩ (fun u9 H locs hp9 hP hD hS => ?_)
      have hP : wP G [bBD G x st sv bu di se wy ta tt rp, bState G st t0 t1 al] H := hP
      have hD : wD A [bBD G x st sv bu di se wy ta tt rp, bState G st t0 t1 al] := hD
      show W p l e rmX8_checkLetter s m args below meth c H locs 0 0 Q (F0 m 12 ls [.int (jz al), .int (jz z)])
      refine jv_icmp_lt (tgt := 26) hx hb dX8_checkLetter_12 (by decide) (by omega) (by omega) (fun c_3 => ?_) (fun c_3 => ?_)
      · rw [hQ]
        exact vx_ret (cret_v hx hb hr hlocks hS hP hD (Nat.le_of_ble_eq_true rfl) (Nat.le_of_ble_eq_true rfl) dX8_checkLetter_26 [0, 1] (by decide) () rfl (show 0 ≤ z ∧ z < al from by omega) rfl rfl)
      · obtain ⟨sa9, hstr9⟩ := hK.2.2.2.1 (297, "the letter is not in the alphabet") (by decide +kernel)
        rw [hQ]
        exact vx_throwSW (A := A) (cls := "java/lang/IllegalArgumentException") (names := ["java/lang/RuntimeException", "java/lang/Exception"]) hx hb hl0 hown (by decide +kernel) (by decide +kernel) (hts _ wm287) (hts _ wm24) hstr9 (xat hK hts xa_80) xg_80 hX.1 hX.2 hS (hl.1.trans hml.symm) dX8_checkLetter_15 dX8_checkLetter_18 dX8_checkLetter_19 dX8_checkLetter_22 dX8_checkLetter_25 (fun x9 hx9 => (hout x9 hx9).elim) (Nat.lt_of_lt_of_le (Nat.lt_succ_self 5) (Nat.le_of_ble_eq_true rfl)) (Nat.le_of_ble_eq_true rfl) (Nat.le_of_ble_eq_true rfl) (Nat.le_of_ble_eq_true rfl) hlocks (xthrow hS hP hD [0, 1] (by decide) rfl (by first | exact ⟨rfl, by omega⟩ | rfl)) hS.2.2 (Nat.le_of_ble_eq_true rfl) (Nat.le_of_ble_eq_true rfl)
  exact KH s.heap [] hP hD hS
abbrev rmX8_checkPrefixes : Room := { frames := 6, cells := 1, slots := 6, locals := 100 }
set_option maxHeartbeats 4000000 in
set_option maxRecDepth 100000 in
theorem mX8_checkPrefixes (l : Launch) (hl0 : l.stackTraces = false) (G : GG) (x : Nat) (st : Nat) (sv : Nat) (bu : Nat) (di : Nat) (se : Nat) (wy : Nat) (ta : Nat) (tt : Nat) (rp : Nat) (t0 : Nat) (t1 : Nat) (al : Int) (a0 : Nat) (n0 : Int) (g0 : Int → Int) (a1 : Nat) (n1 : Int) (g1 : Int → Int) (i : Int) (j : Int) (z : Int) (hn0 : 0 ≤ n0 ∧ n0 ≤ 20) (hn1 : 0 ≤ n1 ∧ n1 ≤ 20) (hi : jr i) (hj : jr j) (hz : 0 ≤ z ∧ z ≤ 1) : Xt l yX8_checkPrefixes cX8_checkPrefixes 4 none rmX8_checkPrefixes G [.ref x, .int (jz i), .int (jz j), .int (jz z)] [bBD G x st sv bu di se wy ta tt rp, bState G st t0 t1 al, bText G t0 a0 n0 g0, bText G t1 a1 n1 g1] (fun uo : Unit => none) (fun uo => (0 ≤ i ∧ i ≤ n0 ∧ z ≤ j ∧ j ≤ n1)) (fun uo => [bBD G x st sv bu di se wy ta tt rp, bState G st t0 t1 al, bText G t0 a0 n0 g0, bText G t1 a1 n1 g1]) (fun E => E = "java/lang/IndexOutOfBoundsException" ∧ ¬ (0 ≤ i ∧ i ≤ n0 ∧ z ≤ j ∧ j ≤ n1)) := by
  refine xof (by decide) (Nat.le_of_ble_eq_true rfl) ?_
  intro p e s m args below meth c A ls hx hb hr hml hown hts hlocks hin hA hK hP hD hS hl hX hout Q hQ
  have hown : s.vm.findClass RX8 = some m.cls := hown
  have hl : lv_has ls 4 [(0, .ref x), (1, .int (jz i)), (2, .int (jz j)), (3, .int (jz z))] := hl
  have KH : ∀ (H : Heap) (locs : List Loc), wP G [bBD G x st sv bu di se wy ta tt rp, bState G st t0 t1 al, bText G t0 a0 n0 g0, bText G t1 a1 n1 g1] H → wD A [bBD G x st sv bu di se wy ta tt rp, bState G st t0 t1 al, bText G t0 a0 n0 g0, bText G t1 a1 n1 g1] → va_S A s.heap H locs → W p l e rmX8_checkPrefixes s m args below meth c H locs 0 0 Q (F0 m 0 ls []) := by
    intro H locs hP hD hS
    refine lv_iload_n hx hb dX8_checkPrefixes_0 rfl (lv_at hl 1 rfl) ?_
    refine jv_if_lt (tgt := 39) hx hb dX8_checkPrefixes_1 (by decide) (by omega) (fun c_1 => ?_) (fun c_1 => ?_)
    · obtain ⟨sa9, hstr9⟩ := hK.2.2.2.1 (299, "i or j is out of range") (by decide +kernel)
      rw [hQ]
      exact vx_throwSW (A := A) (cls := "java/lang/IndexOutOfBoundsException") (names := ["java/lang/RuntimeException", "java/lang/Exception"]) hx hb hl0 hown (by decide +kernel) (by decide +kernel) (hts _ wm202) (hts _ wm23) hstr9 (xat hK hts xa_107) xg_107 hX.1 hX.2 hS (hl.1.trans hml.symm) dX8_checkPrefixes_39 dX8_checkPrefixes_42 dX8_checkPrefixes_43 dX8_checkPrefixes_46 dX8_checkPrefixes_49 (fun x9 hx9 => (hout x9 hx9).elim) (Nat.lt_of_lt_of_le (Nat.lt_succ_self 5) (Nat.le_of_ble_eq_true rfl)) (Nat.le_of_ble_eq_true rfl) (Nat.le_of_ble_eq_true rfl) (Nat.le_of_ble_eq_true rfl) hlocks (xthrow hS hP hD [0, 1, 2, 3] (by decide) rfl (by first | exact ⟨rfl, by omega⟩ | rfl)) hS.2.2 (Nat.le_of_ble_eq_true rfl) (Nat.le_of_ble_eq_true rfl)
    · refine lv_iload_n hx hb dX8_checkPrefixes_4 rfl (lv_at hl 1 rfl) ?_
      refine lv_aload_n hx hb dX8_checkPrefixes_5 rfl (lv_at hl 0 rfl) ?_
      refine va_get (ci := 8) (v := .ref st) (C := RX8) (T := TX8) (N := 9) hx hb hts wfX8 hown hK.1 hP 0 rfl rfl 0 (by decide) (hts _ wm166) (fun _ h9 => h9) rfl dX8_checkPrefixes_6 ?_
      refine jv_iconst hx hb dX8_checkPrefixes_9 ?_
      refine kV ⟨hx, hb, hml, hown, hts⟩ hK hA hS hP hD [.int (jz 0)] [.int (jz i)] (mX5_text_0 l G st t0 t1 al 0 (by omega) (by omega)) lkX8_87 [1] [0, 2, 3] (br := [bBD G x st sv bu di se wy ta tt rp, bText G t0 a0 n0 g0, bText G t1 a1 n1 g1]) rfl rfl (by decide) 0 5 rfl rfl rfl rfl (Nat.le_of_ble_eq_true rfl) hl.1 dX8_checkPrefixes_10 ⟨Nat.le_of_ble_eq_true rfl, Nat.le_of_ble_eq_true rfl⟩ ⟨Nat.le_of_ble_eq_true rfl, Nat.le_of_ble_eq_true rfl⟩ (fun u9 H locs hp9 hP hD hS => ?_)
      have hP : wP G [bBD G x st sv bu di se wy ta tt rp, bText G t0 a0 n0 g0, bText G t1 a1 n1 g1, bState G st t0 t1 al] H := hP
      have hD : wD A [bBD G x st sv bu di se wy ta tt rp, bText G t0 a0 n0 g0, bText G t1 a1 n1 g1, bState G st t0 t1 al] := hD
      show W p l e rmX8_checkPrefixes s m args below meth c H locs 0 0 Q (F0 m 13 ls [.ref t0, .int (jz i)])
      refine kV ⟨hx, hb, hml, hown, hts⟩ hK hA hS hP hD [] [.int (jz i)] (mX6_size l G t0 a0 n0 g0 ) lkX8_95 [1] [0, 2, 3] (br := [bBD G x st sv bu di se wy ta tt rp, bText G t1 a1 n1 g1, bState G st t0 t1 al]) rfl rfl (by decide) 0 6 rfl rfl rfl rfl (Nat.le_of_ble_eq_true rfl) hl.1 dX8_checkPrefixes_13 ⟨Nat.le_of_ble_eq_true rfl, Nat.le_of_ble_eq_true rfl⟩ ⟨Nat.le_of_ble_eq_true rfl, Nat.le_of_ble_eq_true rfl⟩ (fun u9 H locs hp9 hP hD hS => ?_)
      have hP : wP G [bBD G x st sv bu di se wy ta tt rp, bText G t1 a1 n1 g1, bState G st t0 t1 al, bText G t0 a0 n0 g0] H := hP
      have hD : wD A [bBD G x st sv bu di se wy ta tt rp, bText G t1 a1 n1 g1, bState G st t0 t1 al, bText G t0 a0 n0 g0] := hD
      show W p l e rmX8_checkPrefixes s m args below meth c H locs 0 0 Q (F0 m 16 ls [.int (jz n0), .int (jz i)])
      refine jv_icmp_gt (tgt := 39) hx hb dX8_checkPrefixes_16 (by decide) (by omega) (by omega) (fun c_4 => ?_) (fun c_4 => ?_)
      · obtain ⟨sa9, hstr9⟩ := hK.2.2.2.1 (299, "i or j is out of range") (by decide +kernel)
        rw [hQ]
        exact vx_throwSW (A := A) (cls := "java/lang/IndexOutOfBoundsException") (names := ["java/lang/RuntimeException", "java/lang/Exception"]) hx hb hl0 hown (by decide +kernel) (by decide +kernel) (hts _ wm202) (hts _ wm23) hstr9 (xat hK hts xa_107) xg_107 hX.1 hX.2 hS (hl.1.trans hml.symm) dX8_checkPrefixes_39 dX8_checkPrefixes_42 dX8_checkPrefixes_43 dX8_checkPrefixes_46 dX8_checkPrefixes_49 (fun x9 hx9 => (hout x9 hx9).elim) (Nat.lt_of_lt_of_le (Nat.lt_succ_self 5) (Nat.le_of_ble_eq_true rfl)) (Nat.le_of_ble_eq_true rfl) (Nat.le_of_ble_eq_true rfl) (Nat.le_of_ble_eq_true rfl) hlocks (xthrow hS hP hD [0, 2, 3, 1] (by decide) rfl (by first | exact ⟨rfl, by omega⟩ | rfl)) hS.2.2 (Nat.le_of_ble_eq_true rfl) (Nat.le_of_ble_eq_true rfl)
      · refine lv_iload_n hx hb dX8_checkPrefixes_19 rfl (lv_at hl 2 rfl) ?_
        refine lv_iload_n hx hb dX8_checkPrefixes_20 rfl (lv_at hl 3 rfl) ?_
        refine jv_icmp_lt (tgt := 39) hx hb dX8_checkPrefixes_21 (by decide) (by omega) (by omega) (fun c_5 => ?_) (fun c_5 => ?_)
        · obtain ⟨sa9, hstr9⟩ := hK.2.2.2.1 (299, "i or j is out of range") (by decide +kernel)
          rw [hQ]
          exact vx_throwSW (A := A) (cls := "java/lang/IndexOutOfBoundsException") (names := ["java/lang/RuntimeException", "java/lang/Exception"]) hx hb hl0 hown (by decide +kernel) (by decide +kernel) (hts _ wm202) (hts _ wm23) hstr9 (xat hK hts xa_107) xg_107 hX.1 hX.2 hS (hl.1.trans hml.symm) dX8_checkPrefixes_39 dX8_checkPrefixes_42 dX8_checkPrefixes_43 dX8_checkPrefixes_46 dX8_checkPrefixes_49 (fun x9 hx9 => (hout x9 hx9).elim) (Nat.lt_of_lt_of_le (Nat.lt_succ_self 5) (Nat.le_of_ble_eq_true rfl)) (Nat.le_of_ble_eq_true rfl) (Nat.le_of_ble_eq_true rfl) (Nat.le_of_ble_eq_true rfl) hlocks (xthrow hS hP hD [0, 2, 3, 1] (by decide) rfl (by first | exact ⟨rfl, by omega⟩ | rfl)) hS.2.2 (Nat.le_of_ble_eq_true rfl) (Nat.le_of_ble_eq_true rfl)
        · refine lv_iload_n hx hb dX8_checkPrefixes_24 rfl (lv_at hl 2 rfl) ?_
          refine lv_aload_n hx hb dX8_checkPrefixes_25 rfl (lv_at hl 0 rfl) ?_
          refine va_get (ci := 8) (v := .ref st) (C := RX8) (T := TX8) (N := 9) hx hb hts wfX8 hown hK.1 hP 0 rfl rfl 0 (by decide) (hts _ wm166) (fun _ h9 => h9) rfl dX8_checkPrefixes_26 ?_
          refine jv_iconst hx hb dX8_checkPrefixes_29 ?_
          refine kV ⟨hx, hb, hml, hown, hts⟩ hK hA hS hP hD [.int (jz 1)] [.int (jz j)] (mX5_text_1 l G st t0 t1 al 1 (by omega) (by omega)) lkX8_87 [2] [0, 1, 3] (br := [bBD G x st sv bu di se wy ta tt rp, bText G t1 a1 n1 g1, bText G t0 a0 n0 g0]) rfl rfl (by decide) 0 5 rfl rfl rfl rfl (Nat.le_of_ble_eq_true rfl) hl.1 dX8_checkPrefixes_30 ⟨Nat.le_of_ble_eq_true rfl, Nat.le_of_ble_eq_true rfl⟩ ⟨Nat.le_of_ble_eq_true rfl, Nat.le_of_ble_eq_true rfl⟩ (fun u9 H locs hp9 hP hD hS => ?_)
          have hP : wP G [bBD G x st sv bu di se wy ta tt rp, bText G t1 a1 n1 g1, bText G t0 a0 n0 g0, bState G st t0 t1 al] H := hP
          have hD : wD A [bBD G x st sv bu di se wy ta tt rp, bText G t1 a1 n1 g1, bText G t0 a0 n0 g0, bState G st t0 t1 al] := hD
          show W p l e rmX8_checkPrefixes s m args below meth c H locs 0 0 Q (F0 m 33 ls [.ref t1, .int (jz j)])
          refine kV ⟨hx, hb, hml, hown, hts⟩ hK hA hS hP hD [] [.int (jz j)] (mX6_size l G t1 a1 n1 g1 ) lkX8_95 [1] [0, 2, 3] (br := [bBD G x st sv bu di se wy ta tt rp, bText G t0 a0 n0 g0, bState G st t0 t1 al]) rfl rfl (by decide) 0 6 rfl rfl rfl rfl (Nat.le_of_ble_eq_true rfl) hl.1 dX8_checkPrefixes_33 ⟨Nat.le_of_ble_eq_true rfl, Nat.le_of_ble_eq_true rfl⟩ ⟨Nat.le_of_ble_eq_true rfl, Nat.le_of_ble_eq_true rfl⟩ (fun u9 H locs hp9 hP hD hS => ?_)
          have hP : wP G [bBD G x st sv bu di se wy ta tt rp, bText G t0 a0 n0 g0, bState G st t0 t1 al, bText G t1 a1 n1 g1] H := hP
          have hD : wD A [bBD G x st sv bu di se wy ta tt rp, bText G t0 a0 n0 g0, bState G st t0 t1 al, bText G t1 a1 n1 g1] := hD
          show W p l e rmX8_checkPrefixes s m args below meth c H locs 0 0 Q (F0 m 36 ls [.int (jz n1), .int (jz j)])
          refine jv_icmp_le (tgt := 50) hx hb dX8_checkPrefixes_36 (by decide) (by omega) (by omega) (fun c_8 => ?_) (fun c_8 => ?_)
          · rw [hQ]
            exact vx_ret (cret_v hx hb hr hlocks hS hP hD (Nat.le_of_ble_eq_true rfl) (Nat.le_of_ble_eq_true rfl) dX8_checkPrefixes_50 [0, 2, 1, 3] (by decide) () rfl (show 0 ≤ i ∧ i ≤ n0 ∧ z ≤ j ∧ j ≤ n1 from by omega) rfl rfl)
          · obtain ⟨sa9, hstr9⟩ := hK.2.2.2.1 (299, "i or j is out of range") (by decide +kernel)
            rw [hQ]
            exact vx_throwSW (A := A) (cls := "java/lang/IndexOutOfBoundsException") (names := ["java/lang/RuntimeException", "java/lang/Exception"]) hx hb hl0 hown (by decide +kernel) (by decide +kernel) (hts _ wm202) (hts _ wm23) hstr9 (xat hK hts xa_107) xg_107 hX.1 hX.2 hS (hl.1.trans hml.symm) dX8_checkPrefixes_39 dX8_checkPrefixes_42 dX8_checkPrefixes_43 dX8_checkPrefixes_46 dX8_checkPrefixes_49 (fun x9 hx9 => (hout x9 hx9).elim) (Nat.lt_of_lt_of_le (Nat.lt_succ_self 5) (Nat.le_of_ble_eq_true rfl)) (Nat.le_of_ble_eq_true rfl) (Nat.le_of_ble_eq_true rfl) (Nat.le_of_ble_eq_true rfl) hlocks (xthrow hS hP hD [0, 2, 1, 3] (by decide) rfl (by first | exact ⟨rfl, by omega⟩ | rfl)) hS.2.2 (Nat.le_of_ble_eq_true rfl) (Nat.le_of_ble_eq_true rfl)
  exact KH s.heap [] hP hD hS
abbrev rmX8_checkBound : Room := { frames := 6, cells := 1, slots := 6, locals := 100 }
set_option maxHeartbeats 4000000 in
set_option maxRecDepth 100000 in
theorem mX8_checkBound (l : Launch) (hl0 : l.stackTraces = false) (G : GG) (z : Int) (hz : jr z) : Xt l yX8_checkBound cX8_checkBound 1 none rmX8_checkBound G [.int (jz z)] [] (fun uo : Unit => none) (fun uo => (0 ≤ z ∧ z ≤ 20)) (fun uo => []) (fun E => E = "java/lang/IllegalArgumentException" ∧ ¬ (0 ≤ z ∧ z ≤ 20)) := by
  refine xof (by decide) (Nat.le_of_ble_eq_true rfl) ?_
  intro p e s m args below meth c A ls hx hb hr hml hown hts hlocks hin hA hK hP hD hS hl hX hout Q hQ
  have hown : s.vm.findClass RX8 = some m.cls := hown
  have hl : lv_has ls 1 [(0, .int (jz z))] := hl
  have KH : ∀ (H : Heap) (locs : List Loc), wP G [] H → wD A [] → va_S A s.heap H locs → W p l e rmX8_checkBound s m args below meth c H locs 0 0 Q (F0 m 0 ls []) := by
    intro H locs hP hD hS
    refine lv_iload_n hx hb dX8_checkBound_0 rfl (lv_at hl 0 rfl) ?_
    refine jv_if_lt (tgt := 10) hx hb dX8_checkBound_1 (by decide) (by omega) (fun c_1 => ?_) (fun c_1 => ?_)
    · obtain ⟨sa9, hstr9⟩ := hK.2.2.2.1 (301, "a bound is 0 to 20") (by decide +kernel)
      rw [hQ]
      exact vx_throwSW (A := A) (cls := "java/lang/IllegalArgumentException") (names := ["java/lang/RuntimeException", "java/lang/Exception"]) hx hb hl0 hown (by decide +kernel) (by decide +kernel) (hts _ wm287) (hts _ wm24) hstr9 (xat hK hts xa_80) xg_80 hX.1 hX.2 hS (hl.1.trans hml.symm) dX8_checkBound_10 dX8_checkBound_13 dX8_checkBound_14 dX8_checkBound_17 dX8_checkBound_20 (fun x9 hx9 => (hout x9 hx9).elim) (Nat.lt_of_lt_of_le (Nat.lt_succ_self 5) (Nat.le_of_ble_eq_true rfl)) (Nat.le_of_ble_eq_true rfl) (Nat.le_of_ble_eq_true rfl) (Nat.le_of_ble_eq_true rfl) hlocks (xthrow hS hP hD [] (by decide) rfl (by first | exact ⟨rfl, by omega⟩ | rfl)) hS.2.2 (Nat.le_of_ble_eq_true rfl) (Nat.le_of_ble_eq_true rfl)
    · refine lv_iload_n hx hb dX8_checkBound_4 rfl (lv_at hl 0 rfl) ?_
      refine jv_bipush hx hb dX8_checkBound_5 (by decide) ?_
      refine jv_icmp_le (tgt := 21) hx hb dX8_checkBound_7 (by decide) (by omega) (by omega) (fun c_2 => ?_) (fun c_2 => ?_)
      · rw [hQ]
        exact vx_ret (cret_v hx hb hr hlocks hS hP hD (Nat.le_of_ble_eq_true rfl) (Nat.le_of_ble_eq_true rfl) dX8_checkBound_21 [] (by decide) () rfl (show 0 ≤ z ∧ z ≤ 20 from by omega) rfl rfl)
      · obtain ⟨sa9, hstr9⟩ := hK.2.2.2.1 (301, "a bound is 0 to 20") (by decide +kernel)
        rw [hQ]
        exact vx_throwSW (A := A) (cls := "java/lang/IllegalArgumentException") (names := ["java/lang/RuntimeException", "java/lang/Exception"]) hx hb hl0 hown (by decide +kernel) (by decide +kernel) (hts _ wm287) (hts _ wm24) hstr9 (xat hK hts xa_80) xg_80 hX.1 hX.2 hS (hl.1.trans hml.symm) dX8_checkBound_10 dX8_checkBound_13 dX8_checkBound_14 dX8_checkBound_17 dX8_checkBound_20 (fun x9 hx9 => (hout x9 hx9).elim) (Nat.lt_of_lt_of_le (Nat.lt_succ_self 5) (Nat.le_of_ble_eq_true rfl)) (Nat.le_of_ble_eq_true rfl) (Nat.le_of_ble_eq_true rfl) (Nat.le_of_ble_eq_true rfl) hlocks (xthrow hS hP hD [] (by decide) rfl (by first | exact ⟨rfl, by omega⟩ | rfl)) hS.2.2 (Nat.le_of_ble_eq_true rfl) (Nat.le_of_ble_eq_true rfl)
  exact KH s.heap [] hP hD hS
abbrev rmX8_currentDistances : Room := { frames := 3, cells := 0, slots := 0, locals := 70 }
set_option maxHeartbeats 4000000 in
set_option maxRecDepth 100000 in
theorem mX8_currentDistances (l : Launch) (G : GG) (x : Nat) (st : Nat) (sv : Nat) (bu : Nat) (di : Nat) (se : Nat) (wy : Nat) (ta : Nat) (tt : Nat) (rp : Nat) (t0 : Nat) (t1 : Nat) (al : Int) (a0 : Nat) (n0 : Int) (g0 : Int → Int) (a1 : Nat) (n1 : Int) (g1 : Int → Int) (db : Nat) (dh : Int → Int) (hn0 : 0 ≤ n0 ∧ n0 ≤ 20) (hn1 : 0 ≤ n1 ∧ n1 ≤ 20) (hg0 : ∀ j : Int, 0 ≤ j → j < n0 → 0 ≤ g0 j ∧ g0 j < 4) (hg1 : ∀ j : Int, 0 ≤ j → j < n1 → 0 ≤ g1 j ∧ g1 j < 4) : Ct l yX8_currentDistances cX8_currentDistances 1 (some (.object "BlockDistance$Grid")) rmX8_currentDistances G [.ref x] [bBD G x st sv bu di se wy ta tt rp, bState G st t0 t1 al, bText G t0 a0 n0 g0, bText G t1 a1 n1 g1, bGrid G di db dh] (fun uo : (Int → Int) => some (.ref di)) (fun uo => (∀ x y : Int, 0 ≤ x → x ≤ n0 → 0 ≤ y → y ≤ n1 → uo (x * 21 + y) = D 1 g0 g1 x y)) (fun uo => [bBD G x st sv bu di se wy ta tt rp, bState G st t0 t1 al, bText G t0 a0 n0 g0, bText G t1 a1 n1 g1, bGrid G di db uo]) := by
  refine cof (by decide) (Nat.le_of_ble_eq_true rfl) ?_
  intro p e s m args below meth c A ls hx hb hr hml hown hts hlocks hin hA hK hP hD hS hl Q hQ
  have hown : s.vm.findClass RX8 = some m.cls := hown
  have hl : lv_has ls 1 [(0, .ref x)] := hl
  have KH : ∀ (H : Heap) (locs : List Loc), wP G [bBD G x st sv bu di se wy ta tt rp, bState G st t0 t1 al, bText G t0 a0 n0 g0, bText G t1 a1 n1 g1, bGrid G di db dh] H → wD A [bBD G x st sv bu di se wy ta tt rp, bState G st t0 t1 al, bText G t0 a0 n0 g0, bText G t1 a1 n1 g1, bGrid G di db dh] → va_S A s.heap H locs → W p l e rmX8_currentDistances s m args below meth c H locs 0 0 Q (F0 m 0 ls []) := by
    intro H locs hP hD hS
    refine lv_aload_n hx hb dX8_currentDistances_0 rfl (lv_at hl 0 rfl) ?_
    refine va_get (ci := 8) (v := .ref di) (C := RX8) (T := TX8) (N := 9) hx hb hts wfX8 hown hK.1 hP 0 rfl rfl 3 (by decide) (hts _ wm169) (fun _ h9 => h9) rfl dX8_currentDistances_1 ?_
    refine lv_aload_n hx hb dX8_currentDistances_4 rfl (lv_at hl 0 rfl) ?_
    refine va_get (ci := 8) (v := .ref st) (C := RX8) (T := TX8) (N := 9) hx hb hts wfX8 hown hK.1 hP 0 rfl rfl 0 (by decide) (hts _ wm166) (fun _ h9 => h9) rfl dX8_currentDistances_5 ?_
    refine jv_iconst hx hb dX8_currentDistances_8 ?_
    refine kV ⟨hx, hb, hml, hown, hts⟩ hK hA hS hP hD [.int (jz 0)] [.ref di] (mX5_text_0 l G st t0 t1 al 0 (by omega) (by omega)) lkX8_87 [1] [0, 2, 3, 4] (br := [bBD G x st sv bu di se wy ta tt rp, bText G t0 a0 n0 g0, bText G t1 a1 n1 g1, bGrid G di db dh]) rfl rfl (by decide) 0 5 rfl rfl rfl rfl (Nat.le_of_ble_eq_true rfl) hl.1 dX8_currentDistances_9 ⟨Nat.le_of_ble_eq_true rfl, Nat.le_of_ble_eq_true rfl⟩ ⟨Nat.le_of_ble_eq_true rfl, Nat.le_of_ble_eq_true rfl⟩ (fun u9 H locs hp9 hP hD hS => ?_)
    have hP : wP G [bBD G x st sv bu di se wy ta tt rp, bText G t0 a0 n0 g0, bText G t1 a1 n1 g1, bGrid G di db dh, bState G st t0 t1 al] H := hP
    have hD : wD A [bBD G x st sv bu di se wy ta tt rp, bText G t0 a0 n0 g0, bText G t1 a1 n1 g1, bGrid G di db dh, bState G st t0 t1 al] := hD
    show W p l e rmX8_currentDistances s m args below meth c H locs 0 0 Q (F0 m 12 ls [.ref t0, .ref di])
    refine lv_aload_n hx hb dX8_currentDistances_12 rfl (lv_at hl 0 rfl) ?_
    refine va_get (ci := 8) (v := .ref st) (C := RX8) (T := TX8) (N := 9) hx hb hts wfX8 hown hK.1 hP 0 rfl rfl 0 (by decide) (hts _ wm166) (fun _ h9 => h9) rfl dX8_currentDistances_13 ?_
    refine jv_iconst hx hb dX8_currentDistances_16 ?_
    refine kV ⟨hx, hb, hml, hown, hts⟩ hK hA hS hP hD [.int (jz 1)] [.ref t0, .ref di] (mX5_text_1 l G st t0 t1 al 1 (by omega) (by omega)) lkX8_87 [4] [0, 1, 2, 3] (br := [bBD G x st sv bu di se wy ta tt rp, bText G t0 a0 n0 g0, bText G t1 a1 n1 g1, bGrid G di db dh]) rfl rfl (by decide) 0 5 rfl rfl rfl rfl (Nat.le_of_ble_eq_true rfl) hl.1 dX8_currentDistances_17 ⟨Nat.le_of_ble_eq_true rfl, Nat.le_of_ble_eq_true rfl⟩ ⟨Nat.le_of_ble_eq_true rfl, Nat.le_of_ble_eq_true rfl⟩ (fun u9 H locs hp9 hP hD hS => ?_)
    have hP : wP G [bBD G x st sv bu di se wy ta tt rp, bText G t0 a0 n0 g0, bText G t1 a1 n1 g1, bGrid G di db dh, bState G st t0 t1 al] H := hP
    have hD : wD A [bBD G x st sv bu di se wy ta tt rp, bText G t0 a0 n0 g0, bText G t1 a1 n1 g1, bGrid G di db dh, bState G st t0 t1 al] := hD
    show W p l e rmX8_currentDistances s m args below meth c H locs 0 0 Q (F0 m 20 ls [.ref t1, .ref t0, .ref di])
    refine jv_iconst hx hb dX8_currentDistances_20 ?_
    refine kV ⟨hx, hb, hml, hown, hts⟩ hK hA hS hP hD [.ref t0, .ref t1, .int (jz 1)] [] (mX1_fill l G di db dh t0 a0 n0 g0 t1 a1 n1 g1 1 (by omega) (by omega) (by omega) (by exact hg0) (by exact hg1)) lkX8_286 [3, 1, 2] [0, 4] (br := [bBD G x st sv bu di se wy ta tt rp, bState G st t0 t1 al]) rfl rfl (by decide) 0 1 rfl rfl rfl rfl (Nat.le_of_ble_eq_true rfl) hl.1 dX8_currentDistances_21 ⟨Nat.le_of_ble_eq_true rfl, Nat.le_of_ble_eq_true rfl⟩ ⟨Nat.le_of_ble_eq_true rfl, Nat.le_of_ble_eq_true rfl⟩ (fun u9 H locs hp9 hP hD hS => ?_)
    obtain ⟨u_3, rfl⟩ : ∃ z, z = u9 := ⟨_, rfl⟩
    have hc_4 : ∀ x y : Int, 0 ≤ x → x ≤ n0 → 0 ≤ y → y ≤ n1 → u_3 (x * 21 + y) = D 1 g0 g1 x y := hp9
    have hP : wP G [bBD G x st sv bu di se wy ta tt rp, bState G st t0 t1 al, bGrid G di db u_3, bText G t0 a0 n0 g0, bText G t1 a1 n1 g1] H := hP
    have hD : wD A [bBD G x st sv bu di se wy ta tt rp, bState G st t0 t1 al, bGrid G di db u_3, bText G t0 a0 n0 g0, bText G t1 a1 n1 g1] := hD
    show W p l e rmX8_currentDistances s m args below meth c H locs 0 0 Q (F0 m 24 ls [])
    have hc1 := hc_4
    refine lv_aload_n hx hb dX8_currentDistances_24 rfl (lv_at hl 0 rfl) ?_
    refine va_get (ci := 8) (v := .ref di) (C := RX8) (T := TX8) (N := 9) hx hb hts wfX8 hown hK.1 hP 0 rfl rfl 3 (by decide) (hts _ wm169) (fun _ h9 => h9) rfl dX8_currentDistances_25 ?_
    exact cret_r hx hb hr hlocks hS hP hD (Nat.le_of_ble_eq_true rfl) (Nat.le_of_ble_eq_true rfl) dX8_currentDistances_28 [0, 1, 3, 4, 2] (by decide) u_3 rfl (show ∀ x y : Int, 0 ≤ x → x ≤ n0 → 0 ≤ y → y ≤ n1 → u_3 (x * 21 + y) = D 1 g0 g1 x y from hc1) (congrArg (fun z : Nat => some (Value.ref z)) (show di = di from by rfl)) hQ
  exact KH s.heap [] hP hD hS
abbrev rmX8_currentSearch : Room := { frames := 3, cells := 0, slots := 0, locals := 70 }
set_option maxHeartbeats 4000000 in
set_option maxRecDepth 100000 in
theorem mX8_currentSearch (l : Launch) (G : GG) (x : Nat) (st : Nat) (sv : Nat) (bu : Nat) (di : Nat) (se : Nat) (wy : Nat) (ta : Nat) (tt : Nat) (rp : Nat) (t0 : Nat) (t1 : Nat) (al : Int) (a0 : Nat) (n0 : Int) (g0 : Int → Int) (a1 : Nat) (n1 : Int) (g1 : Int → Int) (sb : Nat) (sh : Int → Int) (hn0 : 0 ≤ n0 ∧ n0 ≤ 20) (hn1 : 0 ≤ n1 ∧ n1 ≤ 20) (hg0 : ∀ j : Int, 0 ≤ j → j < n0 → 0 ≤ g0 j ∧ g0 j < 4) (hg1 : ∀ j : Int, 0 ≤ j → j < n1 → 0 ≤ g1 j ∧ g1 j < 4) : Ct l yX8_currentSearch cX8_currentSearch 1 (some (.object "BlockDistance$Grid")) rmX8_currentSearch G [.ref x] [bBD G x st sv bu di se wy ta tt rp, bState G st t0 t1 al, bText G t0 a0 n0 g0, bText G t1 a1 n1 g1, bGrid G se sb sh] (fun uo : (Int → Int) => some (.ref se)) (fun uo => (∀ x y : Int, 0 ≤ x → x ≤ n0 → 0 ≤ y → y ≤ n1 → uo (x * 21 + y) = D 0 g0 g1 x y)) (fun uo => [bBD G x st sv bu di se wy ta tt rp, bState G st t0 t1 al, bText G t0 a0 n0 g0, bText G t1 a1 n1 g1, bGrid G se sb uo]) := by
  refine cof (by decide) (Nat.le_of_ble_eq_true rfl) ?_
  intro p e s m args below meth c A ls hx hb hr hml hown hts hlocks hin hA hK hP hD hS hl Q hQ
  have hown : s.vm.findClass RX8 = some m.cls := hown
  have hl : lv_has ls 1 [(0, .ref x)] := hl
  have KH : ∀ (H : Heap) (locs : List Loc), wP G [bBD G x st sv bu di se wy ta tt rp, bState G st t0 t1 al, bText G t0 a0 n0 g0, bText G t1 a1 n1 g1, bGrid G se sb sh] H → wD A [bBD G x st sv bu di se wy ta tt rp, bState G st t0 t1 al, bText G t0 a0 n0 g0, bText G t1 a1 n1 g1, bGrid G se sb sh] → va_S A s.heap H locs → W p l e rmX8_currentSearch s m args below meth c H locs 0 0 Q (F0 m 0 ls []) := by
    intro H locs hP hD hS
    refine lv_aload_n hx hb dX8_currentSearch_0 rfl (lv_at hl 0 rfl) ?_
    refine va_get (ci := 8) (v := .ref se) (C := RX8) (T := TX8) (N := 9) hx hb hts wfX8 hown hK.1 hP 0 rfl rfl 4 (by decide) (hts _ wm170) (fun _ h9 => h9) rfl dX8_currentSearch_1 ?_
    refine lv_aload_n hx hb dX8_currentSearch_4 rfl (lv_at hl 0 rfl) ?_
    refine va_get (ci := 8) (v := .ref st) (C := RX8) (T := TX8) (N := 9) hx hb hts wfX8 hown hK.1 hP 0 rfl rfl 0 (by decide) (hts _ wm166) (fun _ h9 => h9) rfl dX8_currentSearch_5 ?_
    refine jv_iconst hx hb dX8_currentSearch_8 ?_
    refine kV ⟨hx, hb, hml, hown, hts⟩ hK hA hS hP hD [.int (jz 0)] [.ref se] (mX5_text_0 l G st t0 t1 al 0 (by omega) (by omega)) lkX8_87 [1] [0, 2, 3, 4] (br := [bBD G x st sv bu di se wy ta tt rp, bText G t0 a0 n0 g0, bText G t1 a1 n1 g1, bGrid G se sb sh]) rfl rfl (by decide) 0 5 rfl rfl rfl rfl (Nat.le_of_ble_eq_true rfl) hl.1 dX8_currentSearch_9 ⟨Nat.le_of_ble_eq_true rfl, Nat.le_of_ble_eq_true rfl⟩ ⟨Nat.le_of_ble_eq_true rfl, Nat.le_of_ble_eq_true rfl⟩ (fun u9 H locs hp9 hP hD hS => ?_)
    have hP : wP G [bBD G x st sv bu di se wy ta tt rp, bText G t0 a0 n0 g0, bText G t1 a1 n1 g1, bGrid G se sb sh, bState G st t0 t1 al] H := hP
    have hD : wD A [bBD G x st sv bu di se wy ta tt rp, bText G t0 a0 n0 g0, bText G t1 a1 n1 g1, bGrid G se sb sh, bState G st t0 t1 al] := hD
    show W p l e rmX8_currentSearch s m args below meth c H locs 0 0 Q (F0 m 12 ls [.ref t0, .ref se])
    refine lv_aload_n hx hb dX8_currentSearch_12 rfl (lv_at hl 0 rfl) ?_
    refine va_get (ci := 8) (v := .ref st) (C := RX8) (T := TX8) (N := 9) hx hb hts wfX8 hown hK.1 hP 0 rfl rfl 0 (by decide) (hts _ wm166) (fun _ h9 => h9) rfl dX8_currentSearch_13 ?_
    refine jv_iconst hx hb dX8_currentSearch_16 ?_
    refine kV ⟨hx, hb, hml, hown, hts⟩ hK hA hS hP hD [.int (jz 1)] [.ref t0, .ref se] (mX5_text_1 l G st t0 t1 al 1 (by omega) (by omega)) lkX8_87 [4] [0, 1, 2, 3] (br := [bBD G x st sv bu di se wy ta tt rp, bText G t0 a0 n0 g0, bText G t1 a1 n1 g1, bGrid G se sb sh]) rfl rfl (by decide) 0 5 rfl rfl rfl rfl (Nat.le_of_ble_eq_true rfl) hl.1 dX8_currentSearch_17 ⟨Nat.le_of_ble_eq_true rfl, Nat.le_of_ble_eq_true rfl⟩ ⟨Nat.le_of_ble_eq_true rfl, Nat.le_of_ble_eq_true rfl⟩ (fun u9 H locs hp9 hP hD hS => ?_)
    have hP : wP G [bBD G x st sv bu di se wy ta tt rp, bText G t0 a0 n0 g0, bText G t1 a1 n1 g1, bGrid G se sb sh, bState G st t0 t1 al] H := hP
    have hD : wD A [bBD G x st sv bu di se wy ta tt rp, bText G t0 a0 n0 g0, bText G t1 a1 n1 g1, bGrid G se sb sh, bState G st t0 t1 al] := hD
    show W p l e rmX8_currentSearch s m args below meth c H locs 0 0 Q (F0 m 20 ls [.ref t1, .ref t0, .ref se])
    refine jv_iconst hx hb dX8_currentSearch_20 ?_
    refine kV ⟨hx, hb, hml, hown, hts⟩ hK hA hS hP hD [.ref t0, .ref t1, .int (jz 0)] [] (mX1_fill l G se sb sh t0 a0 n0 g0 t1 a1 n1 g1 0 (by omega) (by omega) (by omega) (by exact hg0) (by exact hg1)) lkX8_286 [3, 1, 2] [0, 4] (br := [bBD G x st sv bu di se wy ta tt rp, bState G st t0 t1 al]) rfl rfl (by decide) 0 1 rfl rfl rfl rfl (Nat.le_of_ble_eq_true rfl) hl.1 dX8_currentSearch_21 ⟨Nat.le_of_ble_eq_true rfl, Nat.le_of_ble_eq_true rfl⟩ ⟨Nat.le_of_ble_eq_true rfl, Nat.le_of_ble_eq_true rfl⟩ (fun u9 H locs hp9 hP hD hS => ?_)
    obtain ⟨u_3, rfl⟩ : ∃ z, z = u9 := ⟨_, rfl⟩
    have hc_4 : ∀ x y : Int, 0 ≤ x → x ≤ n0 → 0 ≤ y → y ≤ n1 → u_3 (x * 21 + y) = D 0 g0 g1 x y := hp9
    have hP : wP G [bBD G x st sv bu di se wy ta tt rp, bState G st t0 t1 al, bGrid G se sb u_3, bText G t0 a0 n0 g0, bText G t1 a1 n1 g1] H := hP
    have hD : wD A [bBD G x st sv bu di se wy ta tt rp, bState G st t0 t1 al, bGrid G se sb u_3, bText G t0 a0 n0 g0, bText G t1 a1 n1 g1] := hD
    show W p l e rmX8_currentSearch s m args below meth c H locs 0 0 Q (F0 m 24 ls [])
    have hc1 := hc_4
    refine lv_aload_n hx hb dX8_currentSearch_24 rfl (lv_at hl 0 rfl) ?_
    refine va_get (ci := 8) (v := .ref se) (C := RX8) (T := TX8) (N := 9) hx hb hts wfX8 hown hK.1 hP 0 rfl rfl 4 (by decide) (hts _ wm170) (fun _ h9 => h9) rfl dX8_currentSearch_25 ?_
    exact cret_r hx hb hr hlocks hS hP hD (Nat.le_of_ble_eq_true rfl) (Nat.le_of_ble_eq_true rfl) dX8_currentSearch_28 [0, 1, 3, 4, 2] (by decide) u_3 rfl (show ∀ x y : Int, 0 ≤ x → x ≤ n0 → 0 ≤ y → y ≤ n1 → u_3 (x * 21 + y) = D 0 g0 g1 x y from hc1) (congrArg (fun z : Nat => some (Value.ref z)) (show se = se from by rfl)) hQ
  exact KH s.heap [] hP hD hS
abbrev rmX8_distance : Room := { frames := 4, cells := 0, slots := 0, locals := 90 }
set_option maxHeartbeats 4000000 in
set_option maxRecDepth 100000 in
theorem mX8_distance (l : Launch) (G : GG) (x : Nat) (st : Nat) (sv : Nat) (bu : Nat) (di : Nat) (se : Nat) (wy : Nat) (ta : Nat) (tt : Nat) (rp : Nat) (t0 : Nat) (t1 : Nat) (al : Int) (a0 : Nat) (n0 : Int) (g0 : Int → Int) (a1 : Nat) (n1 : Int) (g1 : Int → Int) (db : Nat) (dh : Int → Int) (hn0 : 0 ≤ n0 ∧ n0 ≤ 20) (hn1 : 0 ≤ n1 ∧ n1 ≤ 20) (hg0 : ∀ j : Int, 0 ≤ j → j < n0 → 0 ≤ g0 j ∧ g0 j < 4) (hg1 : ∀ j : Int, 0 ≤ j → j < n1 → 0 ≤ g1 j ∧ g1 j < 4) : Ct l yX8_distance cX8_distance 1 (some .int) rmX8_distance G [.ref x] [bBD G x st sv bu di se wy ta tt rp, bState G st t0 t1 al, bText G t0 a0 n0 g0, bText G t1 a1 n1 g1, bGrid G di db dh] (fun uo : (Int → Int) => some (.int (jz (D 1 g0 g1 n0 n1)))) (fun uo => True) (fun uo => [bBD G x st sv bu di se wy ta tt rp, bState G st t0 t1 al, bText G t0 a0 n0 g0, bText G t1 a1 n1 g1, bGrid G di db uo]) := by
  refine cof (by decide) (Nat.le_of_ble_eq_true rfl) ?_
  intro p e s m args below meth c A ls hx hb hr hml hown hts hlocks hin hA hK hP hD hS hl Q hQ
  have hown : s.vm.findClass RX8 = some m.cls := hown
  have hl : lv_has ls 1 [(0, .ref x)] := hl
  have KH : ∀ (H : Heap) (locs : List Loc), wP G [bBD G x st sv bu di se wy ta tt rp, bState G st t0 t1 al, bText G t0 a0 n0 g0, bText G t1 a1 n1 g1, bGrid G di db dh] H → wD A [bBD G x st sv bu di se wy ta tt rp, bState G st t0 t1 al, bText G t0 a0 n0 g0, bText G t1 a1 n1 g1, bGrid G di db dh] → va_S A s.heap H locs → W p l e rmX8_distance s m args below meth c H locs 0 0 Q (F0 m 0 ls []) := by
    intro H locs hP hD hS
    refine lv_aload_n hx hb dX8_distance_0 rfl (lv_at hl 0 rfl) ?_
    refine kV ⟨hx, hb, hml, hown, hts⟩ hK hA hS hP hD [] [] (mX8_currentDistances l G x st sv bu di se wy ta tt rp t0 t1 al a0 n0 g0 a1 n1 g1 db dh (by omega) (by omega) (by exact hg0) (by exact hg1)) lkX8_146 [0, 1, 2, 3, 4] [] (br := []) rfl rfl (by decide) 0 8 rfl rfl rfl rfl (Nat.le_of_ble_eq_true rfl) hl.1 dX8_distance_1 ⟨Nat.le_of_ble_eq_true rfl, Nat.le_of_ble_eq_true rfl⟩ ⟨Nat.le_of_ble_eq_true rfl, Nat.le_of_ble_eq_true rfl⟩ (fun u9 H locs hp9 hP hD hS => ?_)
    obtain ⟨u_1, rfl⟩ : ∃ z, z = u9 := ⟨_, rfl⟩
    have hc_2 : ∀ x y : Int, 0 ≤ x → x ≤ n0 → 0 ≤ y → y ≤ n1 → u_1 (x * 21 + y) = D 1 g0 g1 x y := hp9
    have hP : wP G [bBD G x st sv bu di se wy ta tt rp, bState G st t0 t1 al, bText G t0 a0 n0 g0, bText G t1 a1 n1 g1, bGrid G di db u_1] H := hP
    have hD : wD A [bBD G x st sv bu di se wy ta tt rp, bState G st t0 t1 al, bText G t0 a0 n0 g0, bText G t1 a1 n1 g1, bGrid G di db u_1] := hD
    show W p l e rmX8_distance s m args below meth c H locs 0 0 Q (F0 m 4 ls [.ref di])
    have hc1 := hc_2
    refine lv_aload_n hx hb dX8_distance_4 rfl (lv_at hl 0 rfl) ?_
    refine va_get (ci := 8) (v := .ref st) (C := RX8) (T := TX8) (N := 9) hx hb hts wfX8 hown hK.1 hP 0 rfl rfl 0 (by decide) (hts _ wm166) (fun _ h9 => h9) rfl dX8_distance_5 ?_
    refine jv_iconst hx hb dX8_distance_8 ?_
    refine kV ⟨hx, hb, hml, hown, hts⟩ hK hA hS hP hD [.int (jz 0)] [.ref di] (mX5_text_0 l G st t0 t1 al 0 (by omega) (by omega)) lkX8_87 [1] [0, 2, 3, 4] (br := [bBD G x st sv bu di se wy ta tt rp, bText G t0 a0 n0 g0, bText G t1 a1 n1 g1, bGrid G di db u_1]) rfl rfl (by decide) 0 5 rfl rfl rfl rfl (Nat.le_of_ble_eq_true rfl) hl.1 dX8_distance_9 ⟨Nat.le_of_ble_eq_true rfl, Nat.le_of_ble_eq_true rfl⟩ ⟨Nat.le_of_ble_eq_true rfl, Nat.le_of_ble_eq_true rfl⟩ (fun u9 H locs hp9 hP hD hS => ?_)
    have hP : wP G [bBD G x st sv bu di se wy ta tt rp, bText G t0 a0 n0 g0, bText G t1 a1 n1 g1, bGrid G di db u_1, bState G st t0 t1 al] H := hP
    have hD : wD A [bBD G x st sv bu di se wy ta tt rp, bText G t0 a0 n0 g0, bText G t1 a1 n1 g1, bGrid G di db u_1, bState G st t0 t1 al] := hD
    show W p l e rmX8_distance s m args below meth c H locs 0 0 Q (F0 m 12 ls [.ref t0, .ref di])
    refine kV ⟨hx, hb, hml, hown, hts⟩ hK hA hS hP hD [] [.ref di] (mX6_size l G t0 a0 n0 g0 ) lkX8_95 [1] [0, 2, 3, 4] (br := [bBD G x st sv bu di se wy ta tt rp, bText G t1 a1 n1 g1, bGrid G di db u_1, bState G st t0 t1 al]) rfl rfl (by decide) 0 6 rfl rfl rfl rfl (Nat.le_of_ble_eq_true rfl) hl.1 dX8_distance_12 ⟨Nat.le_of_ble_eq_true rfl, Nat.le_of_ble_eq_true rfl⟩ ⟨Nat.le_of_ble_eq_true rfl, Nat.le_of_ble_eq_true rfl⟩ (fun u9 H locs hp9 hP hD hS => ?_)
    have hP : wP G [bBD G x st sv bu di se wy ta tt rp, bText G t1 a1 n1 g1, bGrid G di db u_1, bState G st t0 t1 al, bText G t0 a0 n0 g0] H := hP
    have hD : wD A [bBD G x st sv bu di se wy ta tt rp, bText G t1 a1 n1 g1, bGrid G di db u_1, bState G st t0 t1 al, bText G t0 a0 n0 g0] := hD
    show W p l e rmX8_distance s m args below meth c H locs 0 0 Q (F0 m 15 ls [.int (jz n0), .ref di])
    refine lv_aload_n hx hb dX8_distance_15 rfl (lv_at hl 0 rfl) ?_
    refine va_get (ci := 8) (v := .ref st) (C := RX8) (T := TX8) (N := 9) hx hb hts wfX8 hown hK.1 hP 0 rfl rfl 0 (by decide) (hts _ wm166) (fun _ h9 => h9) rfl dX8_distance_16 ?_
    refine jv_iconst hx hb dX8_distance_19 ?_
    refine kV ⟨hx, hb, hml, hown, hts⟩ hK hA hS hP hD [.int (jz 1)] [.int (jz n0), .ref di] (mX5_text_1 l G st t0 t1 al 1 (by omega) (by omega)) lkX8_87 [3] [0, 1, 2, 4] (br := [bBD G x st sv bu di se wy ta tt rp, bText G t1 a1 n1 g1, bGrid G di db u_1, bText G t0 a0 n0 g0]) rfl rfl (by decide) 0 5 rfl rfl rfl rfl (Nat.le_of_ble_eq_true rfl) hl.1 dX8_distance_20 ⟨Nat.le_of_ble_eq_true rfl, Nat.le_of_ble_eq_true rfl⟩ ⟨Nat.le_of_ble_eq_true rfl, Nat.le_of_ble_eq_true rfl⟩ (fun u9 H locs hp9 hP hD hS => ?_)
    have hP : wP G [bBD G x st sv bu di se wy ta tt rp, bText G t1 a1 n1 g1, bGrid G di db u_1, bText G t0 a0 n0 g0, bState G st t0 t1 al] H := hP
    have hD : wD A [bBD G x st sv bu di se wy ta tt rp, bText G t1 a1 n1 g1, bGrid G di db u_1, bText G t0 a0 n0 g0, bState G st t0 t1 al] := hD
    show W p l e rmX8_distance s m args below meth c H locs 0 0 Q (F0 m 23 ls [.ref t1, .int (jz n0), .ref di])
    refine kV ⟨hx, hb, hml, hown, hts⟩ hK hA hS hP hD [] [.int (jz n0), .ref di] (mX6_size l G t1 a1 n1 g1 ) lkX8_95 [1] [0, 2, 3, 4] (br := [bBD G x st sv bu di se wy ta tt rp, bGrid G di db u_1, bText G t0 a0 n0 g0, bState G st t0 t1 al]) rfl rfl (by decide) 0 6 rfl rfl rfl rfl (Nat.le_of_ble_eq_true rfl) hl.1 dX8_distance_23 ⟨Nat.le_of_ble_eq_true rfl, Nat.le_of_ble_eq_true rfl⟩ ⟨Nat.le_of_ble_eq_true rfl, Nat.le_of_ble_eq_true rfl⟩ (fun u9 H locs hp9 hP hD hS => ?_)
    have hP : wP G [bBD G x st sv bu di se wy ta tt rp, bGrid G di db u_1, bText G t0 a0 n0 g0, bState G st t0 t1 al, bText G t1 a1 n1 g1] H := hP
    have hD : wD A [bBD G x st sv bu di se wy ta tt rp, bGrid G di db u_1, bText G t0 a0 n0 g0, bState G st t0 t1 al, bText G t1 a1 n1 g1] := hD
    show W p l e rmX8_distance s m args below meth c H locs 0 0 Q (F0 m 26 ls [.int (jz n1), .int (jz n0), .ref di])
    refine kV ⟨hx, hb, hml, hown, hts⟩ hK hA hS hP hD [.int (jz n0), .int (jz n1)] [] (mX1_at l G di db u_1 n0 n1 (by omega) (by omega)) lkX8_150 [1] [0, 2, 3, 4] (br := [bBD G x st sv bu di se wy ta tt rp, bText G t0 a0 n0 g0, bState G st t0 t1 al, bText G t1 a1 n1 g1]) rfl rfl (by decide) 0 1 rfl rfl rfl rfl (Nat.le_of_ble_eq_true rfl) hl.1 dX8_distance_26 ⟨Nat.le_of_ble_eq_true rfl, Nat.le_of_ble_eq_true rfl⟩ ⟨Nat.le_of_ble_eq_true rfl, Nat.le_of_ble_eq_true rfl⟩ (fun u9 H locs hp9 hP hD hS => ?_)
    have hP : wP G [bBD G x st sv bu di se wy ta tt rp, bText G t0 a0 n0 g0, bState G st t0 t1 al, bText G t1 a1 n1 g1, bGrid G di db u_1] H := hP
    have hD : wD A [bBD G x st sv bu di se wy ta tt rp, bText G t0 a0 n0 g0, bState G st t0 t1 al, bText G t1 a1 n1 g1, bGrid G di db u_1] := hD
    show W p l e rmX8_distance s m args below meth c H locs 0 0 Q (F0 m 29 ls [.int (jz (u_1 (n0 * 21 + n1)))])
    exact cret_i hx hb hr hlocks hS hP hD (Nat.le_of_ble_eq_true rfl) (Nat.le_of_ble_eq_true rfl) rfl dX8_distance_29 [0, 2, 1, 3, 4] (by decide) u_1 rfl trivial (congrArg (fun z : Int => some (Value.int (jz z))) (show (u_1 (n0 * 21 + n1)) = D 1 g0 g1 n0 n1 from by exact hc1 n0 n1 (by omega) (by omega) (by omega) (by omega))) hQ
  exact KH s.heap [] hP hD hS
abbrev rmX8_prefix : Room := { frames := 7, cells := 1, slots := 6, locals := 123 }
set_option maxHeartbeats 4000000 in
set_option maxRecDepth 100000 in
theorem mX8_prefix (l : Launch) (hl0 : l.stackTraces = false) (G : GG) (x : Nat) (st : Nat) (sv : Nat) (bu : Nat) (di : Nat) (se : Nat) (wy : Nat) (ta : Nat) (tt : Nat) (rp : Nat) (t0 : Nat) (t1 : Nat) (al : Int) (a0 : Nat) (n0 : Int) (g0 : Int → Int) (a1 : Nat) (n1 : Int) (g1 : Int → Int) (db : Nat) (dh : Int → Int) (i : Int) (j : Int) (hn0 : 0 ≤ n0 ∧ n0 ≤ 20) (hn1 : 0 ≤ n1 ∧ n1 ≤ 20) (hg0 : ∀ j : Int, 0 ≤ j → j < n0 → 0 ≤ g0 j ∧ g0 j < 4) (hg1 : ∀ j : Int, 0 ≤ j → j < n1 → 0 ≤ g1 j ∧ g1 j < 4) (hi : jr i) (hj : jr j) : Xt l yX8_prefix cX8_prefix 3 (some .int) rmX8_prefix G [.ref x, .int (jz i), .int (jz j)] [bBD G x st sv bu di se wy ta tt rp, bState G st t0 t1 al, bText G t0 a0 n0 g0, bText G t1 a1 n1 g1, bGrid G di db dh] (fun uo : (Int → Int) => some (.int (jz (D 1 g0 g1 i j)))) (fun uo => (0 ≤ i ∧ i ≤ n0 ∧ 0 ≤ j ∧ j ≤ n1)) (fun uo => [bBD G x st sv bu di se wy ta tt rp, bState G st t0 t1 al, bText G t0 a0 n0 g0, bText G t1 a1 n1 g1, bGrid G di db uo]) (fun E => E = "java/lang/IndexOutOfBoundsException" ∧ ¬ (0 ≤ i ∧ i ≤ n0 ∧ 0 ≤ j ∧ j ≤ n1)) := by
  refine xof (by decide) (Nat.le_of_ble_eq_true rfl) ?_
  intro p e s m args below meth c A ls hx hb hr hml hown hts hlocks hin hA hK hP hD hS hl hX hout Q hQ
  have hown : s.vm.findClass RX8 = some m.cls := hown
  have hl : lv_has ls 3 [(0, .ref x), (1, .int (jz i)), (2, .int (jz j))] := hl
  have KH : ∀ (H : Heap) (locs : List Loc), wP G [bBD G x st sv bu di se wy ta tt rp, bState G st t0 t1 al, bText G t0 a0 n0 g0, bText G t1 a1 n1 g1, bGrid G di db dh] H → wD A [bBD G x st sv bu di se wy ta tt rp, bState G st t0 t1 al, bText G t0 a0 n0 g0, bText G t1 a1 n1 g1, bGrid G di db dh] → va_S A s.heap H locs → W p l e rmX8_prefix s m args below meth c H locs 0 0 Q (F0 m 0 ls []) := by
    intro H locs hP hD hS
    refine lv_aload_n hx hb dX8_prefix_0 rfl (lv_at hl 0 rfl) ?_
    refine lv_iload_n hx hb dX8_prefix_1 rfl (lv_at hl 1 rfl) ?_
    refine lv_iload_n hx hb dX8_prefix_2 rfl (lv_at hl 2 rfl) ?_
    refine jv_iconst hx hb dX8_prefix_3 ?_
    refine xkV ⟨hx, hb, hml, hown, hts⟩ hK hA hS hP hD [.int (jz i), .int (jz j), .int (jz 0)] [] (mX8_checkPrefixes l hl0 G x st sv bu di se wy ta tt rp t0 t1 al a0 n0 g0 a1 n1 g1 i j 0 (by omega) (by omega) (by omega) (by omega) (by omega)) lkX8_153 [0, 1, 2, 3] [4] (br := [bGrid G di db dh]) rfl rfl (by decide) 0 8 rfl rfl rfl rfl (Nat.le_of_ble_eq_true rfl) hl.1 dX8_prefix_4 ⟨Nat.le_of_ble_eq_true rfl, Nat.le_of_ble_eq_true rfl⟩ ⟨Nat.le_of_ble_eq_true rfl, Nat.le_of_ble_eq_true rfl⟩ hX (fun E ce q9 H locs hE hP hD hS hce hcv hcl => xout hout hlocks hce hcv hcl hS hP hD [1, 2, 3, 4, 0] (by decide) rfl (by exact hE) (Nat.le_of_ble_eq_true rfl) (Nat.le_of_ble_eq_true rfl) hQ) (fun u9 H locs hp9 hP hD hS => ?_)
    have hc_2 : 0 ≤ i ∧ i ≤ n0 ∧ 0 ≤ j ∧ j ≤ n1 := hp9
    have hP : wP G [bGrid G di db dh, bBD G x st sv bu di se wy ta tt rp, bState G st t0 t1 al, bText G t0 a0 n0 g0, bText G t1 a1 n1 g1] H := hP
    have hD : wD A [bGrid G di db dh, bBD G x st sv bu di se wy ta tt rp, bState G st t0 t1 al, bText G t0 a0 n0 g0, bText G t1 a1 n1 g1] := hD
    show W p l e rmX8_prefix s m args below meth c H locs 1 6 Q (F0 m 7 ls [])
    have hb1 := hc_2
    refine lv_aload_n hx hb dX8_prefix_7 rfl (lv_at hl 0 rfl) ?_
    refine kV ⟨hx, hb, hml, hown, hts⟩ hK hA hS hP hD [] [] (mX8_currentDistances l G x st sv bu di se wy ta tt rp t0 t1 al a0 n0 g0 a1 n1 g1 db dh (by omega) (by omega) (by exact hg0) (by exact hg1)) lkX8_146 [1, 2, 3, 4, 0] [] (br := []) rfl rfl (by decide) 0 8 rfl rfl rfl rfl (Nat.le_of_ble_eq_true rfl) hl.1 dX8_prefix_8 ⟨Nat.le_of_ble_eq_true rfl, Nat.le_of_ble_eq_true rfl⟩ ⟨Nat.le_of_ble_eq_true rfl, Nat.le_of_ble_eq_true rfl⟩ (fun u9 H locs hp9 hP hD hS => ?_)
    obtain ⟨u_3, rfl⟩ : ∃ z, z = u9 := ⟨_, rfl⟩
    have hc_4 : ∀ x y : Int, 0 ≤ x → x ≤ n0 → 0 ≤ y → y ≤ n1 → u_3 (x * 21 + y) = D 1 g0 g1 x y := hp9
    have hP : wP G [bBD G x st sv bu di se wy ta tt rp, bState G st t0 t1 al, bText G t0 a0 n0 g0, bText G t1 a1 n1 g1, bGrid G di db u_3] H := hP
    have hD : wD A [bBD G x st sv bu di se wy ta tt rp, bState G st t0 t1 al, bText G t0 a0 n0 g0, bText G t1 a1 n1 g1, bGrid G di db u_3] := hD
    show W p l e rmX8_prefix s m args below meth c H locs 1 6 Q (F0 m 11 ls [.ref di])
    have hc1 := hc_4
    refine lv_iload_n hx hb dX8_prefix_11 rfl (lv_at hl 1 rfl) ?_
    refine lv_iload_n hx hb dX8_prefix_12 rfl (lv_at hl 2 rfl) ?_
    refine kV ⟨hx, hb, hml, hown, hts⟩ hK hA hS hP hD [.int (jz i), .int (jz j)] [] (mX1_at l G di db u_3 i j (by omega) (by omega)) lkX8_150 [4] [0, 1, 2, 3] (br := [bBD G x st sv bu di se wy ta tt rp, bState G st t0 t1 al, bText G t0 a0 n0 g0, bText G t1 a1 n1 g1]) rfl rfl (by decide) 0 1 rfl rfl rfl rfl (Nat.le_of_ble_eq_true rfl) hl.1 dX8_prefix_13 ⟨Nat.le_of_ble_eq_true rfl, Nat.le_of_ble_eq_true rfl⟩ ⟨Nat.le_of_ble_eq_true rfl, Nat.le_of_ble_eq_true rfl⟩ (fun u9 H locs hp9 hP hD hS => ?_)
    have hP : wP G [bBD G x st sv bu di se wy ta tt rp, bState G st t0 t1 al, bText G t0 a0 n0 g0, bText G t1 a1 n1 g1, bGrid G di db u_3] H := hP
    have hD : wD A [bBD G x st sv bu di se wy ta tt rp, bState G st t0 t1 al, bText G t0 a0 n0 g0, bText G t1 a1 n1 g1, bGrid G di db u_3] := hD
    show W p l e rmX8_prefix s m args below meth c H locs 1 6 Q (F0 m 16 ls [.int (jz (u_3 (i * 21 + j)))])
    rw [hQ]
    exact vx_ret (cret_i hx hb hr hlocks hS hP hD (Nat.le_of_ble_eq_true rfl) (Nat.le_of_ble_eq_true rfl) rfl dX8_prefix_16 [0, 1, 2, 3, 4] (by decide) u_3 rfl (show 0 ≤ i ∧ i ≤ n0 ∧ 0 ≤ j ∧ j ≤ n1 from hb1) (congrArg (fun z : Int => some (Value.int (jz z))) (show (u_3 (i * 21 + j)) = D 1 g0 g1 i j from by exact hc1 i j (by omega) (by omega) (by omega) (by omega))) rfl)
  exact KH s.heap [] hP hD hS
abbrev rmX8_across : Room := { frames := 7, cells := 1, slots := 6, locals := 123 }
set_option maxHeartbeats 4000000 in
set_option maxRecDepth 100000 in
theorem mX8_across (l : Launch) (hl0 : l.stackTraces = false) (G : GG) (x : Nat) (st : Nat) (sv : Nat) (bu : Nat) (di : Nat) (se : Nat) (wy : Nat) (ta : Nat) (tt : Nat) (rp : Nat) (t0 : Nat) (t1 : Nat) (al : Int) (a0 : Nat) (n0 : Int) (g0 : Int → Int) (a1 : Nat) (n1 : Int) (g1 : Int → Int) (db : Nat) (dh : Int → Int) (i : Int) (j : Int) (hn0 : 0 ≤ n0 ∧ n0 ≤ 20) (hn1 : 0 ≤ n1 ∧ n1 ≤ 20) (hg0 : ∀ j : Int, 0 ≤ j → j < n0 → 0 ≤ g0 j ∧ g0 j < 4) (hg1 : ∀ j : Int, 0 ≤ j → j < n1 → 0 ≤ g1 j ∧ g1 j < 4) (hi : jr i) (hj : jr j) : Xt l yX8_across cX8_across 3 (some .int) rmX8_across G [.ref x, .int (jz i), .int (jz j)] [bBD G x st sv bu di se wy ta tt rp, bState G st t0 t1 al, bText G t0 a0 n0 g0, bText G t1 a1 n1 g1, bGrid G di db dh] (fun uo : (Int → Int) => some (.int (jz (D 1 g0 g1 i j - D 1 g0 g1 i (j - 1))))) (fun uo => (0 ≤ i ∧ i ≤ n0 ∧ 1 ≤ j ∧ j ≤ n1)) (fun uo => [bBD G x st sv bu di se wy ta tt rp, bState G st t0 t1 al, bText G t0 a0 n0 g0, bText G t1 a1 n1 g1, bGrid G di db uo]) (fun E => E = "java/lang/IndexOutOfBoundsException" ∧ ¬ (0 ≤ i ∧ i ≤ n0 ∧ 1 ≤ j ∧ j ≤ n1)) := by
  refine xof (by decide) (Nat.le_of_ble_eq_true rfl) ?_
  intro p e s m args below meth c A ls hx hb hr hml hown hts hlocks hin hA hK hP hD hS hl hX hout Q hQ
  have hown : s.vm.findClass RX8 = some m.cls := hown
  have hl : lv_has ls 3 [(0, .ref x), (1, .int (jz i)), (2, .int (jz j))] := hl
  have KH : ∀ (H : Heap) (locs : List Loc), wP G [bBD G x st sv bu di se wy ta tt rp, bState G st t0 t1 al, bText G t0 a0 n0 g0, bText G t1 a1 n1 g1, bGrid G di db dh] H → wD A [bBD G x st sv bu di se wy ta tt rp, bState G st t0 t1 al, bText G t0 a0 n0 g0, bText G t1 a1 n1 g1, bGrid G di db dh] → va_S A s.heap H locs → W p l e rmX8_across s m args below meth c H locs 0 0 Q (F0 m 0 ls []) := by
    intro H locs hP hD hS
    refine lv_aload_n hx hb dX8_across_0 rfl (lv_at hl 0 rfl) ?_
    refine lv_iload_n hx hb dX8_across_1 rfl (lv_at hl 1 rfl) ?_
    refine lv_iload_n hx hb dX8_across_2 rfl (lv_at hl 2 rfl) ?_
    refine jv_iconst hx hb dX8_across_3 ?_
    refine xkV ⟨hx, hb, hml, hown, hts⟩ hK hA hS hP hD [.int (jz i), .int (jz j), .int (jz 1)] [] (mX8_checkPrefixes l hl0 G x st sv bu di se wy ta tt rp t0 t1 al a0 n0 g0 a1 n1 g1 i j 1 (by omega) (by omega) (by omega) (by omega) (by omega)) lkX8_153 [0, 1, 2, 3] [4] (br := [bGrid G di db dh]) rfl rfl (by decide) 0 8 rfl rfl rfl rfl (Nat.le_of_ble_eq_true rfl) hl.1 dX8_across_4 ⟨Nat.le_of_ble_eq_true rfl, Nat.le_of_ble_eq_true rfl⟩ ⟨Nat.le_of_ble_eq_true rfl, Nat.le_of_ble_eq_true rfl⟩ hX (fun E ce q9 H locs hE hP hD hS hce hcv hcl => xout hout hlocks hce hcv hcl hS hP hD [1, 2, 3, 4, 0] (by decide) rfl (by exact hE) (Nat.le_of_ble_eq_true rfl) (Nat.le_of_ble_eq_true rfl) hQ) (fun u9 H locs hp9 hP hD hS => ?_)
    have hc_2 : 0 ≤ i ∧ i ≤ n0 ∧ 1 ≤ j ∧ j ≤ n1 := hp9
    have hP : wP G [bGrid G di db dh, bBD G x st sv bu di se wy ta tt rp, bState G st t0 t1 al, bText G t0 a0 n0 g0, bText G t1 a1 n1 g1] H := hP
    have hD : wD A [bGrid G di db dh, bBD G x st sv bu di se wy ta tt rp, bState G st t0 t1 al, bText G t0 a0 n0 g0, bText G t1 a1 n1 g1] := hD
    show W p l e rmX8_across s m args below meth c H locs 1 6 Q (F0 m 7 ls [])
    have hb1 := hc_2
    refine lv_aload_n hx hb dX8_across_7 rfl (lv_at hl 0 rfl) ?_
    refine kV ⟨hx, hb, hml, hown, hts⟩ hK hA hS hP hD [] [] (mX8_currentDistances l G x st sv bu di se wy ta tt rp t0 t1 al a0 n0 g0 a1 n1 g1 db dh (by omega) (by omega) (by exact hg0) (by exact hg1)) lkX8_146 [1, 2, 3, 4, 0] [] (br := []) rfl rfl (by decide) 0 8 rfl rfl rfl rfl (Nat.le_of_ble_eq_true rfl) hl.1 dX8_across_8 ⟨Nat.le_of_ble_eq_true rfl, Nat.le_of_ble_eq_true rfl⟩ ⟨Nat.le_of_ble_eq_true rfl, Nat.le_of_ble_eq_true rfl⟩ (fun u9 H locs hp9 hP hD hS => ?_)
    obtain ⟨u_3, rfl⟩ : ∃ z, z = u9 := ⟨_, rfl⟩
    have hc_4 : ∀ x y : Int, 0 ≤ x → x ≤ n0 → 0 ≤ y → y ≤ n1 → u_3 (x * 21 + y) = D 1 g0 g1 x y := hp9
    have hP : wP G [bBD G x st sv bu di se wy ta tt rp, bState G st t0 t1 al, bText G t0 a0 n0 g0, bText G t1 a1 n1 g1, bGrid G di db u_3] H := hP
    have hD : wD A [bBD G x st sv bu di se wy ta tt rp, bState G st t0 t1 al, bText G t0 a0 n0 g0, bText G t1 a1 n1 g1, bGrid G di db u_3] := hD
    show W p l e rmX8_across s m args below meth c H locs 1 6 Q (F0 m 11 ls [.ref di])
    have hc1 := hc_4
    refine lv_iload_n hx hb dX8_across_11 rfl (lv_at hl 1 rfl) ?_
    refine lv_iload_n hx hb dX8_across_12 rfl (lv_at hl 2 rfl) ?_
    refine kV ⟨hx, hb, hml, hown, hts⟩ hK hA hS hP hD [.int (jz i), .int (jz j)] [] (mX1_stepAcross l G di db u_3 i j (by omega) (by omega)) lkX8_205 [4] [0, 1, 2, 3] (br := [bBD G x st sv bu di se wy ta tt rp, bState G st t0 t1 al, bText G t0 a0 n0 g0, bText G t1 a1 n1 g1]) rfl rfl (by decide) 0 1 rfl rfl rfl rfl (Nat.le_of_ble_eq_true rfl) hl.1 dX8_across_13 ⟨Nat.le_of_ble_eq_true rfl, Nat.le_of_ble_eq_true rfl⟩ ⟨Nat.le_of_ble_eq_true rfl, Nat.le_of_ble_eq_true rfl⟩ (fun u9 H locs hp9 hP hD hS => ?_)
    have hP : wP G [bBD G x st sv bu di se wy ta tt rp, bState G st t0 t1 al, bText G t0 a0 n0 g0, bText G t1 a1 n1 g1, bGrid G di db u_3] H := hP
    have hD : wD A [bBD G x st sv bu di se wy ta tt rp, bState G st t0 t1 al, bText G t0 a0 n0 g0, bText G t1 a1 n1 g1, bGrid G di db u_3] := hD
    show W p l e rmX8_across s m args below meth c H locs 1 6 Q (F0 m 16 ls [.int (jz (u_3 (i * 21 + j) - u_3 (i * 21 + (j - 1))))])
    rw [hQ]
    exact vx_ret (cret_i hx hb hr hlocks hS hP hD (Nat.le_of_ble_eq_true rfl) (Nat.le_of_ble_eq_true rfl) rfl dX8_across_16 [0, 1, 2, 3, 4] (by decide) u_3 rfl (show 0 ≤ i ∧ i ≤ n0 ∧ 1 ≤ j ∧ j ≤ n1 from hb1) (congrArg (fun z : Int => some (Value.int (jz z))) (show (u_3 (i * 21 + j) - u_3 (i * 21 + (j - 1))) = D 1 g0 g1 i j - D 1 g0 g1 i (j - 1) from by rw [hc1 i j (by omega) (by omega) (by omega) (by omega), hc1 i (j - 1) (by omega) (by omega) (by omega) (by omega)])) rfl)
  exact KH s.heap [] hP hD hS
abbrev rmX8_currentWay : Room := { frames := 4, cells := 0, slots := 0, locals := 93 }
set_option maxHeartbeats 4000000 in
set_option maxRecDepth 100000 in
theorem mX8_currentWay (l : Launch) (G : GG) (x : Nat) (st : Nat) (sv : Nat) (bu : Nat) (di : Nat) (se : Nat) (wy : Nat) (ta : Nat) (tt : Nat) (rp : Nat) (t0 : Nat) (t1 : Nat) (al : Int) (a0 : Nat) (n0 : Int) (g0 : Int → Int) (a1 : Nat) (n1 : Int) (g1 : Int → Int) (db : Nat) (dh : Int → Int) (wv : Nat) (wk : Int) (wh : Int → Int) (hn0 : 0 ≤ n0 ∧ n0 ≤ 20) (hn1 : 0 ≤ n1 ∧ n1 ≤ 20) (hg0 : ∀ j : Int, 0 ≤ j → j < n0 → 0 ≤ g0 j ∧ g0 j < 4) (hg1 : ∀ j : Int, 0 ≤ j → j < n1 → 0 ≤ g1 j ∧ g1 j < 4) : Ct l yX8_currentWay cX8_currentWay 1 (some (.object "BlockDistance$Way")) rmX8_currentWay G [.ref x] [bBD G x st sv bu di se wy ta tt rp, bState G st t0 t1 al, bText G t0 a0 n0 g0, bText G t1 a1 n1 g1, bGrid G di db dh, bWay G wy wv wk wh] (fun uo : (Int → Int) × (Int → Int) => some (.ref wy)) (fun uo => (∀ x : Int, 0 ≤ x → x < wL g0 g1 n0 n1 → uo.2 x = wA g0 g1 n0 n1 x)) (fun uo => [bBD G x st sv bu di se wy ta tt rp, bState G st t0 t1 al, bText G t0 a0 n0 g0, bText G t1 a1 n1 g1, bGrid G di db uo.1, bWay G wy wv (wL g0 g1 n0 n1) uo.2]) := by
  refine cof (by decide) (Nat.le_of_ble_eq_true rfl) ?_
  intro p e s m args below meth c A ls hx hb hr hml hown hts hlocks hin hA hK hP hD hS hl Q hQ
  have hown : s.vm.findClass RX8 = some m.cls := hown
  have hl : lv_has ls 1 [(0, .ref x)] := hl
  have KH : ∀ (H : Heap) (locs : List Loc), wP G [bBD G x st sv bu di se wy ta tt rp, bState G st t0 t1 al, bText G t0 a0 n0 g0, bText G t1 a1 n1 g1, bGrid G di db dh, bWay G wy wv wk wh] H → wD A [bBD G x st sv bu di se wy ta tt rp, bState G st t0 t1 al, bText G t0 a0 n0 g0, bText G t1 a1 n1 g1, bGrid G di db dh, bWay G wy wv wk wh] → va_S A s.heap H locs → W p l e rmX8_currentWay s m args below meth c H locs 0 0 Q (F0 m 0 ls []) := by
    intro H locs hP hD hS
    refine lv_aload_n hx hb dX8_currentWay_0 rfl (lv_at hl 0 rfl) ?_
    refine va_get (ci := 8) (v := .ref wy) (C := RX8) (T := TX8) (N := 9) hx hb hts wfX8 hown hK.1 hP 0 rfl rfl 5 (by decide) (hts _ wm171) (fun _ h9 => h9) rfl dX8_currentWay_1 ?_
    refine lv_aload_n hx hb dX8_currentWay_4 rfl (lv_at hl 0 rfl) ?_
    refine kV ⟨hx, hb, hml, hown, hts⟩ hK hA hS hP hD [] [.ref wy] (mX8_currentDistances l G x st sv bu di se wy ta tt rp t0 t1 al a0 n0 g0 a1 n1 g1 db dh (by omega) (by omega) (by exact hg0) (by exact hg1)) lkX8_146 [0, 1, 2, 3, 4] [5] (br := [bWay G wy wv wk wh]) rfl rfl (by decide) 0 8 rfl rfl rfl rfl (Nat.le_of_ble_eq_true rfl) hl.1 dX8_currentWay_5 ⟨Nat.le_of_ble_eq_true rfl, Nat.le_of_ble_eq_true rfl⟩ ⟨Nat.le_of_ble_eq_true rfl, Nat.le_of_ble_eq_true rfl⟩ (fun u9 H locs hp9 hP hD hS => ?_)
    obtain ⟨u_1, rfl⟩ : ∃ z, z = u9 := ⟨_, rfl⟩
    have hc_2 : ∀ x y : Int, 0 ≤ x → x ≤ n0 → 0 ≤ y → y ≤ n1 → u_1 (x * 21 + y) = D 1 g0 g1 x y := hp9
    have hP : wP G [bWay G wy wv wk wh, bBD G x st sv bu di se wy ta tt rp, bState G st t0 t1 al, bText G t0 a0 n0 g0, bText G t1 a1 n1 g1, bGrid G di db u_1] H := hP
    have hD : wD A [bWay G wy wv wk wh, bBD G x st sv bu di se wy ta tt rp, bState G st t0 t1 al, bText G t0 a0 n0 g0, bText G t1 a1 n1 g1, bGrid G di db u_1] := hD
    show W p l e rmX8_currentWay s m args below meth c H locs 0 0 Q (F0 m 8 ls [.ref di, .ref wy])
    have hc1 := hc_2
    refine lv_aload_n hx hb dX8_currentWay_8 rfl (lv_at hl 0 rfl) ?_
    refine va_get (ci := 8) (v := .ref st) (C := RX8) (T := TX8) (N := 9) hx hb hts wfX8 hown hK.1 hP 2 rfl rfl 0 (by decide) (hts _ wm166) (fun _ h9 => h9) rfl dX8_currentWay_9 ?_
    refine jv_iconst hx hb dX8_currentWay_12 ?_
    refine kV ⟨hx, hb, hml, hown, hts⟩ hK hA hS hP hD [.int (jz 0)] [.ref di, .ref wy] (mX5_text_0 l G st t0 t1 al 0 (by omega) (by omega)) lkX8_87 [2] [0, 1, 3, 4, 5] (br := [bWay G wy wv wk wh, bBD G x st sv bu di se wy ta tt rp, bText G t0 a0 n0 g0, bText G t1 a1 n1 g1, bGrid G di db u_1]) rfl rfl (by decide) 0 5 rfl rfl rfl rfl (Nat.le_of_ble_eq_true rfl) hl.1 dX8_currentWay_13 ⟨Nat.le_of_ble_eq_true rfl, Nat.le_of_ble_eq_true rfl⟩ ⟨Nat.le_of_ble_eq_true rfl, Nat.le_of_ble_eq_true rfl⟩ (fun u9 H locs hp9 hP hD hS => ?_)
    have hP : wP G [bWay G wy wv wk wh, bBD G x st sv bu di se wy ta tt rp, bText G t0 a0 n0 g0, bText G t1 a1 n1 g1, bGrid G di db u_1, bState G st t0 t1 al] H := hP
    have hD : wD A [bWay G wy wv wk wh, bBD G x st sv bu di se wy ta tt rp, bText G t0 a0 n0 g0, bText G t1 a1 n1 g1, bGrid G di db u_1, bState G st t0 t1 al] := hD
    show W p l e rmX8_currentWay s m args below meth c H locs 0 0 Q (F0 m 16 ls [.ref t0, .ref di, .ref wy])
    refine lv_aload_n hx hb dX8_currentWay_16 rfl (lv_at hl 0 rfl) ?_
    refine va_get (ci := 8) (v := .ref st) (C := RX8) (T := TX8) (N := 9) hx hb hts wfX8 hown hK.1 hP 2 rfl rfl 0 (by decide) (hts _ wm166) (fun _ h9 => h9) rfl dX8_currentWay_17 ?_
    refine jv_iconst hx hb dX8_currentWay_20 ?_
    refine kV ⟨hx, hb, hml, hown, hts⟩ hK hA hS hP hD [.int (jz 1)] [.ref t0, .ref di, .ref wy] (mX5_text_1 l G st t0 t1 al 1 (by omega) (by omega)) lkX8_87 [5] [0, 1, 2, 3, 4] (br := [bWay G wy wv wk wh, bBD G x st sv bu di se wy ta tt rp, bText G t0 a0 n0 g0, bText G t1 a1 n1 g1, bGrid G di db u_1]) rfl rfl (by decide) 0 5 rfl rfl rfl rfl (Nat.le_of_ble_eq_true rfl) hl.1 dX8_currentWay_21 ⟨Nat.le_of_ble_eq_true rfl, Nat.le_of_ble_eq_true rfl⟩ ⟨Nat.le_of_ble_eq_true rfl, Nat.le_of_ble_eq_true rfl⟩ (fun u9 H locs hp9 hP hD hS => ?_)
    have hP : wP G [bWay G wy wv wk wh, bBD G x st sv bu di se wy ta tt rp, bText G t0 a0 n0 g0, bText G t1 a1 n1 g1, bGrid G di db u_1, bState G st t0 t1 al] H := hP
    have hD : wD A [bWay G wy wv wk wh, bBD G x st sv bu di se wy ta tt rp, bText G t0 a0 n0 g0, bText G t1 a1 n1 g1, bGrid G di db u_1, bState G st t0 t1 al] := hD
    show W p l e rmX8_currentWay s m args below meth c H locs 0 0 Q (F0 m 24 ls [.ref t1, .ref t0, .ref di, .ref wy])
    refine kV ⟨hx, hb, hml, hown, hts⟩ hK hA hS hP hD [.ref di, .ref t0, .ref t1] [] (mX7_find l G wy wv wk wh di db u_1 t0 a0 n0 g0 t1 a1 n1 g1 (by omega) (by omega) (by exact hg0) (by exact hg1) (by exact hc1)) lkX8_290 [0, 4, 2, 3] [1, 5] (br := [bBD G x st sv bu di se wy ta tt rp, bState G st t0 t1 al]) rfl rfl (by decide) 0 7 rfl rfl rfl rfl (Nat.le_of_ble_eq_true rfl) hl.1 dX8_currentWay_24 ⟨Nat.le_of_ble_eq_true rfl, Nat.le_of_ble_eq_true rfl⟩ ⟨Nat.le_of_ble_eq_true rfl, Nat.le_of_ble_eq_true rfl⟩ (fun u9 H locs hp9 hP hD hS => ?_)
    obtain ⟨u_5, rfl⟩ : ∃ z, z = u9 := ⟨_, rfl⟩
    have hc_6 : ∀ x : Int, 0 ≤ x → x < wL g0 g1 n0 n1 → u_5 x = wA g0 g1 n0 n1 x := hp9
    have hP : wP G [bBD G x st sv bu di se wy ta tt rp, bState G st t0 t1 al, bWay G wy wv (wL g0 g1 n0 n1) u_5, bGrid G di db u_1, bText G t0 a0 n0 g0, bText G t1 a1 n1 g1] H := hP
    have hD : wD A [bBD G x st sv bu di se wy ta tt rp, bState G st t0 t1 al, bWay G wy wv (wL g0 g1 n0 n1) u_5, bGrid G di db u_1, bText G t0 a0 n0 g0, bText G t1 a1 n1 g1] := hD
    show W p l e rmX8_currentWay s m args below meth c H locs 0 0 Q (F0 m 27 ls [])
    have hc2 := hc_6
    refine lv_aload_n hx hb dX8_currentWay_27 rfl (lv_at hl 0 rfl) ?_
    refine va_get (ci := 8) (v := .ref wy) (C := RX8) (T := TX8) (N := 9) hx hb hts wfX8 hown hK.1 hP 0 rfl rfl 5 (by decide) (hts _ wm171) (fun _ h9 => h9) rfl dX8_currentWay_28 ?_
    exact cret_r hx hb hr hlocks hS hP hD (Nat.le_of_ble_eq_true rfl) (Nat.le_of_ble_eq_true rfl) dX8_currentWay_31 [0, 1, 4, 5, 3, 2] (by decide) ⟨u_1, u_5⟩ rfl (show ∀ x : Int, 0 ≤ x → x < wL g0 g1 n0 n1 → u_5 x = wA g0 g1 n0 n1 x from hc2) (congrArg (fun z : Nat => some (Value.ref z)) (show wy = wy from by rfl)) hQ
  exact KH s.heap [] hP hD hS
abbrev rmX8_steps : Room := { frames := 5, cells := 0, slots := 0, locals := 113 }
set_option maxHeartbeats 4000000 in
set_option maxRecDepth 100000 in
theorem mX8_steps (l : Launch) (G : GG) (x : Nat) (st : Nat) (sv : Nat) (bu : Nat) (di : Nat) (se : Nat) (wy : Nat) (ta : Nat) (tt : Nat) (rp : Nat) (t0 : Nat) (t1 : Nat) (al : Int) (a0 : Nat) (n0 : Int) (g0 : Int → Int) (a1 : Nat) (n1 : Int) (g1 : Int → Int) (db : Nat) (dh : Int → Int) (wv : Nat) (wk : Int) (wh : Int → Int) (hn0 : 0 ≤ n0 ∧ n0 ≤ 20) (hn1 : 0 ≤ n1 ∧ n1 ≤ 20) (hg0 : ∀ j : Int, 0 ≤ j → j < n0 → 0 ≤ g0 j ∧ g0 j < 4) (hg1 : ∀ j : Int, 0 ≤ j → j < n1 → 0 ≤ g1 j ∧ g1 j < 4) : Ct l yX8_steps cX8_steps 1 (some .int) rmX8_steps G [.ref x] [bBD G x st sv bu di se wy ta tt rp, bState G st t0 t1 al, bText G t0 a0 n0 g0, bText G t1 a1 n1 g1, bGrid G di db dh, bWay G wy wv wk wh] (fun uo : (Int → Int) × (Int → Int) => some (.int (jz (wL g0 g1 n0 n1)))) (fun uo => (∀ x : Int, 0 ≤ x → x < wL g0 g1 n0 n1 → uo.2 x = wA g0 g1 n0 n1 x)) (fun uo => [bBD G x st sv bu di se wy ta tt rp, bState G st t0 t1 al, bText G t0 a0 n0 g0, bText G t1 a1 n1 g1, bGrid G di db uo.1, bWay G wy wv (wL g0 g1 n0 n1) uo.2]) := by
  refine cof (by decide) (Nat.le_of_ble_eq_true rfl) ?_
  intro p e s m args below meth c A ls hx hb hr hml hown hts hlocks hin hA hK hP hD hS hl Q hQ
  have hown : s.vm.findClass RX8 = some m.cls := hown
  have hl : lv_has ls 1 [(0, .ref x)] := hl
  have KH : ∀ (H : Heap) (locs : List Loc), wP G [bBD G x st sv bu di se wy ta tt rp, bState G st t0 t1 al, bText G t0 a0 n0 g0, bText G t1 a1 n1 g1, bGrid G di db dh, bWay G wy wv wk wh] H → wD A [bBD G x st sv bu di se wy ta tt rp, bState G st t0 t1 al, bText G t0 a0 n0 g0, bText G t1 a1 n1 g1, bGrid G di db dh, bWay G wy wv wk wh] → va_S A s.heap H locs → W p l e rmX8_steps s m args below meth c H locs 0 0 Q (F0 m 0 ls []) := by
    intro H locs hP hD hS
    refine lv_aload_n hx hb dX8_steps_0 rfl (lv_at hl 0 rfl) ?_
    refine kV ⟨hx, hb, hml, hown, hts⟩ hK hA hS hP hD [] [] (mX8_currentWay l G x st sv bu di se wy ta tt rp t0 t1 al a0 n0 g0 a1 n1 g1 db dh wv wk wh (by omega) (by omega) (by exact hg0) (by exact hg1)) lkX8_157 [0, 1, 2, 3, 4, 5] [] (br := []) rfl rfl (by decide) 0 8 rfl rfl rfl rfl (Nat.le_of_ble_eq_true rfl) hl.1 dX8_steps_1 ⟨Nat.le_of_ble_eq_true rfl, Nat.le_of_ble_eq_true rfl⟩ ⟨Nat.le_of_ble_eq_true rfl, Nat.le_of_ble_eq_true rfl⟩ (fun u9 H locs hp9 hP hD hS => ?_)
    obtain ⟨u_1, u_2⟩ := u9
    have hc_3 : ∀ x : Int, 0 ≤ x → x < wL g0 g1 n0 n1 → u_2 x = wA g0 g1 n0 n1 x := hp9
    have hP : wP G [bBD G x st sv bu di se wy ta tt rp, bState G st t0 t1 al, bText G t0 a0 n0 g0, bText G t1 a1 n1 g1, bGrid G di db u_1, bWay G wy wv (wL g0 g1 n0 n1) u_2] H := hP
    have hD : wD A [bBD G x st sv bu di se wy ta tt rp, bState G st t0 t1 al, bText G t0 a0 n0 g0, bText G t1 a1 n1 g1, bGrid G di db u_1, bWay G wy wv (wL g0 g1 n0 n1) u_2] := hD
    show W p l e rmX8_steps s m args below meth c H locs 0 0 Q (F0 m 4 ls [.ref wy])
    have hc1 := hc_3
    refine kV ⟨hx, hb, hml, hown, hts⟩ hK hA hS hP hD [] [] (mX7_size l G wy wv (wL g0 g1 n0 n1) u_2 ) lkX8_161 [5] [0, 1, 2, 3, 4] (br := [bBD G x st sv bu di se wy ta tt rp, bState G st t0 t1 al, bText G t0 a0 n0 g0, bText G t1 a1 n1 g1, bGrid G di db u_1]) rfl rfl (by decide) 0 7 rfl rfl rfl rfl (Nat.le_of_ble_eq_true rfl) hl.1 dX8_steps_4 ⟨Nat.le_of_ble_eq_true rfl, Nat.le_of_ble_eq_true rfl⟩ ⟨Nat.le_of_ble_eq_true rfl, Nat.le_of_ble_eq_true rfl⟩ (fun u9 H locs hp9 hP hD hS => ?_)
    have hP : wP G [bBD G x st sv bu di se wy ta tt rp, bState G st t0 t1 al, bText G t0 a0 n0 g0, bText G t1 a1 n1 g1, bGrid G di db u_1, bWay G wy wv (wL g0 g1 n0 n1) u_2] H := hP
    have hD : wD A [bBD G x st sv bu di se wy ta tt rp, bState G st t0 t1 al, bText G t0 a0 n0 g0, bText G t1 a1 n1 g1, bGrid G di db u_1, bWay G wy wv (wL g0 g1 n0 n1) u_2] := hD
    show W p l e rmX8_steps s m args below meth c H locs 0 0 Q (F0 m 7 ls [.int (jz (wL g0 g1 n0 n1))])
    exact cret_i hx hb hr hlocks hS hP hD (Nat.le_of_ble_eq_true rfl) (Nat.le_of_ble_eq_true rfl) rfl dX8_steps_7 [0, 1, 2, 3, 4, 5] (by decide) ⟨u_1, u_2⟩ rfl (show ∀ x : Int, 0 ≤ x → x < wL g0 g1 n0 n1 → u_2 x = wA g0 g1 n0 n1 x from hc1) (congrArg (fun z : Int => some (Value.int (jz z))) (show (wL g0 g1 n0 n1) = wL g0 g1 n0 n1 from by first | rfl | omega | (split <;> first | rfl | omega | (exfalso; omega)))) hQ
  exact KH s.heap [] hP hD hS
abbrev rmX8_step : Room := { frames := 6, cells := 1, slots := 6, locals := 113 }
set_option maxHeartbeats 4000000 in
set_option maxRecDepth 100000 in
theorem mX8_step (l : Launch) (hl0 : l.stackTraces = false) (G : GG) (x : Nat) (st : Nat) (sv : Nat) (bu : Nat) (di : Nat) (se : Nat) (wy : Nat) (ta : Nat) (tt : Nat) (rp : Nat) (t0 : Nat) (t1 : Nat) (al : Int) (a0 : Nat) (n0 : Int) (g0 : Int → Int) (a1 : Nat) (n1 : Int) (g1 : Int → Int) (db : Nat) (dh : Int → Int) (wv : Nat) (wk : Int) (wh : Int → Int) (z : Int) (hn0 : 0 ≤ n0 ∧ n0 ≤ 20) (hn1 : 0 ≤ n1 ∧ n1 ≤ 20) (hg0 : ∀ j : Int, 0 ≤ j → j < n0 → 0 ≤ g0 j ∧ g0 j < 4) (hg1 : ∀ j : Int, 0 ≤ j → j < n1 → 0 ≤ g1 j ∧ g1 j < 4) (hz : jr z) : Xt l yX8_step cX8_step 2 (some .int) rmX8_step G [.ref x, .int (jz z)] [bBD G x st sv bu di se wy ta tt rp, bState G st t0 t1 al, bText G t0 a0 n0 g0, bText G t1 a1 n1 g1, bGrid G di db dh, bWay G wy wv wk wh] (fun uo : (Int → Int) × (Int → Int) => some (.int (jz (if z < wL g0 g1 n0 n1 then wA g0 g1 n0 n1 (wL g0 g1 n0 n1 - 1 - z) else -1)))) (fun uo => (0 ≤ z)) (fun uo => [bBD G x st sv bu di se wy ta tt rp, bState G st t0 t1 al, bText G t0 a0 n0 g0, bText G t1 a1 n1 g1, bGrid G di db uo.1, bWay G wy wv (wL g0 g1 n0 n1) uo.2]) (fun E => E = "java/lang/IndexOutOfBoundsException" ∧ z < 0) := by
  refine xof (by decide) (Nat.le_of_ble_eq_true rfl) ?_
  intro p e s m args below meth c A ls hx hb hr hml hown hts hlocks hin hA hK hP hD hS hl hX hout Q hQ
  have hown : s.vm.findClass RX8 = some m.cls := hown
  have hl : lv_has ls 2 [(0, .ref x), (1, .int (jz z))] := hl
  have KH : ∀ (H : Heap) (locs : List Loc), wP G [bBD G x st sv bu di se wy ta tt rp, bState G st t0 t1 al, bText G t0 a0 n0 g0, bText G t1 a1 n1 g1, bGrid G di db dh, bWay G wy wv wk wh] H → wD A [bBD G x st sv bu di se wy ta tt rp, bState G st t0 t1 al, bText G t0 a0 n0 g0, bText G t1 a1 n1 g1, bGrid G di db dh, bWay G wy wv wk wh] → va_S A s.heap H locs → W p l e rmX8_step s m args below meth c H locs 0 0 Q (F0 m 0 ls []) := by
    intro H locs hP hD hS
    have hwl := wL_bd g0 g1 hn0 hn1
    refine lv_iload_n hx hb dX8_step_0 rfl (lv_at hl 1 rfl) ?_
    refine jv_if_ge (tgt := 14) hx hb dX8_step_1 (by decide) (by omega) (fun c_1 => ?_) (fun c_1 => ?_)
    · refine lv_aload_n hx hb dX8_step_14 rfl (lv_at hl 0 rfl) ?_
      refine kV ⟨hx, hb, hml, hown, hts⟩ hK hA hS hP hD [] [] (mX8_currentWay l G x st sv bu di se wy ta tt rp t0 t1 al a0 n0 g0 a1 n1 g1 db dh wv wk wh (by omega) (by omega) (by exact hg0) (by exact hg1)) lkX8_157 [0, 1, 2, 3, 4, 5] [] (br := []) rfl rfl (by decide) 0 8 rfl rfl rfl rfl (Nat.le_of_ble_eq_true rfl) hl.1 dX8_step_15 ⟨Nat.le_of_ble_eq_true rfl, Nat.le_of_ble_eq_true rfl⟩ ⟨Nat.le_of_ble_eq_true rfl, Nat.le_of_ble_eq_true rfl⟩ (fun u9 H locs hp9 hP hD hS => ?_)
      obtain ⟨u_2, u_3⟩ := u9
      have hc_4 : ∀ x : Int, 0 ≤ x → x < wL g0 g1 n0 n1 → u_3 x = wA g0 g1 n0 n1 x := hp9
      have hP : wP G [bBD G x st sv bu di se wy ta tt rp, bState G st t0 t1 al, bText G t0 a0 n0 g0, bText G t1 a1 n1 g1, bGrid G di db u_2, bWay G wy wv (wL g0 g1 n0 n1) u_3] H := hP
      have hD : wD A [bBD G x st sv bu di se wy ta tt rp, bState G st t0 t1 al, bText G t0 a0 n0 g0, bText G t1 a1 n1 g1, bGrid G di db u_2, bWay G wy wv (wL g0 g1 n0 n1) u_3] := hD
      show W p l e rmX8_step s m args below meth c H locs 0 0 Q (F0 m 18 ls [.ref wy])
      have hc1 := hc_4
      refine lv_iload_n hx hb dX8_step_18 rfl (lv_at hl 1 rfl) ?_
      refine kV ⟨hx, hb, hml, hown, hts⟩ hK hA hS hP hD [.int (jz z)] [] (mX7_at l G wy wv (wL g0 g1 n0 n1) u_3 z (by omega) (by omega)) lkX8_164 [5] [0, 1, 2, 3, 4] (br := [bBD G x st sv bu di se wy ta tt rp, bState G st t0 t1 al, bText G t0 a0 n0 g0, bText G t1 a1 n1 g1, bGrid G di db u_2]) rfl rfl (by decide) 0 7 rfl rfl rfl rfl (Nat.le_of_ble_eq_true rfl) hl.1 dX8_step_19 ⟨Nat.le_of_ble_eq_true rfl, Nat.le_of_ble_eq_true rfl⟩ ⟨Nat.le_of_ble_eq_true rfl, Nat.le_of_ble_eq_true rfl⟩ (fun u9 H locs hp9 hP hD hS => ?_)
      have hP : wP G [bBD G x st sv bu di se wy ta tt rp, bState G st t0 t1 al, bText G t0 a0 n0 g0, bText G t1 a1 n1 g1, bGrid G di db u_2, bWay G wy wv (wL g0 g1 n0 n1) u_3] H := hP
      have hD : wD A [bBD G x st sv bu di se wy ta tt rp, bState G st t0 t1 al, bText G t0 a0 n0 g0, bText G t1 a1 n1 g1, bGrid G di db u_2, bWay G wy wv (wL g0 g1 n0 n1) u_3] := hD
      show W p l e rmX8_step s m args below meth c H locs 0 0 Q (F0 m 22 ls [.int (jz (if 0 ≤ z ∧ z < (wL g0 g1 n0 n1) then u_3 ((wL g0 g1 n0 n1) - 1 - z) else -1))])
      rw [hQ]
      exact vx_ret (cret_i hx hb hr hlocks hS hP hD (Nat.le_of_ble_eq_true rfl) (Nat.le_of_ble_eq_true rfl) rfl dX8_step_22 [0, 1, 2, 3, 4, 5] (by decide) ⟨u_2, u_3⟩ rfl (show 0 ≤ z from by omega) (congrArg (fun z : Int => some (Value.int (jz z))) (show (if 0 ≤ z ∧ z < (wL g0 g1 n0 n1) then u_3 ((wL g0 g1 n0 n1) - 1 - z) else -1) = if z < wL g0 g1 n0 n1 then wA g0 g1 n0 n1 (wL g0 g1 n0 n1 - 1 - z) else -1 from by if e1 : z < wL g0 g1 n0 n1 then (rw [if_pos ⟨by omega, e1⟩, if_pos e1]; exact hc1 _ (by omega) (by omega)) else (rw [if_neg (by omega), if_neg e1]))) rfl)
    · obtain ⟨sa9, hstr9⟩ := hK.2.2.2.1 (162, "a step has no negative index") (by decide +kernel)
      rw [hQ]
      exact vx_throwS (A := A) (cls := "java/lang/IndexOutOfBoundsException") (names := ["java/lang/RuntimeException", "java/lang/Exception"]) hx hb hl0 hown (by decide +kernel) (by decide +kernel) (hts _ wm202) (hts _ wm23) hstr9 (xat hK hts xa_107) xg_107 hX.1 hX.2 hS (hl.1.trans hml.symm) dX8_step_4 dX8_step_7 dX8_step_8 dX8_step_10 dX8_step_13 (fun x9 hx9 => (hout x9 hx9).elim) (Nat.lt_of_lt_of_le (Nat.lt_succ_self 5) (Nat.le_of_ble_eq_true rfl)) (Nat.le_of_ble_eq_true rfl) (Nat.le_of_ble_eq_true rfl) (Nat.le_of_ble_eq_true rfl) hlocks (xthrow hS hP hD [0, 1, 2, 3, 4, 5] (by decide) rfl (by first | exact ⟨rfl, by omega⟩ | rfl)) hS.2.2 (Nat.le_of_ble_eq_true rfl) (Nat.le_of_ble_eq_true rfl)
  exact KH s.heap [] hP hD hS
abbrev rmX8_count : Room := { frames := 6, cells := 1, slots := 6, locals := 113 }
set_option maxHeartbeats 4000000 in
set_option maxRecDepth 100000 in
theorem mX8_count (l : Launch) (hl0 : l.stackTraces = false) (G : GG) (x : Nat) (st : Nat) (sv : Nat) (bu : Nat) (di : Nat) (se : Nat) (wy : Nat) (ta : Nat) (tt : Nat) (rp : Nat) (t0 : Nat) (t1 : Nat) (al : Int) (a0 : Nat) (n0 : Int) (g0 : Int → Int) (a1 : Nat) (n1 : Int) (g1 : Int → Int) (db : Nat) (dh : Int → Int) (wv : Nat) (wk : Int) (wh : Int → Int) (z : Int) (hn0 : 0 ≤ n0 ∧ n0 ≤ 20) (hn1 : 0 ≤ n1 ∧ n1 ≤ 20) (hg0 : ∀ j : Int, 0 ≤ j → j < n0 → 0 ≤ g0 j ∧ g0 j < 4) (hg1 : ∀ j : Int, 0 ≤ j → j < n1 → 0 ≤ g1 j ∧ g1 j < 4) (hz : jr z) : Xt l yX8_count cX8_count 2 (some .int) rmX8_count G [.ref x, .int (jz z)] [bBD G x st sv bu di se wy ta tt rp, bState G st t0 t1 al, bText G t0 a0 n0 g0, bText G t1 a1 n1 g1, bGrid G di db dh, bWay G wy wv wk wh] (fun uo : (Int → Int) × (Int → Int) => some (.int (jz (cnt (wA g0 g1 n0 n1) z (wL g0 g1 n0 n1))))) (fun uo => (0 ≤ z ∧ z ≤ 3)) (fun uo => [bBD G x st sv bu di se wy ta tt rp, bState G st t0 t1 al, bText G t0 a0 n0 g0, bText G t1 a1 n1 g1, bGrid G di db uo.1, bWay G wy wv (wL g0 g1 n0 n1) uo.2]) (fun E => E = "java/lang/IndexOutOfBoundsException" ∧ ¬ (0 ≤ z ∧ z ≤ 3)) := by
  refine xof (by decide) (Nat.le_of_ble_eq_true rfl) ?_
  intro p e s m args below meth c A ls hx hb hr hml hown hts hlocks hin hA hK hP hD hS hl hX hout Q hQ
  have hown : s.vm.findClass RX8 = some m.cls := hown
  have hl : lv_has ls 2 [(0, .ref x), (1, .int (jz z))] := hl
  have KH : ∀ (H : Heap) (locs : List Loc), wP G [bBD G x st sv bu di se wy ta tt rp, bState G st t0 t1 al, bText G t0 a0 n0 g0, bText G t1 a1 n1 g1, bGrid G di db dh, bWay G wy wv wk wh] H → wD A [bBD G x st sv bu di se wy ta tt rp, bState G st t0 t1 al, bText G t0 a0 n0 g0, bText G t1 a1 n1 g1, bGrid G di db dh, bWay G wy wv wk wh] → va_S A s.heap H locs → W p l e rmX8_count s m args below meth c H locs 0 0 Q (F0 m 0 ls []) := by
    intro H locs hP hD hS
    have hwl := wL_bd g0 g1 hn0 hn1
    refine lv_iload_n hx hb dX8_count_0 rfl (lv_at hl 1 rfl) ?_
    refine jv_if_lt (tgt := 9) hx hb dX8_count_1 (by decide) (by omega) (fun c_1 => ?_) (fun c_1 => ?_)
    · obtain ⟨sa9, hstr9⟩ := hK.2.2.2.1 (165, "no such kind of step") (by decide +kernel)
      rw [hQ]
      exact vx_throwS (A := A) (cls := "java/lang/IndexOutOfBoundsException") (names := ["java/lang/RuntimeException", "java/lang/Exception"]) hx hb hl0 hown (by decide +kernel) (by decide +kernel) (hts _ wm202) (hts _ wm23) hstr9 (xat hK hts xa_107) xg_107 hX.1 hX.2 hS (hl.1.trans hml.symm) dX8_count_9 dX8_count_12 dX8_count_13 dX8_count_15 dX8_count_18 (fun x9 hx9 => (hout x9 hx9).elim) (Nat.lt_of_lt_of_le (Nat.lt_succ_self 5) (Nat.le_of_ble_eq_true rfl)) (Nat.le_of_ble_eq_true rfl) (Nat.le_of_ble_eq_true rfl) (Nat.le_of_ble_eq_true rfl) hlocks (xthrow hS hP hD [0, 1, 2, 3, 4, 5] (by decide) rfl (by first | exact ⟨rfl, by omega⟩ | rfl)) hS.2.2 (Nat.le_of_ble_eq_true rfl) (Nat.le_of_ble_eq_true rfl)
    · refine lv_iload_n hx hb dX8_count_4 rfl (lv_at hl 1 rfl) ?_
      refine jv_iconst hx hb dX8_count_5 ?_
      refine jv_icmp_le (tgt := 19) hx hb dX8_count_6 (by decide) (by omega) (by omega) (fun c_2 => ?_) (fun c_2 => ?_)
      · refine lv_aload_n hx hb dX8_count_19 rfl (lv_at hl 0 rfl) ?_
        refine kV ⟨hx, hb, hml, hown, hts⟩ hK hA hS hP hD [] [] (mX8_currentWay l G x st sv bu di se wy ta tt rp t0 t1 al a0 n0 g0 a1 n1 g1 db dh wv wk wh (by omega) (by omega) (by exact hg0) (by exact hg1)) lkX8_157 [0, 1, 2, 3, 4, 5] [] (br := []) rfl rfl (by decide) 0 8 rfl rfl rfl rfl (Nat.le_of_ble_eq_true rfl) hl.1 dX8_count_20 ⟨Nat.le_of_ble_eq_true rfl, Nat.le_of_ble_eq_true rfl⟩ ⟨Nat.le_of_ble_eq_true rfl, Nat.le_of_ble_eq_true rfl⟩ (fun u9 H locs hp9 hP hD hS => ?_)
        obtain ⟨u_3, u_4⟩ := u9
        have hc_5 : ∀ x : Int, 0 ≤ x → x < wL g0 g1 n0 n1 → u_4 x = wA g0 g1 n0 n1 x := hp9
        have hP : wP G [bBD G x st sv bu di se wy ta tt rp, bState G st t0 t1 al, bText G t0 a0 n0 g0, bText G t1 a1 n1 g1, bGrid G di db u_3, bWay G wy wv (wL g0 g1 n0 n1) u_4] H := hP
        have hD : wD A [bBD G x st sv bu di se wy ta tt rp, bState G st t0 t1 al, bText G t0 a0 n0 g0, bText G t1 a1 n1 g1, bGrid G di db u_3, bWay G wy wv (wL g0 g1 n0 n1) u_4] := hD
        show W p l e rmX8_count s m args below meth c H locs 0 0 Q (F0 m 23 ls [.ref wy])
        have hc1 := hc_5
        refine lv_iload_n hx hb dX8_count_23 rfl (lv_at hl 1 rfl) ?_
        refine kV ⟨hx, hb, hml, hown, hts⟩ hK hA hS hP hD [.int (jz z)] [] (mX7_stepsOf l G wy wv (wL g0 g1 n0 n1) u_4 z (by omega) (by omega) (by intro y p1 p2; rw [hc1 y p1 p2]; exact wA_bd g0 g1 hn0 hn1 p1 p2)) lkX8_167 [5] [0, 1, 2, 3, 4] (br := [bBD G x st sv bu di se wy ta tt rp, bState G st t0 t1 al, bText G t0 a0 n0 g0, bText G t1 a1 n1 g1, bGrid G di db u_3]) rfl rfl (by decide) 0 7 rfl rfl rfl rfl (Nat.le_of_ble_eq_true rfl) hl.1 dX8_count_24 ⟨Nat.le_of_ble_eq_true rfl, Nat.le_of_ble_eq_true rfl⟩ ⟨Nat.le_of_ble_eq_true rfl, Nat.le_of_ble_eq_true rfl⟩ (fun u9 H locs hp9 hP hD hS => ?_)
        have hP : wP G [bBD G x st sv bu di se wy ta tt rp, bState G st t0 t1 al, bText G t0 a0 n0 g0, bText G t1 a1 n1 g1, bGrid G di db u_3, bWay G wy wv (wL g0 g1 n0 n1) u_4] H := hP
        have hD : wD A [bBD G x st sv bu di se wy ta tt rp, bState G st t0 t1 al, bText G t0 a0 n0 g0, bText G t1 a1 n1 g1, bGrid G di db u_3, bWay G wy wv (wL g0 g1 n0 n1) u_4] := hD
        show W p l e rmX8_count s m args below meth c H locs 0 0 Q (F0 m 27 ls [.int (jz (cnt u_4 z (wL g0 g1 n0 n1)))])
        rw [hQ]
        exact vx_ret (cret_i hx hb hr hlocks hS hP hD (Nat.le_of_ble_eq_true rfl) (Nat.le_of_ble_eq_true rfl) rfl dX8_count_27 [0, 1, 2, 3, 4, 5] (by decide) ⟨u_3, u_4⟩ rfl (show 0 ≤ z ∧ z ≤ 3 from by omega) (congrArg (fun z : Int => some (Value.int (jz z))) (show (cnt u_4 z (wL g0 g1 n0 n1)) = cnt (wA g0 g1 n0 n1) z (wL g0 g1 n0 n1) from by exact cnt_cg z hc1)) rfl)
      · obtain ⟨sa9, hstr9⟩ := hK.2.2.2.1 (165, "no such kind of step") (by decide +kernel)
        rw [hQ]
        exact vx_throwS (A := A) (cls := "java/lang/IndexOutOfBoundsException") (names := ["java/lang/RuntimeException", "java/lang/Exception"]) hx hb hl0 hown (by decide +kernel) (by decide +kernel) (hts _ wm202) (hts _ wm23) hstr9 (xat hK hts xa_107) xg_107 hX.1 hX.2 hS (hl.1.trans hml.symm) dX8_count_9 dX8_count_12 dX8_count_13 dX8_count_15 dX8_count_18 (fun x9 hx9 => (hout x9 hx9).elim) (Nat.lt_of_lt_of_le (Nat.lt_succ_self 5) (Nat.le_of_ble_eq_true rfl)) (Nat.le_of_ble_eq_true rfl) (Nat.le_of_ble_eq_true rfl) (Nat.le_of_ble_eq_true rfl) hlocks (xthrow hS hP hD [0, 1, 2, 3, 4, 5] (by decide) rfl (by first | exact ⟨rfl, by omega⟩ | rfl)) hS.2.2 (Nat.le_of_ble_eq_true rfl) (Nat.le_of_ble_eq_true rfl)
  exact KH s.heap [] hP hD hS
