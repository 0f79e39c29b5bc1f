abbrev rmX8_checkPlace_k : Room := { frames := 1, cells := 0, slots := 0, locals := 20 }
set_option maxHeartbeats 4000000 in
set_option maxRecDepth 100000 in
theorem mX8_checkPlace_k (l : Launch) (G : GG) (t : Nat) (a : Nat) (n : Int) (g : Int → Int) (z : Int) (hn : 0 ≤ n ∧ n ≤ 20) (hz : jr z) (hk9 : 0 ≤ z ∧ z < n) : Ct l yX8_checkPlace cX8_checkPlace 2 none rmX8_checkPlace_k G [.ref t, .int (jz z)] [bText G t a n g] (fun uo : Unit => none) (fun uo => True) (fun uo => [bText G t a n g]) := by
  refine cof (by decide) (Nat.le_of_ble_eq_true rfl) ?_
  intro p e s m args below meth c A ls hx hb hr hml hown hts hlocks hin hA hK hP hD hS hl Q hQ
  have hown : s.vm.findClass RX8 = some m.cls := hown
  have hl : lv_has ls 2 [(0, .ref t), (1, .int (jz z))] := hl
  have KH : ∀ (H : Heap) (locs : List Loc), wP G [bText G t a n g] H → wD A [bText G t a n g] → va_S A s.heap H locs → W p l e rmX8_checkPlace_k s m args below meth c H locs 0 0 Q (F0 m 0 ls []) := by
    intro H locs hP hD hS
    refine lv_iload_n hx hb dX8_checkPlace_0 rfl (lv_at hl 1 rfl) ?_
    refine jv_if_lt (tgt := 12) hx hb dX8_checkPlace_1 (by decide) (by omega) (fun c_1 => ?_) (fun c_1 => ?_)
    · exfalso; omega
    · refine lv_iload_n hx hb dX8_checkPlace_4 rfl (lv_at hl 1 rfl) ?_
      refine lv_aload_n hx hb dX8_checkPlace_5 rfl (lv_at hl 0 rfl) ?_
      refine kV ⟨hx, hb, hml, hown, hts⟩ hK hA hS hP hD [] [.int (jz z)] (mX6_size l G t a n g ) lkX8_95 [0] [] (br := []) rfl rfl (by decide) 0 6 rfl rfl rfl rfl (Nat.le_of_ble_eq_true rfl) hl.1 dX8_checkPlace_6 ⟨Nat.le_of_ble_eq_true rfl, Nat.le_of_ble_eq_true rfl⟩ ⟨Nat.le_of_ble_eq_true rfl, Nat.le_of_ble_eq_true rfl⟩ (fun u9 H locs hp9 hP hD hS => ?_)
      have hP : wP G [bText G t a n g] H := hP
      have hD : wD A [bText G t a n g] := hD
      show W p l e rmX8_checkPlace_k s m args below meth c H locs 0 0 Q (F0 m 9 ls [.int (jz n), .int (jz z)])
      refine jv_icmp_lt (tgt := 23) hx hb dX8_checkPlace_9 (by decide) (by omega) (by omega) (fun c_3 => ?_) (fun c_3 => ?_)
      · exact cret_v hx hb hr hlocks hS hP hD (Nat.le_of_ble_eq_true rfl) (Nat.le_of_ble_eq_true rfl) dX8_checkPlace_23 [0] (by decide) () rfl trivial rfl hQ
      · exfalso; omega
  exact KH s.heap [] hP hD hS
abbrev rmX8_checkLetter_k : Room := { frames := 1, cells := 0, slots := 0, locals := 20 }
set_option maxHeartbeats 4000000 in
set_option maxRecDepth 100000 in
theorem mX8_checkLetter_k (l : Launch) (G : GG) (x : Nat) (st : Nat) (sv : Nat) (bu : Nat) (di : Nat) (se : Nat) (wy : Nat) (ta : Nat) (tt : Nat) (rp : Nat) (t0 : Nat) (t1 : Nat) (al : Int) (z : Int) (hal : 2 ≤ al ∧ al ≤ 4) (hz : jr z) (hk9 : 0 ≤ z ∧ z < al) : Ct l yX8_checkLetter cX8_checkLetter 2 none rmX8_checkLetter_k G [.ref x, .int (jz z)] [bBD G x st sv bu di se wy ta tt rp, bState G st t0 t1 al] (fun uo : Unit => none) (fun uo => True) (fun uo => [bBD G x st sv bu di se wy ta tt rp, bState G st t0 t1 al]) := by
  refine cof (by decide) (Nat.le_of_ble_eq_true rfl) ?_
  intro p e s m args below meth c A ls hx hb hr hml hown hts hlocks hin hA hK hP hD hS hl Q hQ
  have hown : s.vm.findClass RX8 = some m.cls := hown
  have hl : lv_has ls 2 [(0, .ref x), (1, .int (jz z))] := hl
  have KH : ∀ (H : Heap) (locs : List Loc), wP G [bBD G x st sv bu di se wy ta tt rp, bState G st t0 t1 al] H → wD A [bBD G x st sv bu di se wy ta tt rp, bState G st t0 t1 al] → va_S A s.heap H locs → W p l e rmX8_checkLetter_k s m args below meth c H locs 0 0 Q (F0 m 0 ls []) := by
    intro H locs hP hD hS
    refine lv_iload_n hx hb dX8_checkLetter_0 rfl (lv_at hl 1 rfl) ?_
    refine jv_if_lt (tgt := 15) hx hb dX8_checkLetter_1 (by decide) (by omega) (fun c_1 => ?_) (fun c_1 => ?_)
    · exfalso; omega
    · refine lv_iload_n hx hb dX8_checkLetter_4 rfl (lv_at hl 1 rfl) ?_
      refine lv_aload_n hx hb dX8_checkLetter_5 rfl (lv_at hl 0 rfl) ?_
      refine va_get (ci := 8) (v := .ref st) (C := RX8) (T := TX8) (N := 9) hx hb hts wfX8 hown hK.1 hP 0 rfl rfl 0 (by decide) (hts _ wm166) (fun _ h9 => h9) rfl dX8_checkLetter_6 ?_
      refine kV ⟨hx, hb, hml, hown, hts⟩ hK hA hS hP hD [] [.int (jz z)] (mX5_alphabet l G st t0 t1 al ) lkX8_68 [1] [0] (br := [bBD G x st sv bu di se wy ta tt rp]) rfl rfl (by decide) 0 5 rfl rfl rfl rfl (Nat.le_of_ble_eq_true rfl) hl.1 dX8_checkLetter_9 ⟨Nat.le_of_ble_eq_true rfl, Nat.le_of_ble_eq_true rfl⟩ ⟨Nat.le_of_ble_eq_true rfl, Nat.le_of_ble_eq_true rfl⟩ (fun u9 H locs hp9 hP hD hS => ?_)
      have hP : wP G [bBD G x st sv bu di se wy ta tt rp, bState G st t0 t1 al] H := hP
      have hD : wD A [bBD G x st sv bu di se wy ta tt rp, bState G st t0 t1 al] := hD
      show W p l e rmX8_checkLetter_k s m args below meth c H locs 0 0 Q (F0 m 12 ls [.int (jz al), .int (jz z)])
      refine jv_icmp_lt (tgt := 26) hx hb dX8_checkLetter_12 (by decide) (by omega) (by omega) (fun c_3 => ?_) (fun c_3 => ?_)
      · exact cret_v hx hb hr hlocks hS hP hD (Nat.le_of_ble_eq_true rfl) (Nat.le_of_ble_eq_true rfl) dX8_checkLetter_26 [0, 1] (by decide) () rfl trivial rfl hQ
      · exfalso; omega
  exact KH s.heap [] hP hD hS
abbrev rmX8_checkPrefixes_k : Room := { frames := 1, cells := 0, slots := 0, locals := 21 }
set_option maxHeartbeats 4000000 in
set_option maxRecDepth 100000 in
theorem mX8_checkPrefixes_k (l : Launch) (G : GG) (x : Nat) (st : Nat) (sv : Nat) (bu : Nat) (di : Nat) (se : Nat) (wy : Nat) (ta : Nat) (tt : Nat) (rp : Nat) (t0 : Nat) (t1 : Nat) (al : Int) (a0 : Nat) (n0 : Int) (g0 : Int → Int) (a1 : Nat) (n1 : Int) (g1 : Int → Int) (i : Int) (j : Int) (z : Int) (hn0 : 0 ≤ n0 ∧ n0 ≤ 20) (hn1 : 0 ≤ n1 ∧ n1 ≤ 20) (hi : jr i) (hj : jr j) (hz : 0 ≤ z ∧ z ≤ 1) (hk9 : 0 ≤ i ∧ i ≤ n0 ∧ z ≤ j ∧ j ≤ n1) : Ct l yX8_checkPrefixes cX8_checkPrefixes 4 none rmX8_checkPrefixes_k G [.ref x, .int (jz i), .int (jz j), .int (jz z)] [bBD G x st sv bu di se wy ta tt rp, bState G st t0 t1 al, bText G t0 a0 n0 g0, bText G t1 a1 n1 g1] (fun uo : Unit => none) (fun uo => True) (fun uo => [bBD G x st sv bu di se wy ta tt rp, bState G st t0 t1 al, bText G t0 a0 n0 g0, bText G t1 a1 n1 g1]) := by
  refine cof (by decide) (Nat.le_of_ble_eq_true rfl) ?_
  intro p e s m args below meth c A ls hx hb hr hml hown hts hlocks hin hA hK hP hD hS hl Q hQ
  have hown : s.vm.findClass RX8 = some m.cls := hown
  have hl : lv_has ls 4 [(0, .ref x), (1, .int (jz i)), (2, .int (jz j)), (3, .int (jz z))] := hl
  have KH : ∀ (H : Heap) (locs : List Loc), wP G [bBD G x st sv bu di se wy ta tt rp, bState G st t0 t1 al, bText G t0 a0 n0 g0, bText G t1 a1 n1 g1] H → wD A [bBD G x st sv bu di se wy ta tt rp, bState G st t0 t1 al, bText G t0 a0 n0 g0, bText G t1 a1 n1 g1] → va_S A s.heap H locs → W p l e rmX8_checkPrefixes_k s m args below meth c H locs 0 0 Q (F0 m 0 ls []) := by
    intro H locs hP hD hS
    refine lv_iload_n hx hb dX8_checkPrefixes_0 rfl (lv_at hl 1 rfl) ?_
    refine jv_if_lt (tgt := 39) hx hb dX8_checkPrefixes_1 (by decide) (by omega) (fun c_1 => ?_) (fun c_1 => ?_)
    · exfalso; omega
    · refine lv_iload_n hx hb dX8_checkPrefixes_4 rfl (lv_at hl 1 rfl) ?_
      refine lv_aload_n hx hb dX8_checkPrefixes_5 rfl (lv_at hl 0 rfl) ?_
      refine va_get (ci := 8) (v := .ref st) (C := RX8) (T := TX8) (N := 9) hx hb hts wfX8 hown hK.1 hP 0 rfl rfl 0 (by decide) (hts _ wm166) (fun _ h9 => h9) rfl dX8_checkPrefixes_6 ?_
      refine jv_iconst hx hb dX8_checkPrefixes_9 ?_
      refine kV ⟨hx, hb, hml, hown, hts⟩ hK hA hS hP hD [.int (jz 0)] [.int (jz i)] (mX5_text_0 l G st t0 t1 al 0 (by omega) (by omega)) lkX8_87 [1] [0, 2, 3] (br := [bBD G x st sv bu di se wy ta tt rp, bText G t0 a0 n0 g0, bText G t1 a1 n1 g1]) rfl rfl (by decide) 0 5 rfl rfl rfl rfl (Nat.le_of_ble_eq_true rfl) hl.1 dX8_checkPrefixes_10 ⟨Nat.le_of_ble_eq_true rfl, Nat.le_of_ble_eq_true rfl⟩ ⟨Nat.le_of_ble_eq_true rfl, Nat.le_of_ble_eq_true rfl⟩ (fun u9 H locs hp9 hP hD hS => ?_)
      have hP : wP G [bBD G x st sv bu di se wy ta tt rp, bText G t0 a0 n0 g0, bText G t1 a1 n1 g1, bState G st t0 t1 al] H := hP
      have hD : wD A [bBD G x st sv bu di se wy ta tt rp, bText G t0 a0 n0 g0, bText G t1 a1 n1 g1, bState G st t0 t1 al] := hD
      show W p l e rmX8_checkPrefixes_k s m args below meth c H locs 0 0 Q (F0 m 13 ls [.ref t0, .int (jz i)])
      refine kV ⟨hx, hb, hml, hown, hts⟩ hK hA hS hP hD [] [.int (jz i)] (mX6_size l G t0 a0 n0 g0 ) lkX8_95 [1] [0, 2, 3] (br := [bBD G x st sv bu di se wy ta tt rp, bText G t1 a1 n1 g1, bState G st t0 t1 al]) rfl rfl (by decide) 0 6 rfl rfl rfl rfl (Nat.le_of_ble_eq_true rfl) hl.1 dX8_checkPrefixes_13 ⟨Nat.le_of_ble_eq_true rfl, Nat.le_of_ble_eq_true rfl⟩ ⟨Nat.le_of_ble_eq_true rfl, Nat.le_of_ble_eq_true rfl⟩ (fun u9 H locs hp9 hP hD hS => ?_)
      have hP : wP G [bBD G x st sv bu di se wy ta tt rp, bText G t1 a1 n1 g1, bState G st t0 t1 al, bText G t0 a0 n0 g0] H := hP
      have hD : wD A [bBD G x st sv bu di se wy ta tt rp, bText G t1 a1 n1 g1, bState G st t0 t1 al, bText G t0 a0 n0 g0] := hD
      show W p l e rmX8_checkPrefixes_k s m args below meth c H locs 0 0 Q (F0 m 16 ls [.int (jz n0), .int (jz i)])
      refine jv_icmp_gt (tgt := 39) hx hb dX8_checkPrefixes_16 (by decide) (by omega) (by omega) (fun c_4 => ?_) (fun c_4 => ?_)
      · exfalso; omega
      · refine lv_iload_n hx hb dX8_checkPrefixes_19 rfl (lv_at hl 2 rfl) ?_
        refine lv_iload_n hx hb dX8_checkPrefixes_20 rfl (lv_at hl 3 rfl) ?_
        refine jv_icmp_lt (tgt := 39) hx hb dX8_checkPrefixes_21 (by decide) (by omega) (by omega) (fun c_5 => ?_) (fun c_5 => ?_)
        · exfalso; omega
        · refine lv_iload_n hx hb dX8_checkPrefixes_24 rfl (lv_at hl 2 rfl) ?_
          refine lv_aload_n hx hb dX8_checkPrefixes_25 rfl (lv_at hl 0 rfl) ?_
          refine va_get (ci := 8) (v := .ref st) (C := RX8) (T := TX8) (N := 9) hx hb hts wfX8 hown hK.1 hP 0 rfl rfl 0 (by decide) (hts _ wm166) (fun _ h9 => h9) rfl dX8_checkPrefixes_26 ?_
          refine jv_iconst hx hb dX8_checkPrefixes_29 ?_
          refine kV ⟨hx, hb, hml, hown, hts⟩ hK hA hS hP hD [.int (jz 1)] [.int (jz j)] (mX5_text_1 l G st t0 t1 al 1 (by omega) (by omega)) lkX8_87 [2] [0, 1, 3] (br := [bBD G x st sv bu di se wy ta tt rp, bText G t1 a1 n1 g1, bText G t0 a0 n0 g0]) rfl rfl (by decide) 0 5 rfl rfl rfl rfl (Nat.le_of_ble_eq_true rfl) hl.1 dX8_checkPrefixes_30 ⟨Nat.le_of_ble_eq_true rfl, Nat.le_of_ble_eq_true rfl⟩ ⟨Nat.le_of_ble_eq_true rfl, Nat.le_of_ble_eq_true rfl⟩ (fun u9 H locs hp9 hP hD hS => ?_)
          have hP : wP G [bBD G x st sv bu di se wy ta tt rp, bText G t1 a1 n1 g1, bText G t0 a0 n0 g0, bState G st t0 t1 al] H := hP
          have hD : wD A [bBD G x st sv bu di se wy ta tt rp, bText G t1 a1 n1 g1, bText G t0 a0 n0 g0, bState G st t0 t1 al] := hD
          show W p l e rmX8_checkPrefixes_k s m args below meth c H locs 0 0 Q (F0 m 33 ls [.ref t1, .int (jz j)])
          refine kV ⟨hx, hb, hml, hown, hts⟩ hK hA hS hP hD [] [.int (jz j)] (mX6_size l G t1 a1 n1 g1 ) lkX8_95 [1] [0, 2, 3] (br := [bBD G x st sv bu di se wy ta tt rp, bText G t0 a0 n0 g0, bState G st t0 t1 al]) rfl rfl (by decide) 0 6 rfl rfl rfl rfl (Nat.le_of_ble_eq_true rfl) hl.1 dX8_checkPrefixes_33 ⟨Nat.le_of_ble_eq_true rfl, Nat.le_of_ble_eq_true rfl⟩ ⟨Nat.le_of_ble_eq_true rfl, Nat.le_of_ble_eq_true rfl⟩ (fun u9 H locs hp9 hP hD hS => ?_)
          have hP : wP G [bBD G x st sv bu di se wy ta tt rp, bText G t0 a0 n0 g0, bState G st t0 t1 al, bText G t1 a1 n1 g1] H := hP
          have hD : wD A [bBD G x st sv bu di se wy ta tt rp, bText G t0 a0 n0 g0, bState G st t0 t1 al, bText G t1 a1 n1 g1] := hD
          show W p l e rmX8_checkPrefixes_k s m args below meth c H locs 0 0 Q (F0 m 36 ls [.int (jz n1), .int (jz j)])
          refine jv_icmp_le (tgt := 50) hx hb dX8_checkPrefixes_36 (by decide) (by omega) (by omega) (fun c_8 => ?_) (fun c_8 => ?_)
          · exact cret_v hx hb hr hlocks hS hP hD (Nat.le_of_ble_eq_true rfl) (Nat.le_of_ble_eq_true rfl) dX8_checkPrefixes_50 [0, 2, 1, 3] (by decide) () rfl trivial rfl hQ
          · exfalso; omega
  exact KH s.heap [] hP hD hS
abbrev rmX8_checkBound_k : Room := { frames := 0, cells := 0, slots := 0, locals := 0 }
set_option maxHeartbeats 4000000 in
set_option maxRecDepth 100000 in
theorem mX8_checkBound_k (l : Launch) (G : GG) (z : Int) (hz : jr z) (hk9 : 0 ≤ z ∧ z ≤ 20) : Ct l yX8_checkBound cX8_checkBound 1 none rmX8_checkBound_k G [.int (jz z)] [] (fun uo : Unit => none) (fun uo => True) (fun uo => []) := by
  refine cof (by decide) (Nat.le_of_ble_eq_true rfl) ?_
  intro p e s m args below meth c A ls hx hb hr hml hown hts hlocks hin hA hK hP hD hS hl Q hQ
  have hown : s.vm.findClass RX8 = some m.cls := hown
  have hl : lv_has ls 1 [(0, .int (jz z))] := hl
  have KH : ∀ (H : Heap) (locs : List Loc), wP G [] H → wD A [] → va_S A s.heap H locs → W p l e rmX8_checkBound_k s m args below meth c H locs 0 0 Q (F0 m 0 ls []) := by
    intro H locs hP hD hS
    refine lv_iload_n hx hb dX8_checkBound_0 rfl (lv_at hl 0 rfl) ?_
    refine jv_if_lt (tgt := 10) hx hb dX8_checkBound_1 (by decide) (by omega) (fun c_1 => ?_) (fun c_1 => ?_)
    · exfalso; omega
    · refine lv_iload_n hx hb dX8_checkBound_4 rfl (lv_at hl 0 rfl) ?_
      refine jv_bipush hx hb dX8_checkBound_5 (by decide) ?_
      refine jv_icmp_le (tgt := 21) hx hb dX8_checkBound_7 (by decide) (by omega) (by omega) (fun c_2 => ?_) (fun c_2 => ?_)
      · exact cret_v hx hb hr hlocks hS hP hD (Nat.le_of_ble_eq_true rfl) (Nat.le_of_ble_eq_true rfl) dX8_checkBound_21 [] (by decide) () rfl trivial rfl hQ
      · exfalso; omega
  exact KH s.heap [] hP hD hS
abbrev rmX8_prefix_k : Room := { frames := 4, cells := 0, slots := 0, locals := 90 }
set_option maxHeartbeats 4000000 in
set_option maxRecDepth 100000 in
theorem mX8_prefix_k (l : Launch) (G : GG) (x : Nat) (st : Nat) (sv : Nat) (bu : Nat) (di : Nat) (se : Nat) (wy : Nat) (ta : Nat) (tt : Nat) (rp : Nat) (t0 : Nat) (t1 : Nat) (al : Int) (a0 : Nat) (n0 : Int) (g0 : Int → Int) (a1 : Nat) (n1 : Int) (g1 : Int → Int) (db : Nat) (dh : Int → Int) (i : Int) (j : Int) (hn0 : 0 ≤ n0 ∧ n0 ≤ 20) (hn1 : 0 ≤ n1 ∧ n1 ≤ 20) (hg0 : ∀ j : Int, 0 ≤ j → j < n0 → 0 ≤ g0 j ∧ g0 j < 4) (hg1 : ∀ j : Int, 0 ≤ j → j < n1 → 0 ≤ g1 j ∧ g1 j < 4) (hi : jr i) (hj : jr j) (hb1 : 0 ≤ i ∧ i ≤ n0 ∧ 0 ≤ j ∧ j ≤ n1) : Ct l yX8_prefix cX8_prefix 3 (some .int) rmX8_prefix_k G [.ref x, .int (jz i), .int (jz j)] [bBD G x st sv bu di se wy ta tt rp, bState G st t0 t1 al, bText G t0 a0 n0 g0, bText G t1 a1 n1 g1, bGrid G di db dh] (fun uo : (Int → Int) => some (.int (jz (D 1 g0 g1 i j)))) (fun uo => True) (fun uo => [bBD G x st sv bu di se wy ta tt rp, bState G st t0 t1 al, bText G t0 a0 n0 g0, bText G t1 a1 n1 g1, bGrid G di db uo]) := by
  refine cof (by decide) (Nat.le_of_ble_eq_true rfl) ?_
  intro p e s m args below meth c A ls hx hb hr hml hown hts hlocks hin hA hK hP hD hS hl Q hQ
  have hown : s.vm.findClass RX8 = some m.cls := hown
  have hl : lv_has ls 3 [(0, .ref x), (1, .int (jz i)), (2, .int (jz j))] := hl
  have KH : ∀ (H : Heap) (locs : List Loc), wP G [bBD G x st sv bu di se wy ta tt rp, bState G st t0 t1 al, bText G t0 a0 n0 g0, bText G t1 a1 n1 g1, bGrid G di db dh] H → wD A [bBD G x st sv bu di se wy ta tt rp, bState G st t0 t1 al, bText G t0 a0 n0 g0, bText G t1 a1 n1 g1, bGrid G di db dh] → va_S A s.heap H locs → W p l e rmX8_prefix_k s m args below meth c H locs 0 0 Q (F0 m 0 ls []) := by
    intro H locs hP hD hS
    refine lv_aload_n hx hb dX8_prefix_0 rfl (lv_at hl 0 rfl) ?_
    refine lv_iload_n hx hb dX8_prefix_1 rfl (lv_at hl 1 rfl) ?_
    refine lv_iload_n hx hb dX8_prefix_2 rfl (lv_at hl 2 rfl) ?_
    refine jv_iconst hx hb dX8_prefix_3 ?_
    refine kV ⟨hx, hb, hml, hown, hts⟩ hK hA hS hP hD [.int (jz i), .int (jz j), .int (jz 0)] [] (mX8_checkPrefixes_k l G x st sv bu di se wy ta tt rp t0 t1 al a0 n0 g0 a1 n1 g1 i j 0 (by omega) (by omega) (by omega) (by omega) (by omega) (by omega)) lkX8_153 [0, 1, 2, 3] [4] (br := [bGrid G di db dh]) rfl rfl (by decide) 0 8 rfl rfl rfl rfl (Nat.le_of_ble_eq_true rfl) hl.1 dX8_prefix_4 ⟨Nat.le_of_ble_eq_true rfl, Nat.le_of_ble_eq_true rfl⟩ ⟨Nat.le_of_ble_eq_true rfl, Nat.le_of_ble_eq_true rfl⟩ (fun u9 H locs hp9 hP hD hS => ?_)
    have hP : wP G [bGrid G di db dh, bBD G x st sv bu di se wy ta tt rp, bState G st t0 t1 al, bText G t0 a0 n0 g0, bText G t1 a1 n1 g1] H := hP
    have hD : wD A [bGrid G di db dh, bBD G x st sv bu di se wy ta tt rp, bState G st t0 t1 al, bText G t0 a0 n0 g0, bText G t1 a1 n1 g1] := hD
    show W p l e rmX8_prefix_k s m args below meth c H locs 0 0 Q (F0 m 7 ls [])
    refine lv_aload_n hx hb dX8_prefix_7 rfl (lv_at hl 0 rfl) ?_
    refine kV ⟨hx, hb, hml, hown, hts⟩ hK hA hS hP hD [] [] (mX8_currentDistances l G x st sv bu di se wy ta tt rp t0 t1 al a0 n0 g0 a1 n1 g1 db dh (by omega) (by omega) (by exact hg0) (by exact hg1)) lkX8_146 [1, 2, 3, 4, 0] [] (br := []) rfl rfl (by decide) 0 8 rfl rfl rfl rfl (Nat.le_of_ble_eq_true rfl) hl.1 dX8_prefix_8 ⟨Nat.le_of_ble_eq_true rfl, Nat.le_of_ble_eq_true rfl⟩ ⟨Nat.le_of_ble_eq_true rfl, Nat.le_of_ble_eq_true rfl⟩ (fun u9 H locs hp9 hP hD hS => ?_)
    obtain ⟨u_2, rfl⟩ : ∃ z, z = u9 := ⟨_, rfl⟩
    have hc_3 : ∀ x8 y : Int, 0 ≤ x8 → x8 ≤ n0 → 0 ≤ y → y ≤ n1 → u_2 (x8 * 21 + y) = D 1 g0 g1 x8 y := hp9
    have hP : wP G [bBD G x st sv bu di se wy ta tt rp, bState G st t0 t1 al, bText G t0 a0 n0 g0, bText G t1 a1 n1 g1, bGrid G di db u_2] H := hP
    have hD : wD A [bBD G x st sv bu di se wy ta tt rp, bState G st t0 t1 al, bText G t0 a0 n0 g0, bText G t1 a1 n1 g1, bGrid G di db u_2] := hD
    show W p l e rmX8_prefix_k s m args below meth c H locs 0 0 Q (F0 m 11 ls [.ref di])
    have hc1 := hc_3
    refine lv_iload_n hx hb dX8_prefix_11 rfl (lv_at hl 1 rfl) ?_
    refine lv_iload_n hx hb dX8_prefix_12 rfl (lv_at hl 2 rfl) ?_
    refine kV ⟨hx, hb, hml, hown, hts⟩ hK hA hS hP hD [.int (jz i), .int (jz j)] [] (mX1_at l G di db u_2 i j (by omega) (by omega)) lkX8_150 [4] [0, 1, 2, 3] (br := [bBD G x st sv bu di se wy ta tt rp, bState G st t0 t1 al, bText G t0 a0 n0 g0, bText G t1 a1 n1 g1]) rfl rfl (by decide) 0 1 rfl rfl rfl rfl (Nat.le_of_ble_eq_true rfl) hl.1 dX8_prefix_13 ⟨Nat.le_of_ble_eq_true rfl, Nat.le_of_ble_eq_true rfl⟩ ⟨Nat.le_of_ble_eq_true rfl, Nat.le_of_ble_eq_true rfl⟩ (fun u9 H locs hp9 hP hD hS => ?_)
    have hP : wP G [bBD G x st sv bu di se wy ta tt rp, bState G st t0 t1 al, bText G t0 a0 n0 g0, bText G t1 a1 n1 g1, bGrid G di db u_2] H := hP
    have hD : wD A [bBD G x st sv bu di se wy ta tt rp, bState G st t0 t1 al, bText G t0 a0 n0 g0, bText G t1 a1 n1 g1, bGrid G di db u_2] := hD
    show W p l e rmX8_prefix_k s m args below meth c H locs 0 0 Q (F0 m 16 ls [.int (jz (u_2 (i * 21 + j)))])
    exact cret_i hx hb hr hlocks hS hP hD (Nat.le_of_ble_eq_true rfl) (Nat.le_of_ble_eq_true rfl) rfl dX8_prefix_16 [0, 1, 2, 3, 4] (by decide) u_2 rfl trivial (congrArg (fun z : Int => some (Value.int (jz z))) (show (u_2 (i * 21 + j)) = D 1 g0 g1 i j from by exact hc1 i j (by omega) (by omega) (by omega) (by omega))) hQ
  exact KH s.heap [] hP hD hS
abbrev rmX8_across_k : Room := { frames := 4, cells := 0, slots := 0, locals := 90 }
set_option maxHeartbeats 4000000 in
set_option maxRecDepth 100000 in
theorem mX8_across_k (l : Launch) (G : GG) (x : Nat) (st : Nat) (sv : Nat) (bu : Nat) (di : Nat) (se : Nat) (wy : Nat) (ta : Nat) (tt : Nat) (rp : Nat) (t0 : Nat) (t1 : Nat) (al : Int) (a0 : Nat) (n0 : Int) (g0 : Int → Int) (a1 : Nat) (n1 : Int) (g1 : Int → Int) (db : Nat) (dh : Int → Int) (i : Int) (j : Int) (hn0 : 0 ≤ n0 ∧ n0 ≤ 20) (hn1 : 0 ≤ n1 ∧ n1 ≤ 20) (hg0 : ∀ j : Int, 0 ≤ j → j < n0 → 0 ≤ g0 j ∧ g0 j < 4) (hg1 : ∀ j : Int, 0 ≤ j → j < n1 → 0 ≤ g1 j ∧ g1 j < 4) (hi : jr i) (hj : jr j) (hb1 : 0 ≤ i ∧ i ≤ n0 ∧ 1 ≤ j ∧ j ≤ n1) : Ct l yX8_across cX8_across 3 (some .int) rmX8_across_k G [.ref x, .int (jz i), .int (jz j)] [bBD G x st sv bu di se wy ta tt rp, bState G st t0 t1 al, bText G t0 a0 n0 g0, bText G t1 a1 n1 g1, bGrid G di db dh] (fun uo : (Int → Int) => some (.int (jz (D 1 g0 g1 i j - D 1 g0 g1 i (j - 1))))) (fun uo => True) (fun uo => [bBD G x st sv bu di se wy ta tt rp, bState G st t0 t1 al, bText G t0 a0 n0 g0, bText G t1 a1 n1 g1, bGrid G di db uo]) := by
  refine cof (by decide) (Nat.le_of_ble_eq_true rfl) ?_
  intro p e s m args below meth c A ls hx hb hr hml hown hts hlocks hin hA hK hP hD hS hl Q hQ
  have hown : s.vm.findClass RX8 = some m.cls := hown
  have hl : lv_has ls 3 [(0, .ref x), (1, .int (jz i)), (2, .int (jz j))] := hl
  have KH : ∀ (H : Heap) (locs : List Loc), wP G [bBD G x st sv bu di se wy ta tt rp, bState G st t0 t1 al, bText G t0 a0 n0 g0, bText G t1 a1 n1 g1, bGrid G di db dh] H → wD A [bBD G x st sv bu di se wy ta tt rp, bState G st t0 t1 al, bText G t0 a0 n0 g0, bText G t1 a1 n1 g1, bGrid G di db dh] → va_S A s.heap H locs → W p l e rmX8_across_k s m args below meth c H locs 0 0 Q (F0 m 0 ls []) := by
    intro H locs hP hD hS
    refine lv_aload_n hx hb dX8_across_0 rfl (lv_at hl 0 rfl) ?_
    refine lv_iload_n hx hb dX8_across_1 rfl (lv_at hl 1 rfl) ?_
    refine lv_iload_n hx hb dX8_across_2 rfl (lv_at hl 2 rfl) ?_
    refine jv_iconst hx hb dX8_across_3 ?_
    refine kV ⟨hx, hb, hml, hown, hts⟩ hK hA hS hP hD [.int (jz i), .int (jz j), .int (jz 1)] [] (mX8_checkPrefixes_k l G x st sv bu di se wy ta tt rp t0 t1 al a0 n0 g0 a1 n1 g1 i j 1 (by omega) (by omega) (by omega) (by omega) (by omega) (by omega)) lkX8_153 [0, 1, 2, 3] [4] (br := [bGrid G di db dh]) rfl rfl (by decide) 0 8 rfl rfl rfl rfl (Nat.le_of_ble_eq_true rfl) hl.1 dX8_across_4 ⟨Nat.le_of_ble_eq_true rfl, Nat.le_of_ble_eq_true rfl⟩ ⟨Nat.le_of_ble_eq_true rfl, Nat.le_of_ble_eq_true rfl⟩ (fun u9 H locs hp9 hP hD hS => ?_)
    have hP : wP G [bGrid G di db dh, bBD G x st sv bu di se wy ta tt rp, bState G st t0 t1 al, bText G t0 a0 n0 g0, bText G t1 a1 n1 g1] H := hP
    have hD : wD A [bGrid G di db dh, bBD G x st sv bu di se wy ta tt rp, bState G st t0 t1 al, bText G t0 a0 n0 g0, bText G t1 a1 n1 g1] := hD
    show W p l e rmX8_across_k s m args below meth c H locs 0 0 Q (F0 m 7 ls [])
    refine lv_aload_n hx hb dX8_across_7 rfl (lv_at hl 0 rfl) ?_
    refine kV ⟨hx, hb, hml, hown, hts⟩ hK hA hS hP hD [] [] (mX8_currentDistances l G x st sv bu di se wy ta tt rp t0 t1 al a0 n0 g0 a1 n1 g1 db dh (by omega) (by omega) (by exact hg0) (by exact hg1)) lkX8_146 [1, 2, 3, 4, 0] [] (br := []) rfl rfl (by decide) 0 8 rfl rfl rfl rfl (Nat.le_of_ble_eq_true rfl) hl.1 dX8_across_8 ⟨Nat.le_of_ble_eq_true rfl, Nat.le_of_ble_eq_true rfl⟩ ⟨Nat.le_of_ble_eq_true rfl, Nat.le_of_ble_eq_true rfl⟩ (fun u9 H locs hp9 hP hD hS => ?_)
    obtain ⟨u_2, rfl⟩ : ∃ z, z = u9 := ⟨_, rfl⟩
    have hc_3 : ∀ x8 y : Int, 0 ≤ x8 → x8 ≤ n0 → 0 ≤ y → y ≤ n1 → u_2 (x8 * 21 + y) = D 1 g0 g1 x8 y := hp9
    have hP : wP G [bBD G x st sv bu di se wy ta tt rp, bState G st t0 t1 al, bText G t0 a0 n0 g0, bText G t1 a1 n1 g1, bGrid G di db u_2] H := hP
    have hD : wD A [bBD G x st sv bu di se wy ta tt rp, bState G st t0 t1 al, bText G t0 a0 n0 g0, bText G t1 a1 n1 g1, bGrid G di db u_2] := hD
    show W p l e rmX8_across_k s m args below meth c H locs 0 0 Q (F0 m 11 ls [.ref di])
    have hc1 := hc_3
    refine lv_iload_n hx hb dX8_across_11 rfl (lv_at hl 1 rfl) ?_
    refine lv_iload_n hx hb dX8_across_12 rfl (lv_at hl 2 rfl) ?_
    refine kV ⟨hx, hb, hml, hown, hts⟩ hK hA hS hP hD [.int (jz i), .int (jz j)] [] (mX1_stepAcross l G di db u_2 i j (by omega) (by omega)) lkX8_205 [4] [0, 1, 2, 3] (br := [bBD G x st sv bu di se wy ta tt rp, bState G st t0 t1 al, bText G t0 a0 n0 g0, bText G t1 a1 n1 g1]) rfl rfl (by decide) 0 1 rfl rfl rfl rfl (Nat.le_of_ble_eq_true rfl) hl.1 dX8_across_13 ⟨Nat.le_of_ble_eq_true rfl, Nat.le_of_ble_eq_true rfl⟩ ⟨Nat.le_of_ble_eq_true rfl, Nat.le_of_ble_eq_true rfl⟩ (fun u9 H locs hp9 hP hD hS => ?_)
    have hP : wP G [bBD G x st sv bu di se wy ta tt rp, bState G st t0 t1 al, bText G t0 a0 n0 g0, bText G t1 a1 n1 g1, bGrid G di db u_2] H := hP
    have hD : wD A [bBD G x st sv bu di se wy ta tt rp, bState G st t0 t1 al, bText G t0 a0 n0 g0, bText G t1 a1 n1 g1, bGrid G di db u_2] := hD
    show W p l e rmX8_across_k s m args below meth c H locs 0 0 Q (F0 m 16 ls [.int (jz (u_2 (i * 21 + j) - u_2 (i * 21 + (j - 1))))])
    exact cret_i hx hb hr hlocks hS hP hD (Nat.le_of_ble_eq_true rfl) (Nat.le_of_ble_eq_true rfl) rfl dX8_across_16 [0, 1, 2, 3, 4] (by decide) u_2 rfl trivial (congrArg (fun z : Int => some (Value.int (jz z))) (show (u_2 (i * 21 + j) - u_2 (i * 21 + (j - 1))) = D 1 g0 g1 i j - D 1 g0 g1 i (j - 1) from by rw [hc1 i j (by omega) (by omega) (by omega) (by omega), hc1 i (j - 1) (by omega) (by omega) (by omega) (by omega)])) hQ
  exact KH s.heap [] hP hD hS
abbrev rmX8_step_k : Room := { frames := 5, cells := 0, slots := 0, locals := 113 }
set_option maxHeartbeats 4000000 in
set_option maxRecDepth 100000 in
theorem mX8_step_k (l : Launch) (G : GG) (x : Nat) (st : Nat) (sv : Nat) (bu : Nat) (di : Nat) (se : Nat) (wy : Nat) (ta : Nat) (tt : Nat) (rp : Nat) (t0 : Nat) (t1 : Nat) (al : Int) (a0 : Nat) (n0 : Int) (g0 : Int → Int) (a1 : Nat) (n1 : Int) (g1 : Int → Int) (db : Nat) (dh : Int → Int) (wv : Nat) (wk : Int) (wh : Int → Int) (z : Int) (hn0 : 0 ≤ n0 ∧ n0 ≤ 20) (hn1 : 0 ≤ n1 ∧ n1 ≤ 20) (hg0 : ∀ j : Int, 0 ≤ j → j < n0 → 0 ≤ g0 j ∧ g0 j < 4) (hg1 : ∀ j : Int, 0 ≤ j → j < n1 → 0 ≤ g1 j ∧ g1 j < 4) (hz : jr z) (hz0 : 0 ≤ z) : Ct l yX8_step cX8_step 2 (some .int) rmX8_step_k G [.ref x, .int (jz z)] [bBD G x st sv bu di se wy ta tt rp, bState G st t0 t1 al, bText G t0 a0 n0 g0, bText G t1 a1 n1 g1, bGrid G di db dh, bWay G wy wv wk wh] (fun uo : (Int → Int) × (Int → Int) => some (.int (jz (if z < wL g0 g1 n0 n1 then wA g0 g1 n0 n1 (wL g0 g1 n0 n1 - 1 - z) else -1)))) (fun uo => True) (fun uo => [bBD G x st sv bu di se wy ta tt rp, bState G st t0 t1 al, bText G t0 a0 n0 g0, bText G t1 a1 n1 g1, bGrid G di db uo.1, bWay G wy wv (wL g0 g1 n0 n1) uo.2]) := by
  refine cof (by decide) (Nat.le_of_ble_eq_true rfl) ?_
  intro p e s m args below meth c A ls hx hb hr hml hown hts hlocks hin hA hK hP hD hS hl Q hQ
  have hown : s.vm.findClass RX8 = some m.cls := hown
  have hl : lv_has ls 2 [(0, .ref x), (1, .int (jz z))] := hl
  have KH : ∀ (H : Heap) (locs : List Loc), wP G [bBD G x st sv bu di se wy ta tt rp, bState G st t0 t1 al, bText G t0 a0 n0 g0, bText G t1 a1 n1 g1, bGrid G di db dh, bWay G wy wv wk wh] H → wD A [bBD G x st sv bu di se wy ta tt rp, bState G st t0 t1 al, bText G t0 a0 n0 g0, bText G t1 a1 n1 g1, bGrid G di db dh, bWay G wy wv wk wh] → va_S A s.heap H locs → W p l e rmX8_step_k s m args below meth c H locs 0 0 Q (F0 m 0 ls []) := by
    intro H locs hP hD hS
    have hwl := wL_bd g0 g1 hn0 hn1
    refine lv_iload_n hx hb dX8_step_0 rfl (lv_at hl 1 rfl) ?_
    refine jv_if_ge (tgt := 14) hx hb dX8_step_1 (by decide) (by omega) (fun c_1 => ?_) (fun c_1 => ?_)
    · refine lv_aload_n hx hb dX8_step_14 rfl (lv_at hl 0 rfl) ?_
      refine kV ⟨hx, hb, hml, hown, hts⟩ hK hA hS hP hD [] [] (mX8_currentWay l G x st sv bu di se wy ta tt rp t0 t1 al a0 n0 g0 a1 n1 g1 db dh wv wk wh (by omega) (by omega) (by exact hg0) (by exact hg1)) lkX8_157 [0, 1, 2, 3, 4, 5] [] (br := []) rfl rfl (by decide) 0 8 rfl rfl rfl rfl (Nat.le_of_ble_eq_true rfl) hl.1 dX8_step_15 ⟨Nat.le_of_ble_eq_true rfl, Nat.le_of_ble_eq_true rfl⟩ ⟨Nat.le_of_ble_eq_true rfl, Nat.le_of_ble_eq_true rfl⟩ (fun u9 H locs hp9 hP hD hS => ?_)
      obtain ⟨u_2, u_3⟩ := u9
      have hc_4 : ∀ x8 : Int, 0 ≤ x8 → x8 < wL g0 g1 n0 n1 → u_3 x8 = wA g0 g1 n0 n1 x8 := hp9
      have hP : wP G [bBD G x st sv bu di se wy ta tt rp, bState G st t0 t1 al, bText G t0 a0 n0 g0, bText G t1 a1 n1 g1, bGrid G di db u_2, bWay G wy wv (wL g0 g1 n0 n1) u_3] H := hP
      have hD : wD A [bBD G x st sv bu di se wy ta tt rp, bState G st t0 t1 al, bText G t0 a0 n0 g0, bText G t1 a1 n1 g1, bGrid G di db u_2, bWay G wy wv (wL g0 g1 n0 n1) u_3] := hD
      show W p l e rmX8_step_k s m args below meth c H locs 0 0 Q (F0 m 18 ls [.ref wy])
      have hc1 := hc_4
      refine lv_iload_n hx hb dX8_step_18 rfl (lv_at hl 1 rfl) ?_
      refine kV ⟨hx, hb, hml, hown, hts⟩ hK hA hS hP hD [.int (jz z)] [] (mX7_at l G wy wv (wL g0 g1 n0 n1) u_3 z (by omega) (by omega)) lkX8_164 [5] [0, 1, 2, 3, 4] (br := [bBD G x st sv bu di se wy ta tt rp, bState G st t0 t1 al, bText G t0 a0 n0 g0, bText G t1 a1 n1 g1, bGrid G di db u_2]) rfl rfl (by decide) 0 7 rfl rfl rfl rfl (Nat.le_of_ble_eq_true rfl) hl.1 dX8_step_19 ⟨Nat.le_of_ble_eq_true rfl, Nat.le_of_ble_eq_true rfl⟩ ⟨Nat.le_of_ble_eq_true rfl, Nat.le_of_ble_eq_true rfl⟩ (fun u9 H locs hp9 hP hD hS => ?_)
      have hP : wP G [bBD G x st sv bu di se wy ta tt rp, bState G st t0 t1 al, bText G t0 a0 n0 g0, bText G t1 a1 n1 g1, bGrid G di db u_2, bWay G wy wv (wL g0 g1 n0 n1) u_3] H := hP
      have hD : wD A [bBD G x st sv bu di se wy ta tt rp, bState G st t0 t1 al, bText G t0 a0 n0 g0, bText G t1 a1 n1 g1, bGrid G di db u_2, bWay G wy wv (wL g0 g1 n0 n1) u_3] := hD
      show W p l e rmX8_step_k s m args below meth c H locs 0 0 Q (F0 m 22 ls [.int (jz (if 0 ≤ z ∧ z < (wL g0 g1 n0 n1) then u_3 ((wL g0 g1 n0 n1) - 1 - z) else -1))])
      exact cret_i hx hb hr hlocks hS hP hD (Nat.le_of_ble_eq_true rfl) (Nat.le_of_ble_eq_true rfl) rfl dX8_step_22 [0, 1, 2, 3, 4, 5] (by decide) ⟨u_2, u_3⟩ rfl trivial (congrArg (fun z : Int => some (Value.int (jz z))) (show (if 0 ≤ z ∧ z < (wL g0 g1 n0 n1) then u_3 ((wL g0 g1 n0 n1) - 1 - z) else -1) = if z < wL g0 g1 n0 n1 then wA g0 g1 n0 n1 (wL g0 g1 n0 n1 - 1 - z) else -1 from by if e1 : z < wL g0 g1 n0 n1 then (rw [if_pos ⟨by omega, e1⟩, if_pos e1]; exact hc1 _ (by omega) (by omega)) else (rw [if_neg (by omega), if_neg e1]))) hQ
    · exfalso; omega
  exact KH s.heap [] hP hD hS
abbrev rmX8_count_k : Room := { frames := 5, cells := 0, slots := 0, locals := 113 }
set_option maxHeartbeats 4000000 in
set_option maxRecDepth 100000 in
theorem mX8_count_k (l : Launch) (G : GG) (x : Nat) (st : Nat) (sv : Nat) (bu : Nat) (di : Nat) (se : Nat) (wy : Nat) (ta : Nat) (tt : Nat) (rp : Nat) (t0 : Nat) (t1 : Nat) (al : Int) (a0 : Nat) (n0 : Int) (g0 : Int → Int) (a1 : Nat) (n1 : Int) (g1 : Int → Int) (db : Nat) (dh : Int → Int) (wv : Nat) (wk : Int) (wh : Int → Int) (z : Int) (hn0 : 0 ≤ n0 ∧ n0 ≤ 20) (hn1 : 0 ≤ n1 ∧ n1 ≤ 20) (hg0 : ∀ j : Int, 0 ≤ j → j < n0 → 0 ≤ g0 j ∧ g0 j < 4) (hg1 : ∀ j : Int, 0 ≤ j → j < n1 → 0 ≤ g1 j ∧ g1 j < 4) (hz : jr z) (hz0 : 0 ≤ z ∧ z ≤ 3) : Ct l yX8_count cX8_count 2 (some .int) rmX8_count_k G [.ref x, .int (jz z)] [bBD G x st sv bu di se wy ta tt rp, bState G st t0 t1 al, bText G t0 a0 n0 g0, bText G t1 a1 n1 g1, bGrid G di db dh, bWay G wy wv wk wh] (fun uo : (Int → Int) × (Int → Int) => some (.int (jz (cnt (wA g0 g1 n0 n1) z (wL g0 g1 n0 n1))))) (fun uo => True) (fun uo => [bBD G x st sv bu di se wy ta tt rp, bState G st t0 t1 al, bText G t0 a0 n0 g0, bText G t1 a1 n1 g1, bGrid G di db uo.1, bWay G wy wv (wL g0 g1 n0 n1) uo.2]) := by
  refine cof (by decide) (Nat.le_of_ble_eq_true rfl) ?_
  intro p e s m args below meth c A ls hx hb hr hml hown hts hlocks hin hA hK hP hD hS hl Q hQ
  have hown : s.vm.findClass RX8 = some m.cls := hown
  have hl : lv_has ls 2 [(0, .ref x), (1, .int (jz z))] := hl
  have KH : ∀ (H : Heap) (locs : List Loc), wP G [bBD G x st sv bu di se wy ta tt rp, bState G st t0 t1 al, bText G t0 a0 n0 g0, bText G t1 a1 n1 g1, bGrid G di db dh, bWay G wy wv wk wh] H → wD A [bBD G x st sv bu di se wy ta tt rp, bState G st t0 t1 al, bText G t0 a0 n0 g0, bText G t1 a1 n1 g1, bGrid G di db dh, bWay G wy wv wk wh] → va_S A s.heap H locs → W p l e rmX8_count_k s m args below meth c H locs 0 0 Q (F0 m 0 ls []) := by
    intro H locs hP hD hS
    have hwl := wL_bd g0 g1 hn0 hn1
    refine lv_iload_n hx hb dX8_count_0 rfl (lv_at hl 1 rfl) ?_
    refine jv_if_lt (tgt := 9) hx hb dX8_count_1 (by decide) (by omega) (fun c_1 => ?_) (fun c_1 => ?_)
    · exfalso; omega
    · refine lv_iload_n hx hb dX8_count_4 rfl (lv_at hl 1 rfl) ?_
      refine jv_iconst hx hb dX8_count_5 ?_
      refine jv_icmp_le (tgt := 19) hx hb dX8_count_6 (by decide) (by omega) (by omega) (fun c_2 => ?_) (fun c_2 => ?_)
      · refine lv_aload_n hx hb dX8_count_19 rfl (lv_at hl 0 rfl) ?_
        refine kV ⟨hx, hb, hml, hown, hts⟩ hK hA hS hP hD [] [] (mX8_currentWay l G x st sv bu di se wy ta tt rp t0 t1 al a0 n0 g0 a1 n1 g1 db dh wv wk wh (by omega) (by omega) (by exact hg0) (by exact hg1)) lkX8_157 [0, 1, 2, 3, 4, 5] [] (br := []) rfl rfl (by decide) 0 8 rfl rfl rfl rfl (Nat.le_of_ble_eq_true rfl) hl.1 dX8_count_20 ⟨Nat.le_of_ble_eq_true rfl, Nat.le_of_ble_eq_true rfl⟩ ⟨Nat.le_of_ble_eq_true rfl, Nat.le_of_ble_eq_true rfl⟩ (fun u9 H locs hp9 hP hD hS => ?_)
        obtain ⟨u_3, u_4⟩ := u9
        have hc_5 : ∀ x8 : Int, 0 ≤ x8 → x8 < wL g0 g1 n0 n1 → u_4 x8 = wA g0 g1 n0 n1 x8 := hp9
        have hP : wP G [bBD G x st sv bu di se wy ta tt rp, bState G st t0 t1 al, bText G t0 a0 n0 g0, bText G t1 a1 n1 g1, bGrid G di db u_3, bWay G wy wv (wL g0 g1 n0 n1) u_4] H := hP
        have hD : wD A [bBD G x st sv bu di se wy ta tt rp, bState G st t0 t1 al, bText G t0 a0 n0 g0, bText G t1 a1 n1 g1, bGrid G di db u_3, bWay G wy wv (wL g0 g1 n0 n1) u_4] := hD
        show W p l e rmX8_count_k s m args below meth c H locs 0 0 Q (F0 m 23 ls [.ref wy])
        have hc1 := hc_5
        refine lv_iload_n hx hb dX8_count_23 rfl (lv_at hl 1 rfl) ?_
        refine kV ⟨hx, hb, hml, hown, hts⟩ hK hA hS hP hD [.int (jz z)] [] (mX7_stepsOf l G wy wv (wL g0 g1 n0 n1) u_4 z (by omega) (by omega) (by intro y p1 p2; rw [hc1 y p1 p2]; exact wA_bd g0 g1 hn0 hn1 p1 p2)) lkX8_167 [5] [0, 1, 2, 3, 4] (br := [bBD G x st sv bu di se wy ta tt rp, bState G st t0 t1 al, bText G t0 a0 n0 g0, bText G t1 a1 n1 g1, bGrid G di db u_3]) rfl rfl (by decide) 0 7 rfl rfl rfl rfl (Nat.le_of_ble_eq_true rfl) hl.1 dX8_count_24 ⟨Nat.le_of_ble_eq_true rfl, Nat.le_of_ble_eq_true rfl⟩ ⟨Nat.le_of_ble_eq_true rfl, Nat.le_of_ble_eq_true rfl⟩ (fun u9 H locs hp9 hP hD hS => ?_)
        have hP : wP G [bBD G x st sv bu di se wy ta tt rp, bState G st t0 t1 al, bText G t0 a0 n0 g0, bText G t1 a1 n1 g1, bGrid G di db u_3, bWay G wy wv (wL g0 g1 n0 n1) u_4] H := hP
        have hD : wD A [bBD G x st sv bu di se wy ta tt rp, bState G st t0 t1 al, bText G t0 a0 n0 g0, bText G t1 a1 n1 g1, bGrid G di db u_3, bWay G wy wv (wL g0 g1 n0 n1) u_4] := hD
        show W p l e rmX8_count_k s m args below meth c H locs 0 0 Q (F0 m 27 ls [.int (jz (cnt u_4 z (wL g0 g1 n0 n1)))])
        exact cret_i hx hb hr hlocks hS hP hD (Nat.le_of_ble_eq_true rfl) (Nat.le_of_ble_eq_true rfl) rfl dX8_count_27 [0, 1, 2, 3, 4, 5] (by decide) ⟨u_3, u_4⟩ rfl trivial (congrArg (fun z : Int => some (Value.int (jz z))) (show (cnt u_4 z (wL g0 g1 n0 n1)) = cnt (wA g0 g1 n0 n1) z (wL g0 g1 n0 n1) from by exact cnt_cg z hc1)) hQ
      · exfalso; omega
  exact KH s.heap [] hP hD hS
abbrev rmX8_within_k : Room := { frames := 5, cells := 0, slots := 0, locals := 110 }
set_option maxHeartbeats 4000000 in
set_option maxRecDepth 100000 in
theorem mX8_within_k (l : Launch) (G : GG) (x : Nat) (st : Nat) (sv : Nat) (bu : Nat) (di : Nat) (se : Nat) (wy : Nat) (ta : Nat) (tt : Nat) (rp : Nat) (t0 : Nat) (t1 : Nat) (al : Int) (a0 : Nat) (n0 : Int) (g0 : Int → Int) (a1 : Nat) (n1 : Int) (g1 : Int → Int) (db : Nat) (dh : Int → Int) (z : Int) (hn0 : 0 ≤ n0 ∧ n0 ≤ 20) (hn1 : 0 ≤ n1 ∧ n1 ≤ 20) (hg0 : ∀ j : Int, 0 ≤ j → j < n0 → 0 ≤ g0 j ∧ g0 j < 4) (hg1 : ∀ j : Int, 0 ≤ j → j < n1 → 0 ≤ g1 j ∧ g1 j < 4) (hz : jr z) (hb1 : 0 ≤ z ∧ z ≤ 20) : Ct l yX8_within cX8_within 3 (some .int) rmX8_within_k G [.ref x, .int (jz z)] [bBD G x st sv bu di se wy ta tt rp, bState G st t0 t1 al, bText G t0 a0 n0 g0, bText G t1 a1 n1 g1, bGrid G di db dh] (fun uo : (Int → Int) => some (.int (jz (if D 1 g0 g1 n0 n1 ≤ z then D 1 g0 g1 n0 n1 else -1)))) (fun uo => True) (fun uo => [bBD G x st sv bu di se wy ta tt rp, bState G st t0 t1 al, bText G t0 a0 n0 g0, bText G t1 a1 n1 g1, bGrid G di db uo]) := by
  refine cof (by decide) (Nat.le_of_ble_eq_true rfl) ?_
  intro p e s m args below meth c A ls hx hb hr hml hown hts hlocks hin hA hK hP hD hS hl Q hQ
  have hown : s.vm.findClass RX8 = some m.cls := hown
  have hl : lv_has ls 3 [(0, .ref x), (1, .int (jz z))] := hl
  have KH : ∀ (H : Heap) (locs : List Loc), wP G [bBD G x st sv bu di se wy ta tt rp, bState G st t0 t1 al, bText G t0 a0 n0 g0, bText G t1 a1 n1 g1, bGrid G di db dh] H → wD A [bBD G x st sv bu di se wy ta tt rp, bState G st t0 t1 al, bText G t0 a0 n0 g0, bText G t1 a1 n1 g1, bGrid G di db dh] → va_S A s.heap H locs → W p l e rmX8_within_k s m args below meth c H locs 0 0 Q (F0 m 0 ls []) := by
    intro H locs hP hD hS
    have hdb := D_bd (c := 1) (Or.inr rfl) g0 g1 (i := n0) (j := n1) (by omega) (by omega)
    refine lv_iload_n hx hb dX8_within_0 rfl (lv_at hl 1 rfl) ?_
    refine kS ⟨hx, hb, hml, hown, hts⟩ hK hA hS hP hD [.int (jz z)] [] (mX8_checkBound_k l G z (by omega) (by omega)) lkX8_170 [] [0, 1, 2, 3, 4] (br := [bBD G x st sv bu di se wy ta tt rp, bState G st t0 t1 al, bText G t0 a0 n0 g0, bText G t1 a1 n1 g1, bGrid G di db dh]) rfl rfl (by decide) rfl rfl (Nat.le_of_ble_eq_true rfl) hl.1 dX8_within_1 ⟨Nat.le_of_ble_eq_true rfl, Nat.le_of_ble_eq_true rfl⟩ ⟨Nat.le_of_ble_eq_true rfl, Nat.le_of_ble_eq_true rfl⟩ (fun u9 H locs hp9 hP hD hS => ?_)
    have hP : wP G [bBD G x st sv bu di se wy ta tt rp, bState G st t0 t1 al, bText G t0 a0 n0 g0, bText G t1 a1 n1 g1, bGrid G di db dh] H := hP
    have hD : wD A [bBD G x st sv bu di se wy ta tt rp, bState G st t0 t1 al, bText G t0 a0 n0 g0, bText G t1 a1 n1 g1, bGrid G di db dh] := hD
    show W p l e rmX8_within_k s m args below meth c H locs 0 0 Q (F0 m 4 ls [])
    refine lv_aload_n hx hb dX8_within_4 rfl (lv_at hl 0 rfl) ?_
    refine kV ⟨hx, hb, hml, hown, hts⟩ hK hA hS hP hD [] [] (mX8_distance l G x st sv bu di se wy ta tt rp t0 t1 al a0 n0 g0 a1 n1 g1 db dh (by omega) (by omega) (by exact hg0) (by exact hg1)) lkX8_173 [0, 1, 2, 3, 4] [] (br := []) rfl rfl (by decide) 0 8 rfl rfl rfl rfl (Nat.le_of_ble_eq_true rfl) hl.1 dX8_within_5 ⟨Nat.le_of_ble_eq_true rfl, Nat.le_of_ble_eq_true rfl⟩ ⟨Nat.le_of_ble_eq_true rfl, Nat.le_of_ble_eq_true rfl⟩ (fun u9 H locs hp9 hP hD hS => ?_)
    obtain ⟨u_2, rfl⟩ : ∃ z, z = u9 := ⟨_, rfl⟩
    have hP : wP G [bBD G x st sv bu di se wy ta tt rp, bState G st t0 t1 al, bText G t0 a0 n0 g0, bText G t1 a1 n1 g1, bGrid G di db u_2] H := hP
    have hD : wD A [bBD G x st sv bu di se wy ta tt rp, bState G st t0 t1 al, bText G t0 a0 n0 g0, bText G t1 a1 n1 g1, bGrid G di db u_2] := hD
    show W p l e rmX8_within_k s m args below meth c H locs 0 0 Q (F0 m 8 ls [.int (jz (D 1 g0 g1 n0 n1))])
    refine lv_istore_n (lv' := [(2, .int (jz (D 1 g0 g1 n0 n1))), (0, .ref x), (1, .int (jz z))]) hx hb dX8_within_8 rfl hl (by decide) rfl (fun ls hl => ?_)
    refine lv_iload_n hx hb dX8_within_9 rfl (lv_at hl 0 rfl) ?_
    refine lv_iload_n hx hb dX8_within_10 rfl (lv_at hl 2 rfl) ?_
    refine jv_icmp_gt (tgt := 18) hx hb dX8_within_11 (by decide) (by omega) (by omega) (fun c_3 => ?_) (fun c_3 => ?_)
    · refine jv_iconst hx hb dX8_within_18 ?_
      exact cret_i hx hb hr hlocks hS hP hD (Nat.le_of_ble_eq_true rfl) (Nat.le_of_ble_eq_true rfl) rfl dX8_within_19 [0, 1, 2, 3, 4] (by decide) u_2 rfl trivial (congrArg (fun z : Int => some (Value.int (jz z))) (show ((-1)) = if D 1 g0 g1 n0 n1 ≤ z then D 1 g0 g1 n0 n1 else -1 from by first | (rw [if_pos (by omega)]) | (rw [if_neg (by omega)]))) hQ
    · refine lv_iload_n hx hb dX8_within_14 rfl (lv_at hl 0 rfl) ?_
      refine lv_goto (tgt := 19) hx hb dX8_within_15 (by decide) ?_
      exact cret_i hx hb hr hlocks hS hP hD (Nat.le_of_ble_eq_true rfl) (Nat.le_of_ble_eq_true rfl) rfl dX8_within_19 [0, 1, 2, 3, 4] (by decide) u_2 rfl trivial (congrArg (fun z : Int => some (Value.int (jz z))) (show (D 1 g0 g1 n0 n1) = if D 1 g0 g1 n0 n1 ≤ z then D 1 g0 g1 n0 n1 else -1 from by first | (rw [if_pos (by omega)]) | (rw [if_neg (by omega)]))) hQ
  exact KH s.heap [] hP hD hS
abbrev rmX8_band_k : Room := { frames := 1, cells := 0, slots := 0, locals := 21 }
set_option maxHeartbeats 4000000 in
set_option maxRecDepth 100000 in
theorem mX8_band_k (l : Launch) (G : GG) (x : Nat) (st : Nat) (sv : Nat) (bu : Nat) (di : Nat) (se : Nat) (wy : Nat) (ta : Nat) (tt : Nat) (rp : Nat) (t0 : Nat) (t1 : Nat) (al : Int) (a0 : Nat) (n0 : Int) (g0 : Int → Int) (a1 : Nat) (n1 : Int) (g1 : Int → Int) (z : Int) (hn0 : 0 ≤ n0 ∧ n0 ≤ 20) (hn1 : 0 ≤ n1 ∧ n1 ≤ 20) (hz : jr z) (hb1 : 0 ≤ z ∧ z ≤ 20) : Ct l yX8_band cX8_band 8 (some .int) rmX8_band_k G [.ref x, .int (jz z)] [bBD G x st sv bu di se wy ta tt rp, bState G st t0 t1 al, bText G t0 a0 n0 g0, bText G t1 a1 n1 g1] (fun uo : Unit => some (.int (jz (bandI z n1 (n0 + 1))))) (fun uo => True) (fun uo => [bBD G x st sv bu di se wy ta tt rp, bState G st t0 t1 al, bText G t0 a0 n0 g0, bText G t1 a1 n1 g1]) := by
  refine cof (by decide) (Nat.le_of_ble_eq_true rfl) ?_
  intro p e s m args below meth c A ls hx hb hr hml hown hts hlocks hin hA hK hP hD hS hl Q hQ
  have hown : s.vm.findClass RX8 = some m.cls := hown
  have hl : lv_has ls 8 [(0, .ref x), (1, .int (jz z))] := hl
  have KH : ∀ (H : Heap) (locs : List Loc), wP G [bBD G x st sv bu di se wy ta tt rp, bState G st t0 t1 al, bText G t0 a0 n0 g0, bText G t1 a1 n1 g1] H → wD A [bBD G x st sv bu di se wy ta tt rp, bState G st t0 t1 al, bText G t0 a0 n0 g0, bText G t1 a1 n1 g1] → va_S A s.heap H locs → W p l e rmX8_band_k s m args below meth c H locs 0 0 Q (F0 m 0 ls []) := by
    intro H locs hP hD hS
    refine lv_iload_n hx hb dX8_band_0 rfl (lv_at hl 1 rfl) ?_
    refine kS ⟨hx, hb, hml, hown, hts⟩ hK hA hS hP hD [.int (jz z)] [] (mX8_checkBound_k l G z (by omega) (by omega)) lkX8_170 [] [0, 1, 2, 3] (br := [bBD G x st sv bu di se wy ta tt rp, bState G st t0 t1 al, bText G t0 a0 n0 g0, bText G t1 a1 n1 g1]) rfl rfl (by decide) rfl rfl (Nat.le_of_ble_eq_true rfl) hl.1 dX8_band_1 ⟨Nat.le_of_ble_eq_true rfl, Nat.le_of_ble_eq_true rfl⟩ ⟨Nat.le_of_ble_eq_true rfl, Nat.le_of_ble_eq_true rfl⟩ (fun u9 H locs hp9 hP hD hS => ?_)
    have hP : wP G [bBD G x st sv bu di se wy ta tt rp, bState G st t0 t1 al, bText G t0 a0 n0 g0, bText G t1 a1 n1 g1] H := hP
    have hD : wD A [bBD G x st sv bu di se wy ta tt rp, bState G st t0 t1 al, bText G t0 a0 n0 g0, bText G t1 a1 n1 g1] := hD
    show W p l e rmX8_band_k s m args below meth c H locs 0 0 Q (F0 m 4 ls [])
    refine lv_aload_n hx hb dX8_band_4 rfl (lv_at hl 0 rfl) ?_
    refine va_get (ci := 8) (v := .ref st) (C := RX8) (T := TX8) (N := 9) hx hb hts wfX8 hown hK.1 hP 0 rfl rfl 0 (by decide) (hts _ wm166) (fun _ h9 => h9) rfl dX8_band_5 ?_
    refine jv_iconst hx hb dX8_band_8 ?_
    refine kV ⟨hx, hb, hml, hown, hts⟩ hK hA hS hP hD [.int (jz 0)] [] (mX5_text_0 l G st t0 t1 al 0 (by omega) (by omega)) lkX8_87 [1] [0, 2, 3] (br := [bBD G x st sv bu di se wy ta tt rp, bText G t0 a0 n0 g0, bText G t1 a1 n1 g1]) rfl rfl (by decide) 0 5 rfl rfl rfl rfl (Nat.le_of_ble_eq_true rfl) hl.1 dX8_band_9 ⟨Nat.le_of_ble_eq_true rfl, Nat.le_of_ble_eq_true rfl⟩ ⟨Nat.le_of_ble_eq_true rfl, Nat.le_of_ble_eq_true rfl⟩ (fun u9 H locs hp9 hP hD hS => ?_)
    have hP : wP G [bBD G x st sv bu di se wy ta tt rp, bText G t0 a0 n0 g0, bText G t1 a1 n1 g1, bState G st t0 t1 al] H := hP
    have hD : wD A [bBD G x st sv bu di se wy ta tt rp, bText G t0 a0 n0 g0, bText G t1 a1 n1 g1, bState G st t0 t1 al] := hD
    show W p l e rmX8_band_k s m args below meth c H locs 0 0 Q (F0 m 12 ls [.ref t0])
    refine kV ⟨hx, hb, hml, hown, hts⟩ hK hA hS hP hD [] [] (mX6_size l G t0 a0 n0 g0 ) lkX8_95 [1] [0, 2, 3] (br := [bBD G x st sv bu di se wy ta tt rp, bText G t1 a1 n1 g1, bState G st t0 t1 al]) rfl rfl (by decide) 0 6 rfl rfl rfl rfl (Nat.le_of_ble_eq_true rfl) hl.1 dX8_band_12 ⟨Nat.le_of_ble_eq_true rfl, Nat.le_of_ble_eq_true rfl⟩ ⟨Nat.le_of_ble_eq_true rfl, Nat.le_of_ble_eq_true rfl⟩ (fun u9 H locs hp9 hP hD hS => ?_)
    have hP : wP G [bBD G x st sv bu di se wy ta tt rp, bText G t1 a1 n1 g1, bState G st t0 t1 al, bText G t0 a0 n0 g0] H := hP
    have hD : wD A [bBD G x st sv bu di se wy ta tt rp, bText G t1 a1 n1 g1, bState G st t0 t1 al, bText G t0 a0 n0 g0] := hD
    show W p l e rmX8_band_k s m args below meth c H locs 0 0 Q (F0 m 15 ls [.int (jz n0)])
    refine lv_istore_n (lv' := [(2, .int (jz n0)), (0, .ref x), (1, .int (jz z))]) hx hb dX8_band_15 rfl hl (by decide) rfl (fun ls hl => ?_)
    refine lv_aload_n hx hb dX8_band_16 rfl (lv_at hl 1 rfl) ?_
    refine va_get (ci := 8) (v := .ref st) (C := RX8) (T := TX8) (N := 9) hx hb hts wfX8 hown hK.1 hP 0 rfl rfl 0 (by decide) (hts _ wm166) (fun _ h9 => h9) rfl dX8_band_17 ?_
    refine jv_iconst hx hb dX8_band_20 ?_
    refine kV ⟨hx, hb, hml, hown, hts⟩ hK hA hS hP hD [.int (jz 1)] [] (mX5_text_1 l G st t0 t1 al 1 (by omega) (by omega)) lkX8_87 [2] [0, 1, 3] (br := [bBD G x st sv bu di se wy ta tt rp, bText G t1 a1 n1 g1, bText G t0 a0 n0 g0]) rfl rfl (by decide) 0 5 rfl rfl rfl rfl (Nat.le_of_ble_eq_true rfl) hl.1 dX8_band_21 ⟨Nat.le_of_ble_eq_true rfl, Nat.le_of_ble_eq_true rfl⟩ ⟨Nat.le_of_ble_eq_true rfl, Nat.le_of_ble_eq_true rfl⟩ (fun u9 H locs hp9 hP hD hS => ?_)
    have hP : wP G [bBD G x st sv bu di se wy ta tt rp, bText G t1 a1 n1 g1, bText G t0 a0 n0 g0, bState G st t0 t1 al] H := hP
    have hD : wD A [bBD G x st sv bu di se wy ta tt rp, bText G t1 a1 n1 g1, bText G t0 a0 n0 g0, bState G st t0 t1 al] := hD
    show W p l e rmX8_band_k s m args below meth c H locs 0 0 Q (F0 m 24 ls [.ref t1])
    refine kV ⟨hx, hb, hml, hown, hts⟩ hK hA hS hP hD [] [] (mX6_size l G t1 a1 n1 g1 ) lkX8_95 [1] [0, 2, 3] (br := [bBD G x st sv bu di se wy ta tt rp, bText G t0 a0 n0 g0, bState G st t0 t1 al]) rfl rfl (by decide) 0 6 rfl rfl rfl rfl (Nat.le_of_ble_eq_true rfl) hl.1 dX8_band_24 ⟨Nat.le_of_ble_eq_true rfl, Nat.le_of_ble_eq_true rfl⟩ ⟨Nat.le_of_ble_eq_true rfl, Nat.le_of_ble_eq_true rfl⟩ (fun u9 H locs hp9 hP hD hS => ?_)
    have hP : wP G [bBD G x st sv bu di se wy ta tt rp, bText G t0 a0 n0 g0, bState G st t0 t1 al, bText G t1 a1 n1 g1] H := hP
    have hD : wD A [bBD G x st sv bu di se wy ta tt rp, bText G t0 a0 n0 g0, bState G st t0 t1 al, bText G t1 a1 n1 g1] := hD
    show W p l e rmX8_band_k s m args below meth c H locs 0 0 Q (F0 m 27 ls [.int (jz n1)])
    refine lv_istore_n (lv' := [(3, .int (jz n1)), (2, .int (jz n0)), (0, .ref x), (1, .int (jz z))]) hx hb dX8_band_27 rfl hl (by decide) rfl (fun ls hl => ?_)
    refine jv_iconst hx hb dX8_band_28 ?_
    refine lv_istore (lv' := [(4, .int (jz 0)), (3, .int (jz n1)), (2, .int (jz n0)), (0, .ref x), (1, .int (jz z))]) hx hb dX8_band_29 hl (by decide) rfl (fun ls hl => ?_)
    refine jv_iconst hx hb dX8_band_31 ?_
    refine lv_istore (lv' := [(5, .int (jz 0)), (4, .int (jz 0)), (3, .int (jz n1)), (2, .int (jz n0)), (0, .ref x), (1, .int (jz z))]) hx hb dX8_band_32 hl (by decide) rfl (fun ls hl => ?_)
    have K34 : ∀ (n9 : Nat) (k : Int) (r : Int) , ((n0 + 1 - k).toNat) < n9 → (0 ≤ k ∧ k ≤ n0 + 1) → (r = bandI z n1 k) → ∀ (H : Heap) (locs : List Loc) (ls : Array Slot), wP G [bBD G x st sv bu di se wy ta tt rp, bText G t0 a0 n0 g0, bState G st t0 t1 al, bText G t1 a1 n1 g1] H → wD A [bBD G x st sv bu di se wy ta tt rp, bText G t0 a0 n0 g0, bState G st t0 t1 al, bText G t1 a1 n1 g1] → va_S A s.heap H locs → lv_has ls 8 [(0, .ref x), (1, .int (jz z)), (2, .int (jz n0)), (3, .int (jz n1)), (4, .int (jz r)), (5, .int (jz k))] → W p l e rmX8_band_k s m args below meth c H locs 0 0 Q (F0 m 34 ls []) := by
      intro n9
      induction n9 with
      | zero => intro k r hm9; exact absurd hm9 (Nat.not_lt_zero _)
      | succ n9 ih34 =>
        intro k r hm9 hk hr9 H locs ls hP hD hS hl
        refine lv_iload hx hb dX8_band_34 (lv_at hl 5 rfl) ?_
        refine lv_iload_n hx hb dX8_band_36 rfl (lv_at hl 2 rfl) ?_
        refine jv_icmp_gt (tgt := 82) hx hb dX8_band_37 (by decide) (by omega) (by omega) (fun c_6 => ?_) (fun c_6 => ?_)
        · refine lv_iload hx hb dX8_band_82 (lv_at hl 4 rfl) ?_
          exact cret_i hx hb hr hlocks hS hP hD (Nat.le_of_ble_eq_true rfl) (Nat.le_of_ble_eq_true rfl) rfl dX8_band_84 [0, 2, 1, 3] (by decide) () rfl trivial (congrArg (fun z : Int => some (Value.int (jz z))) (show r = bandI z n1 (n0 + 1) from by rw [hr9, show k = n0 + 1 by omega])) hQ
        · refine jv_iconst hx hb dX8_band_40 ?_
          refine lv_iload hx hb dX8_band_41 (lv_at hl 5 rfl) ?_
          refine lv_iload_n hx hb dX8_band_43 rfl (lv_at hl 1 rfl) ?_
          refine jv_isub hx hb dX8_band_44 ?_
          refine jv_max hx hb (hml.trans hl.1.symm) hown (hts _ wm577) (hts _ wm474) (hts _ wm26) (hts _ wm475) (Nat.le_of_ble_eq_true rfl) (Nat.le_of_ble_eq_true rfl) (Nat.le_of_ble_eq_true rfl) (Nat.le_of_ble_eq_true rfl) (by omega) (by omega) dX8_band_45 ?_
          refine lv_istore (lv' := [(6, .int (jz (max 0 (k - z)))), (0, .ref x), (1, .int (jz z)), (2, .int (jz n0)), (3, .int (jz n1)), (4, .int (jz r)), (5, .int (jz k))]) hx hb dX8_band_48 hl (by decide) rfl (fun ls hl => ?_)
          refine lv_iload_n hx hb dX8_band_50 rfl (lv_at hl 4 rfl) ?_
          refine lv_iload hx hb dX8_band_51 (lv_at hl 6 rfl) ?_
          refine lv_iload_n hx hb dX8_band_53 rfl (lv_at hl 2 rfl) ?_
          refine jv_iadd hx hb dX8_band_54 ?_
          refine jv_min hx hb (hml.trans hl.1.symm) hown (hts _ wm466) (hts _ wm467) (hts _ wm26) (hts _ wm468) (Nat.le_of_ble_eq_true rfl) (Nat.le_of_ble_eq_true rfl) (Nat.le_of_ble_eq_true rfl) (Nat.le_of_ble_eq_true rfl) (by omega) (by omega) dX8_band_55 ?_
          refine lv_istore (lv' := [(7, .int (jz (min n1 (k + z)))), (6, .int (jz (max 0 (k - z)))), (0, .ref x), (1, .int (jz z)), (2, .int (jz n0)), (3, .int (jz n1)), (4, .int (jz r)), (5, .int (jz k))]) hx hb dX8_band_58 hl (by decide) rfl (fun ls hl => ?_)
          refine lv_iload hx hb dX8_band_60 (lv_at hl 6 rfl) ?_
          refine jv_iconst hx hb dX8_band_62 ?_
          refine lv_iload hx hb dX8_band_63 (lv_at hl 0 rfl) ?_
          refine lv_iload hx hb dX8_band_65 (lv_at hl 1 rfl) ?_
          refine jv_isub hx hb dX8_band_67 ?_
          refine jv_iconst hx hb dX8_band_68 ?_
          refine jv_iadd hx hb dX8_band_69 ?_
          refine jv_max hx hb (hml.trans hl.1.symm) hown (hts _ wm577) (hts _ wm474) (hts _ wm26) (hts _ wm475) (Nat.le_of_ble_eq_true rfl) (Nat.le_of_ble_eq_true rfl) (Nat.le_of_ble_eq_true rfl) (Nat.le_of_ble_eq_true rfl) (by omega) (by omega) dX8_band_70 ?_
          refine jv_iadd hx hb dX8_band_73 ?_
          refine lv_istore (lv' := [(4, .int (jz (r + (max 0 (((min n1 (k + z)) - (max 0 (k - z))) + 1))))), (7, .int (jz (min n1 (k + z)))), (6, .int (jz (max 0 (k - z)))), (0, .ref x), (1, .int (jz z)), (2, .int (jz n0)), (3, .int (jz n1)), (5, .int (jz k))]) hx hb dX8_band_74 hl (by decide) rfl (fun ls hl => ?_)
          refine jv_iinc (lv' := [(5, .int (jz (k + 1))), (4, .int (jz (r + (max 0 (((min n1 (k + z)) - (max 0 (k - z))) + 1))))), (7, .int (jz (min n1 (k + z)))), (6, .int (jz (max 0 (k - z)))), (0, .ref x), (1, .int (jz z)), (2, .int (jz n0)), (3, .int (jz n1))]) (k := 7) hx hb dX8_band_76 hl rfl (by decide) rfl (fun ls hl => ?_)
          refine lv_goto (tgt := 34) hx hb dX8_band_79 (by decide) ?_
          exact ih34 (k + 1) (r + (max 0 (((min n1 (k + z)) - (max 0 (k - z))) + 1))) (by omega) (by omega) (by rw [bandI_s z n1 (by omega)]; omega) H _ _ hP hD hS (lv_sub hl [4, 5, 6, 7, 1, 0] rfl)
    exact K34 (((n0 + 1 - 0).toNat) + 1) 0 0 (Nat.lt_succ_self _) (by omega) (by rfl) H _ _ hP hD hS (lv_sub hl [4, 5, 3, 2, 1, 0] rfl)
  exact KH s.heap [] hP hD hS
abbrev rmX8_setBlock_k : Room := { frames := 1, cells := 0, slots := 0, locals := 22 }
set_option maxHeartbeats 4000000 in
set_option maxRecDepth 100000 in
theorem mX8_setBlock_k (l : Launch) (G : GG) (x : Nat) (st : Nat) (sv : Nat) (bu : Nat) (di : Nat) (se : Nat) (wy : Nat) (ta : Nat) (tt : Nat) (rp : Nat) (ta : Nat) (tm : Nat) (bs : Int) (hi : Int) (mi : Int) (si : Int) (F : Int → Int64) (z : Int) (hz : jr z) (hk9 : 1 ≤ z ∧ z ≤ 2) : Ct l yX8_setBlock cX8_setBlock 3 (some .int) rmX8_setBlock_k G [.ref x, .int (jz z)] [bBD G x st sv bu di se wy ta tt rp, bTab G ta tm bs hi mi si F] (fun uo : (Int → Int64) => some (.int (jz bs))) (fun uo => (∀ w : Int, 0 ≤ w → w < 324 → uo w = 0)) (fun uo => [bBD G x st sv bu di se wy ta tt rp, bTab G ta tm z 0 0 0 uo]) := by
  refine cof (by decide) (Nat.le_of_ble_eq_true rfl) ?_
  intro p e s m args below meth c A ls hx hb hr hml hown hts hlocks hin hA hK hP hD hS hl Q hQ
  have hown : s.vm.findClass RX8 = some m.cls := hown
  have hl : lv_has ls 3 [(0, .ref x), (1, .int (jz z))] := hl
  have KH : ∀ (H : Heap) (locs : List Loc), wP G [bBD G x st sv bu di se wy ta tt rp, bTab G ta tm bs hi mi si F] H → wD A [bBD G x st sv bu di se wy ta tt rp, bTab G ta tm bs hi mi si F] → va_S A s.heap H locs → W p l e rmX8_setBlock_k s m args below meth c H locs 0 0 Q (F0 m 0 ls []) := by
    intro H locs hP hD hS
    refine lv_iload_n hx hb dX8_setBlock_0 rfl (lv_at hl 1 rfl) ?_
    refine jv_iconst hx hb dX8_setBlock_1 ?_
    refine jv_icmp_lt (tgt := 10) hx hb dX8_setBlock_2 (by decide) (by omega) (by omega) (fun c_1 => ?_) (fun c_1 => ?_)
    · exfalso; omega
    · refine lv_iload_n hx hb dX8_setBlock_5 rfl (lv_at hl 1 rfl) ?_
      refine jv_iconst hx hb dX8_setBlock_6 ?_
      refine jv_icmp_le (tgt := 20) hx hb dX8_setBlock_7 (by decide) (by omega) (by omega) (fun c_2 => ?_) (fun c_2 => ?_)
      · refine lv_aload_n hx hb dX8_setBlock_20 rfl (lv_at hl 0 rfl) ?_
        refine va_get (ci := 8) (v := .ref ta) (C := RX8) (T := TX8) (N := 9) hx hb hts wfX8 hown hK.1 hP 0 rfl rfl 6 (by decide) (hts _ wm172) (fun _ h9 => h9) rfl dX8_setBlock_21 ?_
        refine kV ⟨hx, hb, hml, hown, hts⟩ hK hA hS hP hD [] [] (mX0_blockSize l G ta tm bs hi mi si F ) lkX8_186 [1] [0] (br := [bBD G x st sv bu di se wy ta tt rp]) rfl rfl (by decide) 0 0 rfl rfl rfl rfl (Nat.le_of_ble_eq_true rfl) hl.1 dX8_setBlock_24 ⟨Nat.le_of_ble_eq_true rfl, Nat.le_of_ble_eq_true rfl⟩ ⟨Nat.le_of_ble_eq_true rfl, Nat.le_of_ble_eq_true rfl⟩ (fun u9 H locs hp9 hP hD hS => ?_)
        have hP : wP G [bBD G x st sv bu di se wy ta tt rp, bTab G ta tm bs hi mi si F] H := hP
        have hD : wD A [bBD G x st sv bu di se wy ta tt rp, bTab G ta tm bs hi mi si F] := hD
        show W p l e rmX8_setBlock_k s m args below meth c H locs 0 0 Q (F0 m 27 ls [.int (jz bs)])
        refine lv_istore_n (lv' := [(2, .int (jz bs)), (0, .ref x), (1, .int (jz z))]) hx hb dX8_setBlock_27 rfl hl (by decide) rfl (fun ls hl => ?_)
        refine lv_aload_n hx hb dX8_setBlock_28 rfl (lv_at hl 1 rfl) ?_
        refine va_get (ci := 8) (v := .ref ta) (C := RX8) (T := TX8) (N := 9) hx hb hts wfX8 hown hK.1 hP 0 rfl rfl 6 (by decide) (hts _ wm172) (fun _ h9 => h9) rfl dX8_setBlock_29 ?_
        refine lv_iload_n hx hb dX8_setBlock_32 rfl (lv_at hl 2 rfl) ?_
        refine kV ⟨hx, hb, hml, hown, hts⟩ hK hA hS hP hD [.int (jz z)] [] (mX0_startAnew l G ta tm bs hi mi si F z ) lkX8_189 [1] [0] (br := [bBD G x st sv bu di se wy ta tt rp]) rfl rfl (by decide) 0 0 rfl rfl rfl rfl (Nat.le_of_ble_eq_true rfl) hl.1 dX8_setBlock_33 ⟨Nat.le_of_ble_eq_true rfl, Nat.le_of_ble_eq_true rfl⟩ ⟨Nat.le_of_ble_eq_true rfl, Nat.le_of_ble_eq_true rfl⟩ (fun u9 H locs hp9 hP hD hS => ?_)
        obtain ⟨u_4, rfl⟩ : ∃ z, z = u9 := ⟨_, rfl⟩
        have hc_5 : ∀ w : Int, 0 ≤ w → w < 324 → u_4 w = 0 := hp9
        have hP : wP G [bBD G x st sv bu di se wy ta tt rp, bTab G ta tm z 0 0 0 u_4] H := hP
        have hD : wD A [bBD G x st sv bu di se wy ta tt rp, bTab G ta tm z 0 0 0 u_4] := hD
        show W p l e rmX8_setBlock_k s m args below meth c H locs 0 0 Q (F0 m 36 ls [])
        have hc1 := hc_5
        refine lv_iload_n hx hb dX8_setBlock_36 rfl (lv_at hl 0 rfl) ?_
        exact cret_i hx hb hr hlocks hS hP hD (Nat.le_of_ble_eq_true rfl) (Nat.le_of_ble_eq_true rfl) rfl dX8_setBlock_37 [0, 1] (by decide) u_4 rfl (show ∀ w : Int, 0 ≤ w → w < 324 → u_4 w = 0 from hc1) (congrArg (fun z : Int => some (Value.int (jz z))) (show bs = bs from by first | rfl | omega | (split <;> first | rfl | omega | (exfalso; omega)))) hQ
      · exfalso; omega
  exact KH s.heap [] hP hD hS
abbrev rmX8_undo_k : Room := { frames := 4, cells := 0, slots := 0, locals := 88 }
set_option maxHeartbeats 4000000 in
set_option maxRecDepth 100000 in
theorem mX8_undo_k (l : Launch) (G : GG) (x : Nat) (st : Nat) (sv : Nat) (bu : Nat) (di : Nat) (se : Nat) (wy : Nat) (ta : Nat) (tt : Nat) (rp : Nat) (t0 : Nat) (t1 : Nat) (al : Int) (a0 : Nat) (n0 : Int) (g0 : Int → Int) (a1 : Nat) (n1 : Int) (g1 : Int → Int) (sa : Nat) (od : Int) (sz : Int) (f : Int → Option Nat) (ph : Nat → SG) (kp : Nat) (zp : Nat) (hs : 0 ≤ sz ∧ sz ≤ 6) (ho : 0 ≤ od ∧ od < 6) (hk : kp ≤ 6 ∧ sz ≤ kp) (hk2 : od = 0 ∨ kp = 6) (hf : ∀ z : Int, 0 ≤ z → z < 6 → f z = if z < kp then some (ph z.toNat).1.1 else none) (hz : zp = ((od + (sz - 1)) % 6).toNat) (hq : 0 < sz → (0 ≤ (ph zp).2.1.2.1 ∧ (ph zp).2.1.2.1 ≤ 20) ∧ (0 ≤ (ph zp).2.1.2.2 ∧ (ph zp).2.1.2.2 ≤ 20)) (hk9 : 0 < sz) : Ct l yX8_undo cX8_undo 1 (some .int) rmX8_undo_k G [.ref x] [bBD G x st sv bu di se wy ta tt rp, bState G st t0 t1 al, bText G t0 a0 n0 g0, bText G t1 a1 n1 g1, bSaved G sv sa od sz f, bPool G ph kp] (fun uo : (Int → Int) × (Int → Int) => some (.int (jz (sz - 1)))) (fun uo => (∀ j : Int, 0 ≤ j → j < (ph zp).2.1.2.1 → uo.1 j = (ph zp).2.2.1 j) ∧ (∀ j : Int, 0 ≤ j → j < (ph zp).2.1.2.2 → uo.2 j = (ph zp).2.2.2 j)) (fun uo => [bBD G x st sv bu di se wy ta tt rp, bState G st t0 t1 ((ph zp).2.1.1), bText G t0 a0 ((ph zp).2.1.2.1) uo.1, bText G t1 a1 ((ph zp).2.1.2.2) uo.2, bSaved G sv sa od (sz - 1) f, bPool G ph kp]) := by
  refine cof (by decide) (Nat.le_of_ble_eq_true rfl) ?_
  intro p e s m args below meth c A ls hx hb hr hml hown hts hlocks hin hA hK hP hD hS hl Q hQ
  have hown : s.vm.findClass RX8 = some m.cls := hown
  have hl : lv_has ls 1 [(0, .ref x)] := hl
  have KH : ∀ (H : Heap) (locs : List Loc), wP G [bBD G x st sv bu di se wy ta tt rp, bState G st t0 t1 al, bText G t0 a0 n0 g0, bText G t1 a1 n1 g1, bSaved G sv sa od sz f, bPool G ph kp] H → wD A [bBD G x st sv bu di se wy ta tt rp, bState G st t0 t1 al, bText G t0 a0 n0 g0, bText G t1 a1 n1 g1, bSaved G sv sa od sz f, bPool G ph kp] → va_S A s.heap H locs → W p l e rmX8_undo_k s m args below meth c H locs 0 0 Q (F0 m 0 ls []) := by
    intro H locs hP hD hS
    refine lv_aload_n hx hb dX8_undo_0 rfl (lv_at hl 0 rfl) ?_
    refine va_get (ci := 8) (v := .ref sv) (C := RX8) (T := TX8) (N := 9) hx hb hts wfX8 hown hK.1 hP 0 rfl rfl 1 (by decide) (hts _ wm167) (fun _ h9 => h9) rfl dX8_undo_1 ?_
    refine kV ⟨hx, hb, hml, hown, hts⟩ hK hA hS hP hD [] [] (mX4_size l G sv sa od sz f ) lkX8_239 [4] [0, 1, 2, 3, 5] (br := [bBD G x st sv bu di se wy ta tt rp, bState G st t0 t1 al, bText G t0 a0 n0 g0, bText G t1 a1 n1 g1, bPool G ph kp]) rfl rfl (by decide) 0 4 rfl rfl rfl rfl (Nat.le_of_ble_eq_true rfl) hl.1 dX8_undo_4 ⟨Nat.le_of_ble_eq_true rfl, Nat.le_of_ble_eq_true rfl⟩ ⟨Nat.le_of_ble_eq_true rfl, Nat.le_of_ble_eq_true rfl⟩ (fun u9 H locs hp9 hP hD hS => ?_)
    have hP : wP G [bBD G x st sv bu di se wy ta tt rp, bState G st t0 t1 al, bText G t0 a0 n0 g0, bText G t1 a1 n1 g1, bPool G ph kp, bSaved G sv sa od sz f] H := hP
    have hD : wD A [bBD G x st sv bu di se wy ta tt rp, bState G st t0 t1 al, bText G t0 a0 n0 g0, bText G t1 a1 n1 g1, bPool G ph kp, bSaved G sv sa od sz f] := hD
    have hP : wP G [bBD G x st sv bu di se wy ta tt rp, bState G st t0 t1 al, bText G t0 a0 n0 g0, bText G t1 a1 n1 g1, bSaved G sv sa od sz f, bPool G ph kp] H := wP_sub hP [0, 1, 2, 3, 5, 4] rfl
    have hD : wD A [bBD G x st sv bu di se wy ta tt rp, bState G st t0 t1 al, bText G t0 a0 n0 g0, bText G t1 a1 n1 g1, bSaved G sv sa od sz f, bPool G ph kp] := wD_sub hD [0, 1, 2, 3, 5, 4] (by decide) rfl
    show W p l e rmX8_undo_k s m args below meth c H locs 0 0 Q (F0 m 7 ls [.int (jz sz)])
    refine jv_if_ne (tgt := 20) hx hb dX8_undo_7 (by decide) (by omega) (fun c_2 => ?_) (fun c_2 => ?_)
    · refine lv_aload_n hx hb dX8_undo_20 rfl (lv_at hl 0 rfl) ?_
      refine va_get (ci := 8) (v := .ref sv) (C := RX8) (T := TX8) (N := 9) hx hb hts wfX8 hown hK.1 hP 0 rfl rfl 1 (by decide) (hts _ wm167) (fun _ h9 => h9) rfl dX8_undo_21 ?_
      refine lv_aload_n hx hb dX8_undo_24 rfl (lv_at hl 0 rfl) ?_
      refine va_get (ci := 8) (v := .ref st) (C := RX8) (T := TX8) (N := 9) hx hb hts wfX8 hown hK.1 hP 0 rfl rfl 0 (by decide) (hts _ wm166) (fun _ h9 => h9) rfl dX8_undo_25 ?_
      refine kV ⟨hx, hb, hml, hown, hts⟩ hK hA hS hP hD [.ref st] [] (mX4_restore l G sv sa od sz f ph kp st t0 t1 al a0 n0 g0 a1 n1 g1 zp (by omega) (by omega) (by omega) (by exact hf) (by omega) (by exact hq (by omega))) lkX8_242 [4, 1, 2, 3, 5] [0] (br := [bBD G x st sv bu di se wy ta tt rp]) rfl rfl (by decide) 0 4 rfl rfl rfl rfl (Nat.le_of_ble_eq_true rfl) hl.1 dX8_undo_28 ⟨Nat.le_of_ble_eq_true rfl, Nat.le_of_ble_eq_true rfl⟩ ⟨Nat.le_of_ble_eq_true rfl, Nat.le_of_ble_eq_true rfl⟩ (fun u9 H locs hp9 hP hD hS => ?_)
      obtain ⟨u_3, u_4⟩ := u9
      have hc_5 : ∀ j : Int, 0 ≤ j → j < (ph zp).2.1.2.1 → u_3 j = (ph zp).2.2.1 j := hp9.1
      have hd_6 : ∀ j : Int, 0 ≤ j → j < (ph zp).2.1.2.2 → u_4 j = (ph zp).2.2.2 j := hp9.2
      have hP : wP G [bBD G x st sv bu di se wy ta tt rp, bSaved G sv sa od (sz - 1) f, bState G st t0 t1 ((ph zp).2.1.1), bText G t0 a0 ((ph zp).2.1.2.1) u_3, bText G t1 a1 ((ph zp).2.1.2.2) u_4, bPool G ph kp] H := hP
      have hD : wD A [bBD G x st sv bu di se wy ta tt rp, bSaved G sv sa od (sz - 1) f, bState G st t0 t1 ((ph zp).2.1.1), bText G t0 a0 ((ph zp).2.1.2.1) u_3, bText G t1 a1 ((ph zp).2.1.2.2) u_4, bPool G ph kp] := hD
      show W p l e rmX8_undo_k s m args below meth c H locs 0 0 Q (F0 m 31 ls [])
      have hc1 := hc_5
      have hd1 := hd_6
      refine lv_aload_n hx hb dX8_undo_31 rfl (lv_at hl 0 rfl) ?_
      refine va_get (ci := 8) (v := .ref sv) (C := RX8) (T := TX8) (N := 9) hx hb hts wfX8 hown hK.1 hP 0 rfl rfl 1 (by decide) (hts _ wm167) (fun _ h9 => h9) rfl dX8_undo_32 ?_
      refine kV ⟨hx, hb, hml, hown, hts⟩ hK hA hS hP hD [] [] (mX4_size l G sv sa od (sz - 1) f ) lkX8_239 [1] [0, 2, 3, 4, 5] (br := [bBD G x st sv bu di se wy ta tt rp, bState G st t0 t1 ((ph zp).2.1.1), bText G t0 a0 ((ph zp).2.1.2.1) u_3, bText G t1 a1 ((ph zp).2.1.2.2) u_4, bPool G ph kp]) rfl rfl (by decide) 0 4 rfl rfl rfl rfl (Nat.le_of_ble_eq_true rfl) hl.1 dX8_undo_35 ⟨Nat.le_of_ble_eq_true rfl, Nat.le_of_ble_eq_true rfl⟩ ⟨Nat.le_of_ble_eq_true rfl, Nat.le_of_ble_eq_true rfl⟩ (fun u9 H locs hp9 hP hD hS => ?_)
      have hP : wP G [bBD G x st sv bu di se wy ta tt rp, bState G st t0 t1 ((ph zp).2.1.1), bText G t0 a0 ((ph zp).2.1.2.1) u_3, bText G t1 a1 ((ph zp).2.1.2.2) u_4, bPool G ph kp, bSaved G sv sa od (sz - 1) f] H := hP
      have hD : wD A [bBD G x st sv bu di se wy ta tt rp, bState G st t0 t1 ((ph zp).2.1.1), bText G t0 a0 ((ph zp).2.1.2.1) u_3, bText G t1 a1 ((ph zp).2.1.2.2) u_4, bPool G ph kp, bSaved G sv sa od (sz - 1) f] := hD
      have hP : wP G [bBD G x st sv bu di se wy ta tt rp, bState G st t0 t1 ((ph zp).2.1.1), bText G t0 a0 ((ph zp).2.1.2.1) u_3, bText G t1 a1 ((ph zp).2.1.2.2) u_4, bSaved G sv sa od (sz - 1) f, bPool G ph kp] H := wP_sub hP [0, 1, 2, 3, 5, 4] rfl
      have hD : wD A [bBD G x st sv bu di se wy ta tt rp, bState G st t0 t1 ((ph zp).2.1.1), bText G t0 a0 ((ph zp).2.1.2.1) u_3, bText G t1 a1 ((ph zp).2.1.2.2) u_4, bSaved G sv sa od (sz - 1) f, bPool G ph kp] := wD_sub hD [0, 1, 2, 3, 5, 4] (by decide) rfl
      show W p l e rmX8_undo_k s m args below meth c H locs 0 0 Q (F0 m 38 ls [.int (jz (sz - 1))])
      exact cret_i hx hb hr hlocks hS hP hD (Nat.le_of_ble_eq_true rfl) (Nat.le_of_ble_eq_true rfl) rfl dX8_undo_38 [0, 1, 2, 3, 4, 5] (by decide) ⟨u_3, u_4⟩ rfl ⟨(show ∀ j : Int, 0 ≤ j → j < (ph zp).2.1.2.1 → u_3 j = (ph zp).2.2.1 j from hc1), (show ∀ j : Int, 0 ≤ j → j < (ph zp).2.1.2.2 → u_4 j = (ph zp).2.2.2 j from hd1)⟩ (congrArg (fun z : Int => some (Value.int (jz z))) (show (sz - 1) = sz - 1 from by first | rfl | omega | (split <;> first | rfl | omega | (exfalso; omega)))) hQ
    · exfalso; omega
  exact KH s.heap [] hP hD hS
abbrev rmX8_setAlphabet_k : Room := { frames := 4, cells := 5, slots := 47, locals := 88 }
set_option maxHeartbeats 4000000 in
set_option maxRecDepth 100000 in
theorem mX8_setAlphabet_k (l : Launch) (G : GG) (x : Nat) (st : Nat) (sv : Nat) (bu : Nat) (di : Nat) (se : Nat) (wy : Nat) (ta : Nat) (tt : Nat) (rp : Nat) (t0 : Nat) (t1 : Nat) (al : Int) (a0 : Nat) (n0 : Int) (g0 : Int → Int) (a1 : Nat) (n1 : Int) (g1 : Int → Int) (sa : Nat) (od : Int) (sz : Int) (f : Int → Option Nat) (ph : Nat → SG) (kp : Nat) (z : Int) (hn0 : 0 ≤ n0 ∧ n0 ≤ 20) (hn1 : 0 ≤ n1 ∧ n1 ≤ 20) (hs : 0 ≤ sz ∧ sz ≤ 6) (ho : 0 ≤ od ∧ od < 6) (hk : kp ≤ 6 ∧ sz ≤ kp) (hk2 : od = 0 ∨ kp = 6) (hf : ∀ z : Int, 0 ≤ z → z < 6 → f z = if z < kp then some (ph z.toNat).1.1 else none) (hg0 : ∀ j : Int, 0 ≤ j → j < n0 → 0 ≤ g0 j ∧ g0 j < 4) (hg1 : ∀ j : Int, 0 ≤ j → j < n1 → 0 ≤ g1 j ∧ g1 j < 4) (hz : jr z) (hk9 : (2 ≤ z ∧ z ≤ 4) ∧ (∀ j : Int, 0 ≤ j → j < n0 → g0 j < z) ∧ (∀ j : Int, 0 ≤ j → j < n1 → g1 j < z)) : Ct l yX8_setAlphabet cX8_setAlphabet 3 (some .int) rmX8_setAlphabet_k G [.ref x, .int (jz z)] [bBD G x st sv bu di se wy ta tt rp, bState G st t0 t1 al, bText G t0 a0 n0 g0, bText G t1 a1 n1 g1, bSaved G sv sa od sz f, bPool G ph kp] (fun uo : Int × Int × (Int → Option Nat) × (Nat → SG) × Nat => some (.int (jz al))) (fun uo => ((sz < 6 → uo.1 = od ∧ uo.2.1 = sz + 1) ∧ (sz = 6 → uo.1 = (od + 1) % 6 ∧ uo.2.1 = 6)) ∧ ((uo.2.2.2.2 = kp ∨ uo.2.2.2.2 = kp + 1) ∧ (uo.2.2.2.2 : Int) ≤ 6 ∧ uo.2.1 ≤ uo.2.2.2.2 ∧ (uo.1 = 0 ∨ uo.2.2.2.2 = 6)) ∧ (∀ z : Int, 0 ≤ z → z < 6 → uo.2.2.1 z = if z < uo.2.2.2.2 then some (uo.2.2.2.1 z.toNat).1.1 else none) ∧ (∀ i : Nat, (i : Int) ≠ (uo.1 + (uo.2.1 - 1)) % 6 → i < kp → uo.2.2.2.1 i = ph i) ∧ ((uo.2.2.2.1 ((uo.1 + (uo.2.1 - 1)) % 6).toNat).2.1 = (al, n0, n1)) ∧ (∀ j : Int, 0 ≤ j → j < n0 → (uo.2.2.2.1 ((uo.1 + (uo.2.1 - 1)) % 6).toNat).2.2.1 j = g0 j) ∧ (∀ j : Int, 0 ≤ j → j < n1 → (uo.2.2.2.1 ((uo.1 + (uo.2.1 - 1)) % 6).toNat).2.2.2 j = g1 j)) (fun uo => [bBD G x st sv bu di se wy ta tt rp, bState G st t0 t1 z, bText G t0 a0 n0 g0, bText G t1 a1 n1 g1, bSaved G sv sa uo.1 uo.2.1 uo.2.2.1, bPool G uo.2.2.2.1 uo.2.2.2.2]) := by
  refine cof (by decide) (Nat.le_of_ble_eq_true rfl) ?_
  intro p e s m args below meth c A ls hx hb hr hml hown hts hlocks hin hA hK hP hD hS hl Q hQ
  have hown : s.vm.findClass RX8 = some m.cls := hown
  have hl : lv_has ls 3 [(0, .ref x), (1, .int (jz z))] := hl
  have KH : ∀ (H : Heap) (locs : List Loc), wP G [bBD G x st sv bu di se wy ta tt rp, bState G st t0 t1 al, bText G t0 a0 n0 g0, bText G t1 a1 n1 g1, bSaved G sv sa od sz f, bPool G ph kp] H → wD A [bBD G x st sv bu di se wy ta tt rp, bState G st t0 t1 al, bText G t0 a0 n0 g0, bText G t1 a1 n1 g1, bSaved G sv sa od sz f, bPool G ph kp] → va_S A s.heap H locs → W p l e rmX8_setAlphabet_k s m args below meth c H locs 0 0 Q (F0 m 0 ls []) := by
    intro H locs hP hD hS
    refine lv_iload_n hx hb dX8_setAlphabet_0 rfl (lv_at hl 1 rfl) ?_
    refine jv_iconst hx hb dX8_setAlphabet_1 ?_
    refine jv_icmp_lt (tgt := 10) hx hb dX8_setAlphabet_2 (by decide) (by omega) (by omega) (fun c_1 => ?_) (fun c_1 => ?_)
    · exfalso; omega
    · refine lv_iload_n hx hb dX8_setAlphabet_5 rfl (lv_at hl 1 rfl) ?_
      refine jv_iconst hx hb dX8_setAlphabet_6 ?_
      refine jv_icmp_le (tgt := 20) hx hb dX8_setAlphabet_7 (by decide) (by omega) (by omega) (fun c_2 => ?_) (fun c_2 => ?_)
      · refine lv_aload_n hx hb dX8_setAlphabet_20 rfl (lv_at hl 0 rfl) ?_
        refine va_get (ci := 8) (v := .ref st) (C := RX8) (T := TX8) (N := 9) hx hb hts wfX8 hown hK.1 hP 0 rfl rfl 0 (by decide) (hts _ wm166) (fun _ h9 => h9) rfl dX8_setAlphabet_21 ?_
        refine jv_iconst hx hb dX8_setAlphabet_24 ?_
        refine kV ⟨hx, hb, hml, hown, hts⟩ hK hA hS hP hD [.int (jz 0)] [] (mX5_text_0 l G st t0 t1 al 0 (by omega) (by omega)) lkX8_87 [1] [0, 2, 3, 4, 5] (br := [bBD G x st sv bu di se wy ta tt rp, bText G t0 a0 n0 g0, bText G t1 a1 n1 g1, bSaved G sv sa od sz f, bPool G ph kp]) rfl rfl (by decide) 0 5 rfl rfl rfl rfl (Nat.le_of_ble_eq_true rfl) hl.1 dX8_setAlphabet_25 ⟨Nat.le_of_ble_eq_true rfl, Nat.le_of_ble_eq_true rfl⟩ ⟨Nat.le_of_ble_eq_true rfl, Nat.le_of_ble_eq_true rfl⟩ (fun u9 H locs hp9 hP hD hS => ?_)
        have hP : wP G [bBD G x st sv bu di se wy ta tt rp, bText G t0 a0 n0 g0, bText G t1 a1 n1 g1, bSaved G sv sa od sz f, bPool G ph kp, bState G st t0 t1 al] H := hP
        have hD : wD A [bBD G x st sv bu di se wy ta tt rp, bText G t0 a0 n0 g0, bText G t1 a1 n1 g1, bSaved G sv sa od sz f, bPool G ph kp, bState G st t0 t1 al] := hD
        have hP : wP G [bBD G x st sv bu di se wy ta tt rp, bText G t0 a0 n0 g0, bText G t1 a1 n1 g1, bSaved G sv sa od sz f, bState G st t0 t1 al, bPool G ph kp] H := wP_sub hP [0, 1, 2, 3, 5, 4] rfl
        have hD : wD A [bBD G x st sv bu di se wy ta tt rp, bText G t0 a0 n0 g0, bText G t1 a1 n1 g1, bSaved G sv sa od sz f, bState G st t0 t1 al, bPool G ph kp] := wD_sub hD [0, 1, 2, 3, 5, 4] (by decide) rfl
        show W p l e rmX8_setAlphabet_k s m args below meth c H locs 0 0 Q (F0 m 28 ls [.ref t0])
        refine lv_iload_n hx hb dX8_setAlphabet_28 rfl (lv_at hl 1 rfl) ?_
        refine kV ⟨hx, hb, hml, hown, hts⟩ hK hA hS hP hD [.int (jz z)] [] (mX6_keepsTo l G t0 a0 n0 g0 z (by omega) (by exact hg0) (by omega)) lkX8_140 [1] [0, 2, 3, 4, 5] (br := [bBD G x st sv bu di se wy ta tt rp, bText G t1 a1 n1 g1, bSaved G sv sa od sz f, bState G st t0 t1 al, bPool G ph kp]) rfl rfl (by decide) 0 6 rfl rfl rfl rfl (Nat.le_of_ble_eq_true rfl) hl.1 dX8_setAlphabet_29 ⟨Nat.le_of_ble_eq_true rfl, Nat.le_of_ble_eq_true rfl⟩ ⟨Nat.le_of_ble_eq_true rfl, Nat.le_of_ble_eq_true rfl⟩ (fun u9 H locs hp9 hP hD hS => ?_)
        obtain ⟨u_4, rfl⟩ : ∃ z, z = u9 := ⟨_, rfl⟩
        have hc_5 : (u_4 = 1 ∧ ∀ j : Int, 0 ≤ j → j < n0 → g0 j < z) ∨ (u_4 = 0 ∧ ∃ j : Int, (0 ≤ j ∧ j < n0) ∧ z ≤ g0 j) := hp9
        have hP : wP G [bBD G x st sv bu di se wy ta tt rp, bText G t1 a1 n1 g1, bSaved G sv sa od sz f, bState G st t0 t1 al, bPool G ph kp, bText G t0 a0 n0 g0] H := hP
        have hD : wD A [bBD G x st sv bu di se wy ta tt rp, bText G t1 a1 n1 g1, bSaved G sv sa od sz f, bState G st t0 t1 al, bPool G ph kp, bText G t0 a0 n0 g0] := hD
        have hP : wP G [bBD G x st sv bu di se wy ta tt rp, bText G t1 a1 n1 g1, bSaved G sv sa od sz f, bState G st t0 t1 al, bText G t0 a0 n0 g0, bPool G ph kp] H := wP_sub hP [0, 1, 2, 3, 5, 4] rfl
        have hD : wD A [bBD G x st sv bu di se wy ta tt rp, bText G t1 a1 n1 g1, bSaved G sv sa od sz f, bState G st t0 t1 al, bText G t0 a0 n0 g0, bPool G ph kp] := wD_sub hD [0, 1, 2, 3, 5, 4] (by decide) rfl
        show W p l e rmX8_setAlphabet_k s m args below meth c H locs 0 0 Q (F0 m 32 ls [.int (jz u_4)])
        have hkk0 := hc_5
        refine jv_if_eq (tgt := 50) hx hb dX8_setAlphabet_32 (by decide) (by rcases hkk0 with q | q <;> omega) (fun c_6 => ?_) (fun c_6 => ?_)
        · exfalso; rcases hkk0 with ⟨q1, -⟩ | ⟨-, y, q2, q3⟩; omega; (have q4 := hk9.2.1 y q2.1 q2.2; omega)
        · refine lv_aload_n hx hb dX8_setAlphabet_35 rfl (lv_at hl 0 rfl) ?_
          refine va_get (ci := 8) (v := .ref st) (C := RX8) (T := TX8) (N := 9) hx hb hts wfX8 hown hK.1 hP 0 rfl rfl 0 (by decide) (hts _ wm166) (fun _ h9 => h9) rfl dX8_setAlphabet_36 ?_
          refine jv_iconst hx hb dX8_setAlphabet_39 ?_
          refine kV ⟨hx, hb, hml, hown, hts⟩ hK hA hS hP hD [.int (jz 1)] [] (mX5_text_1 l G st t0 t1 al 1 (by omega) (by omega)) lkX8_87 [3] [0, 1, 2, 4, 5] (br := [bBD G x st sv bu di se wy ta tt rp, bText G t1 a1 n1 g1, bSaved G sv sa od sz f, bText G t0 a0 n0 g0, bPool G ph kp]) rfl rfl (by decide) 0 5 rfl rfl rfl rfl (Nat.le_of_ble_eq_true rfl) hl.1 dX8_setAlphabet_40 ⟨Nat.le_of_ble_eq_true rfl, Nat.le_of_ble_eq_true rfl⟩ ⟨Nat.le_of_ble_eq_true rfl, Nat.le_of_ble_eq_true rfl⟩ (fun u9 H locs hp9 hP hD hS => ?_)
          have hP : wP G [bBD G x st sv bu di se wy ta tt rp, bText G t1 a1 n1 g1, bSaved G sv sa od sz f, bText G t0 a0 n0 g0, bPool G ph kp, bState G st t0 t1 al] H := hP
          have hD : wD A [bBD G x st sv bu di se wy ta tt rp, bText G t1 a1 n1 g1, bSaved G sv sa od sz f, bText G t0 a0 n0 g0, bPool G ph kp, bState G st t0 t1 al] := hD
          have hP : wP G [bBD G x st sv bu di se wy ta tt rp, bText G t1 a1 n1 g1, bSaved G sv sa od sz f, bText G t0 a0 n0 g0, bState G st t0 t1 al, bPool G ph kp] H := wP_sub hP [0, 1, 2, 3, 5, 4] rfl
          have hD : wD A [bBD G x st sv bu di se wy ta tt rp, bText G t1 a1 n1 g1, bSaved G sv sa od sz f, bText G t0 a0 n0 g0, bState G st t0 t1 al, bPool G ph kp] := wD_sub hD [0, 1, 2, 3, 5, 4] (by decide) rfl
          show W p l e rmX8_setAlphabet_k s m args below meth c H locs 0 0 Q (F0 m 43 ls [.ref t1])
          refine lv_iload_n hx hb dX8_setAlphabet_43 rfl (lv_at hl 1 rfl) ?_
          refine kV ⟨hx, hb, hml, hown, hts⟩ hK hA hS hP hD [.int (jz z)] [] (mX6_keepsTo l G t1 a1 n1 g1 z (by omega) (by exact hg1) (by omega)) lkX8_140 [1] [0, 2, 3, 4, 5] (br := [bBD G x st sv bu di se wy ta tt rp, bSaved G sv sa od sz f, bText G t0 a0 n0 g0, bState G st t0 t1 al, bPool G ph kp]) rfl rfl (by decide) 0 6 rfl rfl rfl rfl (Nat.le_of_ble_eq_true rfl) hl.1 dX8_setAlphabet_44 ⟨Nat.le_of_ble_eq_true rfl, Nat.le_of_ble_eq_true rfl⟩ ⟨Nat.le_of_ble_eq_true rfl, Nat.le_of_ble_eq_true rfl⟩ (fun u9 H locs hp9 hP hD hS => ?_)
          obtain ⟨u_8, rfl⟩ : ∃ z, z = u9 := ⟨_, rfl⟩
          have hc_9 : (u_8 = 1 ∧ ∀ j : Int, 0 ≤ j → j < n1 → g1 j < z) ∨ (u_8 = 0 ∧ ∃ j : Int, (0 ≤ j ∧ j < n1) ∧ z ≤ g1 j) := hp9
          have hP : wP G [bBD G x st sv bu di se wy ta tt rp, bSaved G sv sa od sz f, bText G t0 a0 n0 g0, bState G st t0 t1 al, bPool G ph kp, bText G t1 a1 n1 g1] H := hP
          have hD : wD A [bBD G x st sv bu di se wy ta tt rp, bSaved G sv sa od sz f, bText G t0 a0 n0 g0, bState G st t0 t1 al, bPool G ph kp, bText G t1 a1 n1 g1] := hD
          have hP : wP G [bBD G x st sv bu di se wy ta tt rp, bSaved G sv sa od sz f, bText G t0 a0 n0 g0, bState G st t0 t1 al, bText G t1 a1 n1 g1, bPool G ph kp] H := wP_sub hP [0, 1, 2, 3, 5, 4] rfl
          have hD : wD A [bBD G x st sv bu di se wy ta tt rp, bSaved G sv sa od sz f, bText G t0 a0 n0 g0, bState G st t0 t1 al, bText G t1 a1 n1 g1, bPool G ph kp] := wD_sub hD [0, 1, 2, 3, 5, 4] (by decide) rfl
          show W p l e rmX8_setAlphabet_k s m args below meth c H locs 0 0 Q (F0 m 47 ls [.int (jz u_8)])
          have hkk1 := hc_9
          refine jv_if_ne (tgt := 60) hx hb dX8_setAlphabet_47 (by decide) (by rcases hkk1 with q | q <;> omega) (fun c_10 => ?_) (fun c_10 => ?_)
          · refine lv_aload_n hx hb dX8_setAlphabet_60 rfl (lv_at hl 0 rfl) ?_
            refine va_get (ci := 8) (v := .ref sv) (C := RX8) (T := TX8) (N := 9) hx hb hts wfX8 hown hK.1 hP 0 rfl rfl 1 (by decide) (hts _ wm167) (fun _ h9 => h9) rfl dX8_setAlphabet_61 ?_
            refine lv_aload_n hx hb dX8_setAlphabet_64 rfl (lv_at hl 0 rfl) ?_
            refine va_get (ci := 8) (v := .ref st) (C := RX8) (T := TX8) (N := 9) hx hb hts wfX8 hown hK.1 hP 0 rfl rfl 0 (by decide) (hts _ wm166) (fun _ h9 => h9) rfl dX8_setAlphabet_65 ?_
            refine kV ⟨hx, hb, hml, hown, hts⟩ hK hA hS hP hD [.ref st] [] (mX4_save l G sv sa od sz f ph kp st t0 t1 al a0 n0 g0 a1 n1 g1 (by omega) (by omega) (by omega) (by omega) (by omega) (by omega) (by exact hf)) lkX8_83 [1, 3, 2, 4, 5] [0] (br := [bBD G x st sv bu di se wy ta tt rp]) rfl rfl (by decide) 0 4 rfl rfl rfl rfl (Nat.le_of_ble_eq_true rfl) hl.1 dX8_setAlphabet_68 ⟨Nat.le_of_ble_eq_true rfl, Nat.le_of_ble_eq_true rfl⟩ ⟨Nat.le_of_ble_eq_true rfl, Nat.le_of_ble_eq_true rfl⟩ (fun u9 H locs hp9 hP hD hS => ?_)
            obtain ⟨u_11, u_12, u_13, u_14, u_15⟩ := u9
            have ha_16 : (sz < 6 → u_11 = od ∧ u_12 = sz + 1) ∧ (sz = 6 → u_11 = (od + 1) % 6 ∧ u_12 = 6) := hp9.1
            have hb_17 : (u_15 = kp ∨ u_15 = kp + 1) ∧ (u_15 : Int) ≤ 6 ∧ u_12 ≤ u_15 ∧ (u_11 = 0 ∨ u_15 = 6) := hp9.2.1
            have hf_18 : ∀ z : Int, 0 ≤ z → z < 6 → u_13 z = if z < u_15 then some (u_14 z.toNat).1.1 else none := hp9.2.2.1
            have hp_19 : ∀ i : Nat, (i : Int) ≠ (u_11 + (u_12 - 1)) % 6 → i < kp → u_14 i = ph i := hp9.2.2.2.1
            have hq_20 : (u_14 ((u_11 + (u_12 - 1)) % 6).toNat).2.1 = (al, n0, n1) := hp9.2.2.2.2.1
            have hr_21 : ∀ j : Int, 0 ≤ j → j < n0 → (u_14 ((u_11 + (u_12 - 1)) % 6).toNat).2.2.1 j = g0 j := hp9.2.2.2.2.2.1
            have hs_22 : ∀ j : Int, 0 ≤ j → j < n1 → (u_14 ((u_11 + (u_12 - 1)) % 6).toNat).2.2.2 j = g1 j := hp9.2.2.2.2.2.2
            have hP : wP G [bBD G x st sv bu di se wy ta tt rp, bSaved G sv sa u_11 u_12 u_13, bState G st t0 t1 al, bText G t0 a0 n0 g0, bText G t1 a1 n1 g1, bPool G u_14 u_15] H := hP
            have hD : wD A [bBD G x st sv bu di se wy ta tt rp, bSaved G sv sa u_11 u_12 u_13, bState G st t0 t1 al, bText G t0 a0 n0 g0, bText G t1 a1 n1 g1, bPool G u_14 u_15] := hD
            show W p l e rmX8_setAlphabet_k s m args below meth c H locs 5 47 Q (F0 m 71 ls [])
            refine lv_aload_n hx hb dX8_setAlphabet_71 rfl (lv_at hl 0 rfl) ?_
            refine va_get (ci := 8) (v := .ref st) (C := RX8) (T := TX8) (N := 9) hx hb hts wfX8 hown hK.1 hP 0 rfl rfl 0 (by decide) (hts _ wm166) (fun _ h9 => h9) rfl dX8_setAlphabet_72 ?_
            refine kV ⟨hx, hb, hml, hown, hts⟩ hK hA hS hP hD [] [] (mX5_alphabet l G st t0 t1 al ) lkX8_68 [2] [0, 1, 3, 4, 5] (br := [bBD G x st sv bu di se wy ta tt rp, bSaved G sv sa u_11 u_12 u_13, bText G t0 a0 n0 g0, bText G t1 a1 n1 g1, bPool G u_14 u_15]) rfl rfl (by decide) 0 5 rfl rfl rfl rfl (Nat.le_of_ble_eq_true rfl) hl.1 dX8_setAlphabet_75 ⟨Nat.le_of_ble_eq_true rfl, Nat.le_of_ble_eq_true rfl⟩ ⟨Nat.le_of_ble_eq_true rfl, Nat.le_of_ble_eq_true rfl⟩ (fun u9 H locs hp9 hP hD hS => ?_)
            have hP : wP G [bBD G x st sv bu di se wy ta tt rp, bSaved G sv sa u_11 u_12 u_13, bText G t0 a0 n0 g0, bText G t1 a1 n1 g1, bPool G u_14 u_15, bState G st t0 t1 al] H := hP
            have hD : wD A [bBD G x st sv bu di se wy ta tt rp, bSaved G sv sa u_11 u_12 u_13, bText G t0 a0 n0 g0, bText G t1 a1 n1 g1, bPool G u_14 u_15, bState G st t0 t1 al] := hD
            have hP : wP G [bBD G x st sv bu di se wy ta tt rp, bSaved G sv sa u_11 u_12 u_13, bText G t0 a0 n0 g0, bText G t1 a1 n1 g1, bState G st t0 t1 al, bPool G u_14 u_15] H := wP_sub hP [0, 1, 2, 3, 5, 4] rfl
            have hD : wD A [bBD G x st sv bu di se wy ta tt rp, bSaved G sv sa u_11 u_12 u_13, bText G t0 a0 n0 g0, bText G t1 a1 n1 g1, bState G st t0 t1 al, bPool G u_14 u_15] := wD_sub hD [0, 1, 2, 3, 5, 4] (by decide) rfl
            show W p l e rmX8_setAlphabet_k s m args below meth c H locs 5 47 Q (F0 m 78 ls [.int (jz al)])
            refine lv_istore_n (lv' := [(2, .int (jz al)), (0, .ref x), (1, .int (jz z))]) hx hb dX8_setAlphabet_78 rfl hl (by decide) rfl (fun ls hl => ?_)
            refine lv_aload_n hx hb dX8_setAlphabet_79 rfl (lv_at hl 1 rfl) ?_
            refine va_get (ci := 8) (v := .ref st) (C := RX8) (T := TX8) (N := 9) hx hb hts wfX8 hown hK.1 hP 0 rfl rfl 0 (by decide) (hts _ wm166) (fun _ h9 => h9) rfl dX8_setAlphabet_80 ?_
            refine lv_iload_n hx hb dX8_setAlphabet_83 rfl (lv_at hl 2 rfl) ?_
            refine kV ⟨hx, hb, hml, hown, hts⟩ hK hA hS hP hD [.int (jz z)] [] (mX5_setLetters l G st t0 t1 al z ) lkX8_143 [4] [0, 1, 2, 3, 5] (br := [bBD G x st sv bu di se wy ta tt rp, bSaved G sv sa u_11 u_12 u_13, bText G t0 a0 n0 g0, bText G t1 a1 n1 g1, bPool G u_14 u_15]) rfl rfl (by decide) 0 5 rfl rfl rfl rfl (Nat.le_of_ble_eq_true rfl) hl.1 dX8_setAlphabet_84 ⟨Nat.le_of_ble_eq_true rfl, Nat.le_of_ble_eq_true rfl⟩ ⟨Nat.le_of_ble_eq_true rfl, Nat.le_of_ble_eq_true rfl⟩ (fun u9 H locs hp9 hP hD hS => ?_)
            have hP : wP G [bBD G x st sv bu di se wy ta tt rp, bSaved G sv sa u_11 u_12 u_13, bText G t0 a0 n0 g0, bText G t1 a1 n1 g1, bPool G u_14 u_15, bState G st t0 t1 z] H := hP
            have hD : wD A [bBD G x st sv bu di se wy ta tt rp, bSaved G sv sa u_11 u_12 u_13, bText G t0 a0 n0 g0, bText G t1 a1 n1 g1, bPool G u_14 u_15, bState G st t0 t1 z] := hD
            have hP : wP G [bBD G x st sv bu di se wy ta tt rp, bSaved G sv sa u_11 u_12 u_13, bText G t0 a0 n0 g0, bText G t1 a1 n1 g1, bState G st t0 t1 z, bPool G u_14 u_15] H := wP_sub hP [0, 1, 2, 3, 5, 4] rfl
            have hD : wD A [bBD G x st sv bu di se wy ta tt rp, bSaved G sv sa u_11 u_12 u_13, bText G t0 a0 n0 g0, bText G t1 a1 n1 g1, bState G st t0 t1 z, bPool G u_14 u_15] := wD_sub hD [0, 1, 2, 3, 5, 4] (by decide) rfl
            show W p l e rmX8_setAlphabet_k s m args below meth c H locs 5 47 Q (F0 m 87 ls [])
            refine lv_iload_n hx hb dX8_setAlphabet_87 rfl (lv_at hl 0 rfl) ?_
            exact cret_i hx hb hr hlocks hS hP hD (Nat.le_of_ble_eq_true rfl) (Nat.le_of_ble_eq_true rfl) rfl dX8_setAlphabet_88 [0, 4, 2, 3, 1, 5] (by decide) ⟨u_11, u_12, u_13, u_14, u_15⟩ rfl ⟨(show (sz < 6 → u_11 = od ∧ u_12 = sz + 1) ∧ (sz = 6 → u_11 = (od + 1) % 6 ∧ u_12 = 6) from ha_16), (show (u_15 = kp ∨ u_15 = kp + 1) ∧ (u_15 : Int) ≤ 6 ∧ u_12 ≤ u_15 ∧ (u_11 = 0 ∨ u_15 = 6) from hb_17), (show ∀ z : Int, 0 ≤ z → z < 6 → u_13 z = if z < u_15 then some (u_14 z.toNat).1.1 else none from hf_18), (show ∀ i : Nat, (i : Int) ≠ (u_11 + (u_12 - 1)) % 6 → i < kp → u_14 i = ph i from hp_19), (show (u_14 ((u_11 + (u_12 - 1)) % 6).toNat).2.1 = (al, n0, n1) from hq_20), (show ∀ j : Int, 0 ≤ j → j < n0 → (u_14 ((u_11 + (u_12 - 1)) % 6).toNat).2.2.1 j = g0 j from hr_21), (show ∀ j : Int, 0 ≤ j → j < n1 → (u_14 ((u_11 + (u_12 - 1)) % 6).toNat).2.2.2 j = g1 j from hs_22)⟩ (congrArg (fun z : Int => some (Value.int (jz z))) (show al = al from by first | rfl | omega | (split <;> first | rfl | omega | (exfalso; omega)))) hQ
          · exfalso; rcases hkk1 with ⟨q1, -⟩ | ⟨-, y, q2, q3⟩; omega; (have q4 := hk9.2.2 y q2.1 q2.2; omega)
      · exfalso; omega
  exact KH s.heap [] hP hD hS
abbrev rmX8_letter_0_k : Room := { frames := 2, cells := 0, slots := 0, locals := 42 }
set_option maxHeartbeats 4000000 in
set_option maxRecDepth 100000 in
theorem mX8_letter_0_k (l : Launch) (G : GG) (x : Nat) (st : Nat) (sv : Nat) (bu : Nat) (di : Nat) (se : Nat) (wy : Nat) (ta : Nat) (tt : Nat) (rp : Nat) (t0 : Nat) (t1 : Nat) (al : Int) (a0 : Nat) (n0 : Int) (g0 : Int → Int) (a1 : Nat) (n1 : Int) (g1 : Int → Int) (z : Int) (i : Int) (hn0 : 0 ≤ n0 ∧ n0 ≤ 20) (hn1 : 0 ≤ n1 ∧ n1 ≤ 20) (hz : z = 0) (hi : jr i) (hc1 : 0 ≤ i ∧ i < n0) : Ct l yX8_letter cX8_letter 4 (some .int) rmX8_letter_0_k G [.ref x, .int (jz z), .int (jz i)] [bBD G x st sv bu di se wy ta tt rp, bState G st t0 t1 al, bText G t0 a0 n0 g0, bText G t1 a1 n1 g1] (fun uo : Unit => some (.int (jz (g0 i)))) (fun uo => True) (fun uo => [bBD G x st sv bu di se wy ta tt rp, bState G st t0 t1 al, bText G t0 a0 n0 g0, bText G t1 a1 n1 g1]) := by
  refine cof (by decide) (Nat.le_of_ble_eq_true rfl) ?_
  intro p e s m args below meth c A ls hx hb hr hml hown hts hlocks hin hA hK hP hD hS hl Q hQ
  have hown : s.vm.findClass RX8 = some m.cls := hown
  have hl : lv_has ls 4 [(0, .ref x), (1, .int (jz z)), (2, .int (jz i))] := hl
  have KH : ∀ (H : Heap) (locs : List Loc), wP G [bBD G x st sv bu di se wy ta tt rp, bState G st t0 t1 al, bText G t0 a0 n0 g0, bText G t1 a1 n1 g1] H → wD A [bBD G x st sv bu di se wy ta tt rp, bState G st t0 t1 al, bText G t0 a0 n0 g0, bText G t1 a1 n1 g1] → va_S A s.heap H locs → W p l e rmX8_letter_0_k s m args below meth c H locs 0 0 Q (F0 m 0 ls []) := by
    intro H locs hP hD hS
    refine lv_aload_n hx hb dX8_letter_0 rfl (lv_at hl 0 rfl) ?_
    refine lv_iload_n hx hb dX8_letter_1 rfl (lv_at hl 1 rfl) ?_
    refine kV ⟨hx, hb, hml, hown, hts⟩ hK hA hS hP hD [.int (jz z)] [] (mX8_textOf_0 l G x st sv bu di se wy ta tt rp t0 t1 al z (by omega)) lkX8_100 [0, 1] [2, 3] (br := [bText G t0 a0 n0 g0, bText G t1 a1 n1 g1]) rfl rfl (by decide) 0 8 rfl rfl rfl rfl (Nat.le_of_ble_eq_true rfl) hl.1 dX8_letter_2 ⟨Nat.le_of_ble_eq_true rfl, Nat.le_of_ble_eq_true rfl⟩ ⟨Nat.le_of_ble_eq_true rfl, Nat.le_of_ble_eq_true rfl⟩ (fun u9 H locs hp9 hP hD hS => ?_)
    have hP : wP G [bText G t0 a0 n0 g0, bText G t1 a1 n1 g1, bBD G x st sv bu di se wy ta tt rp, bState G st t0 t1 al] H := hP
    have hD : wD A [bText G t0 a0 n0 g0, bText G t1 a1 n1 g1, bBD G x st sv bu di se wy ta tt rp, bState G st t0 t1 al] := hD
    show W p l e rmX8_letter_0_k s m args below meth c H locs 0 0 Q (F0 m 5 ls [.ref t0])
    refine lv_astore_n (lv' := [(3, .ref t0), (0, .ref x), (1, .int (jz z)), (2, .int (jz i))]) hx hb dX8_letter_5 rfl hl (by decide) rfl (fun ls hl => ?_)
    refine lv_aload_n hx hb dX8_letter_6 rfl (lv_at hl 0 rfl) ?_
    refine lv_iload_n hx hb dX8_letter_7 rfl (lv_at hl 3 rfl) ?_
    refine kS ⟨hx, hb, hml, hown, hts⟩ hK hA hS hP hD [.ref t0, .int (jz i)] [] (mX8_checkPlace_k l G t0 a0 n0 g0 i (by omega) (by omega) (by omega)) lkX8_121 [0] [1, 2, 3] (br := [bText G t1 a1 n1 g1, bBD G x st sv bu di se wy ta tt rp, bState G st t0 t1 al]) rfl rfl (by decide) rfl rfl (Nat.le_of_ble_eq_true rfl) hl.1 dX8_letter_8 ⟨Nat.le_of_ble_eq_true rfl, Nat.le_of_ble_eq_true rfl⟩ ⟨Nat.le_of_ble_eq_true rfl, Nat.le_of_ble_eq_true rfl⟩ (fun u9 H locs hp9 hP hD hS => ?_)
    have hP : wP G [bText G t1 a1 n1 g1, bBD G x st sv bu di se wy ta tt rp, bState G st t0 t1 al, bText G t0 a0 n0 g0] H := hP
    have hD : wD A [bText G t1 a1 n1 g1, bBD G x st sv bu di se wy ta tt rp, bState G st t0 t1 al, bText G t0 a0 n0 g0] := hD
    show W p l e rmX8_letter_0_k s m args below meth c H locs 0 0 Q (F0 m 11 ls [])
    refine lv_aload_n hx hb dX8_letter_11 rfl (lv_at hl 0 rfl) ?_
    refine lv_iload_n hx hb dX8_letter_12 rfl (lv_at hl 3 rfl) ?_
    refine kV ⟨hx, hb, hml, hown, hts⟩ hK hA hS hP hD [.int (jz i)] [] (mX6_at_in l G t0 a0 n0 g0 i (by omega) (by omega)) lkX8_125 [3] [0, 1, 2] (br := [bText G t1 a1 n1 g1, bBD G x st sv bu di se wy ta tt rp, bState G st t0 t1 al]) rfl rfl (by decide) 0 6 rfl rfl rfl rfl (Nat.le_of_ble_eq_true rfl) hl.1 dX8_letter_13 ⟨Nat.le_of_ble_eq_true rfl, Nat.le_of_ble_eq_true rfl⟩ ⟨Nat.le_of_ble_eq_true rfl, Nat.le_of_ble_eq_true rfl⟩ (fun u9 H locs hp9 hP hD hS => ?_)
    have hP : wP G [bText G t1 a1 n1 g1, bBD G x st sv bu di se wy ta tt rp, bState G st t0 t1 al, bText G t0 a0 n0 g0] H := hP
    have hD : wD A [bText G t1 a1 n1 g1, bBD G x st sv bu di se wy ta tt rp, bState G st t0 t1 al, bText G t0 a0 n0 g0] := hD
    show W p l e rmX8_letter_0_k s m args below meth c H locs 0 0 Q (F0 m 16 ls [.int (jz (g0 i))])
    exact cret_i hx hb hr hlocks hS hP hD (Nat.le_of_ble_eq_true rfl) (Nat.le_of_ble_eq_true rfl) rfl dX8_letter_16 [1, 2, 3, 0] (by decide) () rfl trivial (congrArg (fun z : Int => some (Value.int (jz z))) (show (g0 i) = g0 i from by first | rfl | omega | (split <;> first | rfl | omega | (exfalso; omega)))) hQ
  exact KH s.heap [] hP hD hS
abbrev rmX8_insert_0_k : Room := { frames := 4, cells := 5, slots := 47, locals := 88 }
set_option maxHeartbeats 4000000 in
set_option maxRecDepth 100000 in
theorem mX8_insert_0_k (l : Launch) (G : GG) (x : Nat) (st : Nat) (sv : Nat) (bu : Nat) (di : Nat) (se : Nat) (wy : Nat) (ta : Nat) (tt : Nat) (rp : Nat) (t0 : Nat) (t1 : Nat) (al : Int) (a0 : Nat) (n0 : Int) (g0 : Int → Int) (a1 : Nat) (n1 : Int) (g1 : Int → Int) (sa : Nat) (od : Int) (sz : Int) (f : Int → Option Nat) (ph : Nat → SG) (kp : Nat) (z : Int) (i : Int) (v : Int) (hn0 : 0 ≤ n0 ∧ n0 ≤ 20) (hn1 : 0 ≤ n1 ∧ n1 ≤ 20) (hs : 0 ≤ sz ∧ sz ≤ 6) (ho : 0 ≤ od ∧ od < 6) (hk : kp ≤ 6 ∧ sz ≤ kp) (hk2 : od = 0 ∨ kp = 6) (hf : ∀ z : Int, 0 ≤ z → z < 6 → f z = if z < kp then some (ph z.toNat).1.1 else none) (hal : 2 ≤ al ∧ al ≤ 4) (hz : z = 0) (hi : jr i) (hv : jr v) (hk9 : (0 ≤ i ∧ i ≤ n0) ∧ (0 ≤ v ∧ v < al) ∧ n0 < 20) : Ct l yX8_insert cX8_insert 5 (some .int) rmX8_insert_0_k G [.ref x, .int (jz z), .int (jz i), .int (jz v)] [bBD G x st sv bu di se wy ta tt rp, bState G st t0 t1 al, bText G t0 a0 n0 g0, bText G t1 a1 n1 g1, bSaved G sv sa od sz f, bPool G ph kp] (fun uo : Int × Int × (Int → Option Nat) × (Nat → SG) × Nat => some (.int (jz (n0 + 1)))) (fun uo => ((sz < 6 → uo.1 = od ∧ uo.2.1 = sz + 1) ∧ (sz = 6 → uo.1 = (od + 1) % 6 ∧ uo.2.1 = 6)) ∧ ((uo.2.2.2.2 = kp ∨ uo.2.2.2.2 = kp + 1) ∧ (uo.2.2.2.2 : Int) ≤ 6 ∧ uo.2.1 ≤ uo.2.2.2.2 ∧ (uo.1 = 0 ∨ uo.2.2.2.2 = 6)) ∧ (∀ z : Int, 0 ≤ z → z < 6 → uo.2.2.1 z = if z < uo.2.2.2.2 then some (uo.2.2.2.1 z.toNat).1.1 else none) ∧ (∀ i : Nat, (i : Int) ≠ (uo.1 + (uo.2.1 - 1)) % 6 → i < kp → uo.2.2.2.1 i = ph i) ∧ ((uo.2.2.2.1 ((uo.1 + (uo.2.1 - 1)) % 6).toNat).2.1 = (al, n0, n1)) ∧ (∀ j : Int, 0 ≤ j → j < n0 → (uo.2.2.2.1 ((uo.1 + (uo.2.1 - 1)) % 6).toNat).2.2.1 j = g0 j) ∧ (∀ j : Int, 0 ≤ j → j < n1 → (uo.2.2.2.1 ((uo.1 + (uo.2.1 - 1)) % 6).toNat).2.2.2 j = g1 j)) (fun uo => [bBD G x st sv bu di se wy ta tt rp, bState G st t0 t1 al, bText G t0 a0 (n0 + 1) (insF g0 i n0 v), bText G t1 a1 n1 g1, bSaved G sv sa uo.1 uo.2.1 uo.2.2.1, bPool G uo.2.2.2.1 uo.2.2.2.2]) := by
  refine cof (by decide) (Nat.le_of_ble_eq_true rfl) ?_
  intro p e s m args below meth c A ls hx hb hr hml hown hts hlocks hin hA hK hP hD hS hl Q hQ
  have hown : s.vm.findClass RX8 = some m.cls := hown
  have hl : lv_has ls 5 [(0, .ref x), (1, .int (jz z)), (2, .int (jz i)), (3, .int (jz v))] := hl
  have KH : ∀ (H : Heap) (locs : List Loc), wP G [bBD G x st sv bu di se wy ta tt rp, bState G st t0 t1 al, bText G t0 a0 n0 g0, bText G t1 a1 n1 g1, bSaved G sv sa od sz f, bPool G ph kp] H → wD A [bBD G x st sv bu di se wy ta tt rp, bState G st t0 t1 al, bText G t0 a0 n0 g0, bText G t1 a1 n1 g1, bSaved G sv sa od sz f, bPool G ph kp] → va_S A s.heap H locs → W p l e rmX8_insert_0_k s m args below meth c H locs 0 0 Q (F0 m 0 ls []) := by
    intro H locs hP hD hS
    refine lv_aload_n hx hb dX8_insert_0 rfl (lv_at hl 0 rfl) ?_
    refine lv_iload_n hx hb dX8_insert_1 rfl (lv_at hl 1 rfl) ?_
    refine kV ⟨hx, hb, hml, hown, hts⟩ hK hA hS hP hD [.int (jz z)] [] (mX8_textOf_0 l G x st sv bu di se wy ta tt rp t0 t1 al z (by omega)) lkX8_100 [0, 1] [2, 3, 4, 5] (br := [bText G t0 a0 n0 g0, bText G t1 a1 n1 g1, bSaved G sv sa od sz f, bPool G ph kp]) rfl rfl (by decide) 0 8 rfl rfl rfl rfl (Nat.le_of_ble_eq_true rfl) hl.1 dX8_insert_2 ⟨Nat.le_of_ble_eq_true rfl, Nat.le_of_ble_eq_true rfl⟩ ⟨Nat.le_of_ble_eq_true rfl, Nat.le_of_ble_eq_true rfl⟩ (fun u9 H locs hp9 hP hD hS => ?_)
    have hP : wP G [bText G t0 a0 n0 g0, bText G t1 a1 n1 g1, bSaved G sv sa od sz f, bPool G ph kp, bBD G x st sv bu di se wy ta tt rp, bState G st t0 t1 al] H := hP
    have hD : wD A [bText G t0 a0 n0 g0, bText G t1 a1 n1 g1, bSaved G sv sa od sz f, bPool G ph kp, bBD G x st sv bu di se wy ta tt rp, bState G st t0 t1 al] := hD
    have hP : wP G [bText G t0 a0 n0 g0, bText G t1 a1 n1 g1, bSaved G sv sa od sz f, bBD G x st sv bu di se wy ta tt rp, bState G st t0 t1 al, bPool G ph kp] H := wP_sub hP [0, 1, 2, 4, 5, 3] rfl
    have hD : wD A [bText G t0 a0 n0 g0, bText G t1 a1 n1 g1, bSaved G sv sa od sz f, bBD G x st sv bu di se wy ta tt rp, bState G st t0 t1 al, bPool G ph kp] := wD_sub hD [0, 1, 2, 4, 5, 3] (by decide) rfl
    show W p l e rmX8_insert_0_k s m args below meth c H locs 0 0 Q (F0 m 5 ls [.ref t0])
    refine lv_astore (lv' := [(4, .ref t0), (0, .ref x), (1, .int (jz z)), (2, .int (jz i)), (3, .int (jz v))]) hx hb dX8_insert_5 hl (by decide) rfl (fun ls hl => ?_)
    refine lv_iload_n hx hb dX8_insert_7 rfl (lv_at hl 3 rfl) ?_
    refine jv_if_lt (tgt := 20) hx hb dX8_insert_8 (by decide) (by omega) (fun c_2 => ?_) (fun c_2 => ?_)
    · exfalso; omega
    · refine lv_iload_n hx hb dX8_insert_11 rfl (lv_at hl 3 rfl) ?_
      refine lv_aload hx hb dX8_insert_12 (lv_at hl 0 rfl) ?_
      refine kV ⟨hx, hb, hml, hown, hts⟩ hK hA hS hP hD [] [.int (jz i)] (mX6_size l G t0 a0 n0 g0 ) lkX8_95 [0] [1, 2, 3, 4, 5] (br := [bText G t1 a1 n1 g1, bSaved G sv sa od sz f, bBD G x st sv bu di se wy ta tt rp, bState G st t0 t1 al, bPool G ph kp]) rfl rfl (by decide) 0 6 rfl rfl rfl rfl (Nat.le_of_ble_eq_true rfl) hl.1 dX8_insert_14 ⟨Nat.le_of_ble_eq_true rfl, Nat.le_of_ble_eq_true rfl⟩ ⟨Nat.le_of_ble_eq_true rfl, Nat.le_of_ble_eq_true rfl⟩ (fun u9 H locs hp9 hP hD hS => ?_)
      have hP : wP G [bText G t1 a1 n1 g1, bSaved G sv sa od sz f, bBD G x st sv bu di se wy ta tt rp, bState G st t0 t1 al, bPool G ph kp, bText G t0 a0 n0 g0] H := hP
      have hD : wD A [bText G t1 a1 n1 g1, bSaved G sv sa od sz f, bBD G x st sv bu di se wy ta tt rp, bState G st t0 t1 al, bPool G ph kp, bText G t0 a0 n0 g0] := hD
      have hP : wP G [bText G t1 a1 n1 g1, bSaved G sv sa od sz f, bBD G x st sv bu di se wy ta tt rp, bState G st t0 t1 al, bText G t0 a0 n0 g0, bPool G ph kp] H := wP_sub hP [0, 1, 2, 3, 5, 4] rfl
      have hD : wD A [bText G t1 a1 n1 g1, bSaved G sv sa od sz f, bBD G x st sv bu di se wy ta tt rp, bState G st t0 t1 al, bText G t0 a0 n0 g0, bPool G ph kp] := wD_sub hD [0, 1, 2, 3, 5, 4] (by decide) rfl
      show W p l e rmX8_insert_0_k s m args below meth c H locs 0 0 Q (F0 m 17 ls [.int (jz n0), .int (jz i)])
      refine jv_icmp_le (tgt := 30) hx hb dX8_insert_17 (by decide) (by omega) (by omega) (fun c_4 => ?_) (fun c_4 => ?_)
      · refine lv_aload_n hx hb dX8_insert_30 rfl (lv_at hl 1 rfl) ?_
        refine lv_iload_n hx hb dX8_insert_31 rfl (lv_at hl 4 rfl) ?_
        refine kV ⟨hx, hb, hml, hown, hts⟩ hK hA hS hP hD [.int (jz v)] [] (mX8_checkLetter_k l G x st sv bu di se wy ta tt rp t0 t1 al v (by omega) (by omega) (by omega)) lkX8_108 [2, 3] [0, 1, 4, 5] (br := [bText G t1 a1 n1 g1, bSaved G sv sa od sz f, bText G t0 a0 n0 g0, bPool G ph kp]) rfl rfl (by decide) 0 8 rfl rfl rfl rfl (Nat.le_of_ble_eq_true rfl) hl.1 dX8_insert_32 ⟨Nat.le_of_ble_eq_true rfl, Nat.le_of_ble_eq_true rfl⟩ ⟨Nat.le_of_ble_eq_true rfl, Nat.le_of_ble_eq_true rfl⟩ (fun u9 H locs hp9 hP hD hS => ?_)
        have hP : wP G [bText G t1 a1 n1 g1, bSaved G sv sa od sz f, bText G t0 a0 n0 g0, bPool G ph kp, bBD G x st sv bu di se wy ta tt rp, bState G st t0 t1 al] H := hP
        have hD : wD A [bText G t1 a1 n1 g1, bSaved G sv sa od sz f, bText G t0 a0 n0 g0, bPool G ph kp, bBD G x st sv bu di se wy ta tt rp, bState G st t0 t1 al] := hD
        have hP : wP G [bText G t1 a1 n1 g1, bSaved G sv sa od sz f, bText G t0 a0 n0 g0, bBD G x st sv bu di se wy ta tt rp, bState G st t0 t1 al, bPool G ph kp] H := wP_sub hP [0, 1, 2, 4, 5, 3] rfl
        have hD : wD A [bText G t1 a1 n1 g1, bSaved G sv sa od sz f, bText G t0 a0 n0 g0, bBD G x st sv bu di se wy ta tt rp, bState G st t0 t1 al, bPool G ph kp] := wD_sub hD [0, 1, 2, 4, 5, 3] (by decide) rfl
        show W p l e rmX8_insert_0_k s m args below meth c H locs 0 0 Q (F0 m 35 ls [])
        refine lv_aload hx hb dX8_insert_35 (lv_at hl 0 rfl) ?_
        refine kV ⟨hx, hb, hml, hown, hts⟩ hK hA hS hP hD [] [] (mX6_size l G t0 a0 n0 g0 ) lkX8_95 [2] [0, 1, 3, 4, 5] (br := [bText G t1 a1 n1 g1, bSaved G sv sa od sz f, bBD G x st sv bu di se wy ta tt rp, bState G st t0 t1 al, bPool G ph kp]) rfl rfl (by decide) 0 6 rfl rfl rfl rfl (Nat.le_of_ble_eq_true rfl) hl.1 dX8_insert_37 ⟨Nat.le_of_ble_eq_true rfl, Nat.le_of_ble_eq_true rfl⟩ ⟨Nat.le_of_ble_eq_true rfl, Nat.le_of_ble_eq_true rfl⟩ (fun u9 H locs hp9 hP hD hS => ?_)
        have hP : wP G [bText G t1 a1 n1 g1, bSaved G sv sa od sz f, bBD G x st sv bu di se wy ta tt rp, bState G st t0 t1 al, bPool G ph kp, bText G t0 a0 n0 g0] H := hP
        have hD : wD A [bText G t1 a1 n1 g1, bSaved G sv sa od sz f, bBD G x st sv bu di se wy ta tt rp, bState G st t0 t1 al, bPool G ph kp, bText G t0 a0 n0 g0] := hD
        have hP : wP G [bText G t1 a1 n1 g1, bSaved G sv sa od sz f, bBD G x st sv bu di se wy ta tt rp, bState G st t0 t1 al, bText G t0 a0 n0 g0, bPool G ph kp] H := wP_sub hP [0, 1, 2, 3, 5, 4] rfl
        have hD : wD A [bText G t1 a1 n1 g1, bSaved G sv sa od sz f, bBD G x st sv bu di se wy ta tt rp, bState G st t0 t1 al, bText G t0 a0 n0 g0, bPool G ph kp] := wD_sub hD [0, 1, 2, 3, 5, 4] (by decide) rfl
        show W p l e rmX8_insert_0_k s m args below meth c H locs 0 0 Q (F0 m 40 ls [.int (jz n0)])
        refine jv_bipush hx hb dX8_insert_40 (by decide) ?_
        refine jv_icmp_lt (tgt := 55) hx hb dX8_insert_42 (by decide) (by omega) (by omega) (fun c_7 => ?_) (fun c_7 => ?_)
        · refine lv_aload_n hx hb dX8_insert_55 rfl (lv_at hl 1 rfl) ?_
          refine va_get (ci := 8) (v := .ref sv) (C := RX8) (T := TX8) (N := 9) hx hb hts wfX8 hown hK.1 hP 4 rfl rfl 1 (by decide) (hts _ wm167) (fun _ h9 => h9) rfl dX8_insert_56 ?_
          refine lv_aload_n hx hb dX8_insert_59 rfl (lv_at hl 1 rfl) ?_
          refine va_get (ci := 8) (v := .ref st) (C := RX8) (T := TX8) (N := 9) hx hb hts wfX8 hown hK.1 hP 4 rfl rfl 0 (by decide) (hts _ wm166) (fun _ h9 => h9) rfl dX8_insert_60 ?_
          refine kV ⟨hx, hb, hml, hown, hts⟩ hK hA hS hP hD [.ref st] [] (mX4_save l G sv sa od sz f ph kp st t0 t1 al a0 n0 g0 a1 n1 g1 (by omega) (by omega) (by omega) (by omega) (by omega) (by omega) (by exact hf)) lkX8_83 [1, 3, 4, 0, 5] [2] (br := [bBD G x st sv bu di se wy ta tt rp]) rfl rfl (by decide) 0 4 rfl rfl rfl rfl (Nat.le_of_ble_eq_true rfl) hl.1 dX8_insert_63 ⟨Nat.le_of_ble_eq_true rfl, Nat.le_of_ble_eq_true rfl⟩ ⟨Nat.le_of_ble_eq_true rfl, Nat.le_of_ble_eq_true rfl⟩ (fun u9 H locs hp9 hP hD hS => ?_)
          obtain ⟨u_8, u_9, u_10, u_11, u_12⟩ := u9
          have ha_13 : (sz < 6 → u_8 = od ∧ u_9 = sz + 1) ∧ (sz = 6 → u_8 = (od + 1) % 6 ∧ u_9 = 6) := hp9.1
          have hb_14 : (u_12 = kp ∨ u_12 = kp + 1) ∧ (u_12 : Int) ≤ 6 ∧ u_9 ≤ u_12 ∧ (u_8 = 0 ∨ u_12 = 6) := hp9.2.1
          have hf_15 : ∀ z : Int, 0 ≤ z → z < 6 → u_10 z = if z < u_12 then some (u_11 z.toNat).1.1 else none := hp9.2.2.1
          have hp_16 : ∀ i : Nat, (i : Int) ≠ (u_8 + (u_9 - 1)) % 6 → i < kp → u_11 i = ph i := hp9.2.2.2.1
          have hq_17 : (u_11 ((u_8 + (u_9 - 1)) % 6).toNat).2.1 = (al, n0, n1) := hp9.2.2.2.2.1
          have hr_18 : ∀ j : Int, 0 ≤ j → j < n0 → (u_11 ((u_8 + (u_9 - 1)) % 6).toNat).2.2.1 j = g0 j := hp9.2.2.2.2.2.1
          have hs_19 : ∀ j : Int, 0 ≤ j → j < n1 → (u_11 ((u_8 + (u_9 - 1)) % 6).toNat).2.2.2 j = g1 j := hp9.2.2.2.2.2.2
          have hP : wP G [bBD G x st sv bu di se wy ta tt rp, bSaved G sv sa u_8 u_9 u_10, bState G st t0 t1 al, bText G t0 a0 n0 g0, bText G t1 a1 n1 g1, bPool G u_11 u_12] H := hP
          have hD : wD A [bBD G x st sv bu di se wy ta tt rp, bSaved G sv sa u_8 u_9 u_10, bState G st t0 t1 al, bText G t0 a0 n0 g0, bText G t1 a1 n1 g1, bPool G u_11 u_12] := hD
          show W p l e rmX8_insert_0_k s m args below meth c H locs 5 47 Q (F0 m 66 ls [])
          refine lv_aload hx hb dX8_insert_66 (lv_at hl 0 rfl) ?_
          refine lv_iload_n hx hb dX8_insert_68 rfl (lv_at hl 3 rfl) ?_
          refine lv_iload_n hx hb dX8_insert_69 rfl (lv_at hl 4 rfl) ?_
          refine kV ⟨hx, hb, hml, hown, hts⟩ hK hA hS hP hD [.int (jz i), .int (jz v)] [] (mX6_putIn l G t0 a0 n0 g0 i v (by omega) (by omega)) lkX8_117 [3] [0, 1, 2, 4, 5] (br := [bBD G x st sv bu di se wy ta tt rp, bSaved G sv sa u_8 u_9 u_10, bState G st t0 t1 al, bText G t1 a1 n1 g1, bPool G u_11 u_12]) rfl rfl (by decide) 0 6 rfl rfl rfl rfl (Nat.le_of_ble_eq_true rfl) hl.1 dX8_insert_70 ⟨Nat.le_of_ble_eq_true rfl, Nat.le_of_ble_eq_true rfl⟩ ⟨Nat.le_of_ble_eq_true rfl, Nat.le_of_ble_eq_true rfl⟩ (fun u9 H locs hp9 hP hD hS => ?_)
          have hP : wP G [bBD G x st sv bu di se wy ta tt rp, bSaved G sv sa u_8 u_9 u_10, bState G st t0 t1 al, bText G t1 a1 n1 g1, bPool G u_11 u_12, bText G t0 a0 (n0 + 1) (insF g0 i n0 v)] H := hP
          have hD : wD A [bBD G x st sv bu di se wy ta tt rp, bSaved G sv sa u_8 u_9 u_10, bState G st t0 t1 al, bText G t1 a1 n1 g1, bPool G u_11 u_12, bText G t0 a0 (n0 + 1) (insF g0 i n0 v)] := hD
          have hP : wP G [bBD G x st sv bu di se wy ta tt rp, bSaved G sv sa u_8 u_9 u_10, bState G st t0 t1 al, bText G t1 a1 n1 g1, bText G t0 a0 (n0 + 1) (insF g0 i n0 v), bPool G u_11 u_12] H := wP_sub hP [0, 1, 2, 3, 5, 4] rfl
          have hD : wD A [bBD G x st sv bu di se wy ta tt rp, bSaved G sv sa u_8 u_9 u_10, bState G st t0 t1 al, bText G t1 a1 n1 g1, bText G t0 a0 (n0 + 1) (insF g0 i n0 v), bPool G u_11 u_12] := wD_sub hD [0, 1, 2, 3, 5, 4] (by decide) rfl
          show W p l e rmX8_insert_0_k s m args below meth c H locs 5 47 Q (F0 m 73 ls [])
          refine lv_aload hx hb dX8_insert_73 (lv_at hl 0 rfl) ?_
          refine kV ⟨hx, hb, hml, hown, hts⟩ hK hA hS hP hD [] [] (mX6_size l G t0 a0 (n0 + 1) (insF g0 i n0 v) ) lkX8_95 [4] [0, 1, 2, 3, 5] (br := [bBD G x st sv bu di se wy ta tt rp, bSaved G sv sa u_8 u_9 u_10, bState G st t0 t1 al, bText G t1 a1 n1 g1, bPool G u_11 u_12]) rfl rfl (by decide) 0 6 rfl rfl rfl rfl (Nat.le_of_ble_eq_true rfl) hl.1 dX8_insert_75 ⟨Nat.le_of_ble_eq_true rfl, Nat.le_of_ble_eq_true rfl⟩ ⟨Nat.le_of_ble_eq_true rfl, Nat.le_of_ble_eq_true rfl⟩ (fun u9 H locs hp9 hP hD hS => ?_)
          have hP : wP G [bBD G x st sv bu di se wy ta tt rp, bSaved G sv sa u_8 u_9 u_10, bState G st t0 t1 al, bText G t1 a1 n1 g1, bPool G u_11 u_12, bText G t0 a0 (n0 + 1) (insF g0 i n0 v)] H := hP
          have hD : wD A [bBD G x st sv bu di se wy ta tt rp, bSaved G sv sa u_8 u_9 u_10, bState G st t0 t1 al, bText G t1 a1 n1 g1, bPool G u_11 u_12, bText G t0 a0 (n0 + 1) (insF g0 i n0 v)] := hD
          have hP : wP G [bBD G x st sv bu di se wy ta tt rp, bSaved G sv sa u_8 u_9 u_10, bState G st t0 t1 al, bText G t1 a1 n1 g1, bText G t0 a0 (n0 + 1) (insF g0 i n0 v), bPool G u_11 u_12] H := wP_sub hP [0, 1, 2, 3, 5, 4] rfl
          have hD : wD A [bBD G x st sv bu di se wy ta tt rp, bSaved G sv sa u_8 u_9 u_10, bState G st t0 t1 al, bText G t1 a1 n1 g1, bText G t0 a0 (n0 + 1) (insF g0 i n0 v), bPool G u_11 u_12] := wD_sub hD [0, 1, 2, 3, 5, 4] (by decide) rfl
          show W p l e rmX8_insert_0_k s m args below meth c H locs 5 47 Q (F0 m 78 ls [.int (jz (n0 + 1))])
          exact cret_i hx hb hr hlocks hS hP hD (Nat.le_of_ble_eq_true rfl) (Nat.le_of_ble_eq_true rfl) rfl dX8_insert_78 [0, 2, 4, 3, 1, 5] (by decide) ⟨u_8, u_9, u_10, u_11, u_12⟩ rfl ⟨(show (sz < 6 → u_8 = od ∧ u_9 = sz + 1) ∧ (sz = 6 → u_8 = (od + 1) % 6 ∧ u_9 = 6) from ha_13), (show (u_12 = kp ∨ u_12 = kp + 1) ∧ (u_12 : Int) ≤ 6 ∧ u_9 ≤ u_12 ∧ (u_8 = 0 ∨ u_12 = 6) from hb_14), (show ∀ z : Int, 0 ≤ z → z < 6 → u_10 z = if z < u_12 then some (u_11 z.toNat).1.1 else none from hf_15), (show ∀ i : Nat, (i : Int) ≠ (u_8 + (u_9 - 1)) % 6 → i < kp → u_11 i = ph i from hp_16), (show (u_11 ((u_8 + (u_9 - 1)) % 6).toNat).2.1 = (al, n0, n1) from hq_17), (show ∀ j : Int, 0 ≤ j → j < n0 → (u_11 ((u_8 + (u_9 - 1)) % 6).toNat).2.2.1 j = g0 j from hr_18), (show ∀ j : Int, 0 ≤ j → j < n1 → (u_11 ((u_8 + (u_9 - 1)) % 6).toNat).2.2.2 j = g1 j from hs_19)⟩ (congrArg (fun z : Int => some (Value.int (jz z))) (show (n0 + 1) = n0 + 1 from by first | rfl | omega | (split <;> first | rfl | omega | (exfalso; omega)))) hQ
        · exfalso; omega
      · exfalso; omega
  exact KH s.heap [] hP hD hS
abbrev rmX8_remove_0_k : Room := { frames := 4, cells := 5, slots := 47, locals := 88 }
set_option maxHeartbeats 4000000 in
set_option maxRecDepth 100000 in
theorem mX8_remove_0_k (l : Launch) (G : GG) (x : Nat) (st : Nat) (sv : Nat) (bu : Nat) (di : Nat) (se : Nat) (wy : Nat) (ta : Nat) (tt : Nat) (rp : Nat) (t0 : Nat) (t1 : Nat) (al : Int) (a0 : Nat) (n0 : Int) (g0 : Int → Int) (a1 : Nat) (n1 : Int) (g1 : Int → Int) (sa : Nat) (od : Int) (sz : Int) (f : Int → Option Nat) (ph : Nat → SG) (kp : Nat) (z : Int) (i : Int) (hn0 : 0 ≤ n0 ∧ n0 ≤ 20) (hn1 : 0 ≤ n1 ∧ n1 ≤ 20) (hs : 0 ≤ sz ∧ sz ≤ 6) (ho : 0 ≤ od ∧ od < 6) (hk : kp ≤ 6 ∧ sz ≤ kp) (hk2 : od = 0 ∨ kp = 6) (hf : ∀ z : Int, 0 ≤ z → z < 6 → f z = if z < kp then some (ph z.toNat).1.1 else none) (hz : z = 0) (hi : jr i) (hk9 : 0 ≤ i ∧ i < n0) : Ct l yX8_remove cX8_remove 5 (some .int) rmX8_remove_0_k G [.ref x, .int (jz z), .int (jz i)] [bBD G x st sv bu di se wy ta tt rp, bState G st t0 t1 al, bText G t0 a0 n0 g0, bText G t1 a1 n1 g1, bSaved G sv sa od sz f, bPool G ph kp] (fun uo : Int × Int × (Int → Option Nat) × (Nat → SG) × Nat => some (.int (jz (g0 i)))) (fun uo => ((sz < 6 → uo.1 = od ∧ uo.2.1 = sz + 1) ∧ (sz = 6 → uo.1 = (od + 1) % 6 ∧ uo.2.1 = 6)) ∧ ((uo.2.2.2.2 = kp ∨ uo.2.2.2.2 = kp + 1) ∧ (uo.2.2.2.2 : Int) ≤ 6 ∧ uo.2.1 ≤ uo.2.2.2.2 ∧ (uo.1 = 0 ∨ uo.2.2.2.2 = 6)) ∧ (∀ z : Int, 0 ≤ z → z < 6 → uo.2.2.1 z = if z < uo.2.2.2.2 then some (uo.2.2.2.1 z.toNat).1.1 else none) ∧ (∀ i : Nat, (i : Int) ≠ (uo.1 + (uo.2.1 - 1)) % 6 → i < kp → uo.2.2.2.1 i = ph i) ∧ ((uo.2.2.2.1 ((uo.1 + (uo.2.1 - 1)) % 6).toNat).2.1 = (al, n0, n1)) ∧ (∀ j : Int, 0 ≤ j → j < n0 → (uo.2.2.2.1 ((uo.1 + (uo.2.1 - 1)) % 6).toNat).2.2.1 j = g0 j) ∧ (∀ j : Int, 0 ≤ j → j < n1 → (uo.2.2.2.1 ((uo.1 + (uo.2.1 - 1)) % 6).toNat).2.2.2 j = g1 j)) (fun uo => [bBD G x st sv bu di se wy ta tt rp, bState G st t0 t1 al, bText G t0 a0 (n0 - 1) (delF g0 i n0), bText G t1 a1 n1 g1, bSaved G sv sa uo.1 uo.2.1 uo.2.2.1, bPool G uo.2.2.2.1 uo.2.2.2.2]) := by
  refine cof (by decide) (Nat.le_of_ble_eq_true rfl) ?_
  intro p e s m args below meth c A ls hx hb hr hml hown hts hlocks hin hA hK hP hD hS hl Q hQ
  have hown : s.vm.findClass RX8 = some m.cls := hown
  have hl : lv_has ls 5 [(0, .ref x), (1, .int (jz z)), (2, .int (jz i))] := hl
  have KH : ∀ (H : Heap) (locs : List Loc), wP G [bBD G x st sv bu di se wy ta tt rp, bState G st t0 t1 al, bText G t0 a0 n0 g0, bText G t1 a1 n1 g1, bSaved G sv sa od sz f, bPool G ph kp] H → wD A [bBD G x st sv bu di se wy ta tt rp, bState G st t0 t1 al, bText G t0 a0 n0 g0, bText G t1 a1 n1 g1, bSaved G sv sa od sz f, bPool G ph kp] → va_S A s.heap H locs → W p l e rmX8_remove_0_k s m args below meth c H locs 0 0 Q (F0 m 0 ls []) := by
    intro H locs hP hD hS
    refine lv_aload_n hx hb dX8_remove_0 rfl (lv_at hl 0 rfl) ?_
    refine lv_iload_n hx hb dX8_remove_1 rfl (lv_at hl 1 rfl) ?_
    refine kV ⟨hx, hb, hml, hown, hts⟩ hK hA hS hP hD [.int (jz z)] [] (mX8_textOf_0 l G x st sv bu di se wy ta tt rp t0 t1 al z (by omega)) lkX8_100 [0, 1] [2, 3, 4, 5] (br := [bText G t0 a0 n0 g0, bText G t1 a1 n1 g1, bSaved G sv sa od sz f, bPool G ph kp]) rfl rfl (by decide) 0 8 rfl rfl rfl rfl (Nat.le_of_ble_eq_true rfl) hl.1 dX8_remove_2 ⟨Nat.le_of_ble_eq_true rfl, Nat.le_of_ble_eq_true rfl⟩ ⟨Nat.le_of_ble_eq_true rfl, Nat.le_of_ble_eq_true rfl⟩ (fun u9 H locs hp9 hP hD hS => ?_)
    have hP : wP G [bText G t0 a0 n0 g0, bText G t1 a1 n1 g1, bSaved G sv sa od sz f, bPool G ph kp, bBD G x st sv bu di se wy ta tt rp, bState G st t0 t1 al] H := hP
    have hD : wD A [bText G t0 a0 n0 g0, bText G t1 a1 n1 g1, bSaved G sv sa od sz f, bPool G ph kp, bBD G x st sv bu di se wy ta tt rp, bState G st t0 t1 al] := hD
    have hP : wP G [bText G t0 a0 n0 g0, bText G t1 a1 n1 g1, bSaved G sv sa od sz f, bBD G x st sv bu di se wy ta tt rp, bState G st t0 t1 al, bPool G ph kp] H := wP_sub hP [0, 1, 2, 4, 5, 3] rfl
    have hD : wD A [bText G t0 a0 n0 g0, bText G t1 a1 n1 g1, bSaved G sv sa od sz f, bBD G x st sv bu di se wy ta tt rp, bState G st t0 t1 al, bPool G ph kp] := wD_sub hD [0, 1, 2, 4, 5, 3] (by decide) rfl
    show W p l e rmX8_remove_0_k s m args below meth c H locs 0 0 Q (F0 m 5 ls [.ref t0])
    refine lv_astore_n (lv' := [(3, .ref t0), (0, .ref x), (1, .int (jz z)), (2, .int (jz i))]) hx hb dX8_remove_5 rfl hl (by decide) rfl (fun ls hl => ?_)
    refine lv_aload_n hx hb dX8_remove_6 rfl (lv_at hl 0 rfl) ?_
    refine lv_iload_n hx hb dX8_remove_7 rfl (lv_at hl 3 rfl) ?_
    refine kS ⟨hx, hb, hml, hown, hts⟩ hK hA hS hP hD [.ref t0, .int (jz i)] [] (mX8_checkPlace_k l G t0 a0 n0 g0 i (by omega) (by omega) (by omega)) lkX8_121 [0] [1, 2, 3, 4, 5] (br := [bText G t1 a1 n1 g1, bSaved G sv sa od sz f, bBD G x st sv bu di se wy ta tt rp, bState G st t0 t1 al, bPool G ph kp]) rfl rfl (by decide) rfl rfl (Nat.le_of_ble_eq_true rfl) hl.1 dX8_remove_8 ⟨Nat.le_of_ble_eq_true rfl, Nat.le_of_ble_eq_true rfl⟩ ⟨Nat.le_of_ble_eq_true rfl, Nat.le_of_ble_eq_true rfl⟩ (fun u9 H locs hp9 hP hD hS => ?_)
    have hP : wP G [bText G t1 a1 n1 g1, bSaved G sv sa od sz f, bBD G x st sv bu di se wy ta tt rp, bState G st t0 t1 al, bPool G ph kp, bText G t0 a0 n0 g0] H := hP
    have hD : wD A [bText G t1 a1 n1 g1, bSaved G sv sa od sz f, bBD G x st sv bu di se wy ta tt rp, bState G st t0 t1 al, bPool G ph kp, bText G t0 a0 n0 g0] := hD
    have hP : wP G [bText G t1 a1 n1 g1, bSaved G sv sa od sz f, bBD G x st sv bu di se wy ta tt rp, bState G st t0 t1 al, bText G t0 a0 n0 g0, bPool G ph kp] H := wP_sub hP [0, 1, 2, 3, 5, 4] rfl
    have hD : wD A [bText G t1 a1 n1 g1, bSaved G sv sa od sz f, bBD G x st sv bu di se wy ta tt rp, bState G st t0 t1 al, bText G t0 a0 n0 g0, bPool G ph kp] := wD_sub hD [0, 1, 2, 3, 5, 4] (by decide) rfl
    show W p l e rmX8_remove_0_k s m args below meth c H locs 0 0 Q (F0 m 11 ls [])
    refine lv_aload_n hx hb dX8_remove_11 rfl (lv_at hl 1 rfl) ?_
    refine va_get (ci := 8) (v := .ref sv) (C := RX8) (T := TX8) (N := 9) hx hb hts wfX8 hown hK.1 hP 4 rfl rfl 1 (by decide) (hts _ wm167) (fun _ h9 => h9) rfl dX8_remove_12 ?_
    refine lv_aload_n hx hb dX8_remove_15 rfl (lv_at hl 1 rfl) ?_
    refine va_get (ci := 8) (v := .ref st) (C := RX8) (T := TX8) (N := 9) hx hb hts wfX8 hown hK.1 hP 4 rfl rfl 0 (by decide) (hts _ wm166) (fun _ h9 => h9) rfl dX8_remove_16 ?_
    refine kV ⟨hx, hb, hml, hown, hts⟩ hK hA hS hP hD [.ref st] [] (mX4_save l G sv sa od sz f ph kp st t0 t1 al a0 n0 g0 a1 n1 g1 (by omega) (by omega) (by omega) (by omega) (by omega) (by omega) (by exact hf)) lkX8_83 [1, 3, 4, 0, 5] [2] (br := [bBD G x st sv bu di se wy ta tt rp]) rfl rfl (by decide) 0 4 rfl rfl rfl rfl (Nat.le_of_ble_eq_true rfl) hl.1 dX8_remove_19 ⟨Nat.le_of_ble_eq_true rfl, Nat.le_of_ble_eq_true rfl⟩ ⟨Nat.le_of_ble_eq_true rfl, Nat.le_of_ble_eq_true rfl⟩ (fun u9 H locs hp9 hP hD hS => ?_)
    obtain ⟨u_3, u_4, u_5, u_6, u_7⟩ := u9
    have ha_8 : (sz < 6 → u_3 = od ∧ u_4 = sz + 1) ∧ (sz = 6 → u_3 = (od + 1) % 6 ∧ u_4 = 6) := hp9.1
    have hb_9 : (u_7 = kp ∨ u_7 = kp + 1) ∧ (u_7 : Int) ≤ 6 ∧ u_4 ≤ u_7 ∧ (u_3 = 0 ∨ u_7 = 6) := hp9.2.1
    have hf_10 : ∀ z : Int, 0 ≤ z → z < 6 → u_5 z = if z < u_7 then some (u_6 z.toNat).1.1 else none := hp9.2.2.1
    have hp_11 : ∀ i : Nat, (i : Int) ≠ (u_3 + (u_4 - 1)) % 6 → i < kp → u_6 i = ph i := hp9.2.2.2.1
    have hq_12 : (u_6 ((u_3 + (u_4 - 1)) % 6).toNat).2.1 = (al, n0, n1) := hp9.2.2.2.2.1
    have hr_13 : ∀ j : Int, 0 ≤ j → j < n0 → (u_6 ((u_3 + (u_4 - 1)) % 6).toNat).2.2.1 j = g0 j := hp9.2.2.2.2.2.1
    have hs_14 : ∀ j : Int, 0 ≤ j → j < n1 → (u_6 ((u_3 + (u_4 - 1)) % 6).toNat).2.2.2 j = g1 j := hp9.2.2.2.2.2.2
    have hP : wP G [bBD G x st sv bu di se wy ta tt rp, bSaved G sv sa u_3 u_4 u_5, bState G st t0 t1 al, bText G t0 a0 n0 g0, bText G t1 a1 n1 g1, bPool G u_6 u_7] H := hP
    have hD : wD A [bBD G x st sv bu di se wy ta tt rp, bSaved G sv sa u_3 u_4 u_5, bState G st t0 t1 al, bText G t0 a0 n0 g0, bText G t1 a1 n1 g1, bPool G u_6 u_7] := hD
    show W p l e rmX8_remove_0_k s m args below meth c H locs 5 47 Q (F0 m 22 ls [])
    refine lv_aload_n hx hb dX8_remove_22 rfl (lv_at hl 0 rfl) ?_
    refine lv_iload_n hx hb dX8_remove_23 rfl (lv_at hl 3 rfl) ?_
    refine kV ⟨hx, hb, hml, hown, hts⟩ hK hA hS hP hD [.int (jz i)] [] (mX6_at_in l G t0 a0 n0 g0 i (by omega) (by omega)) lkX8_125 [3] [0, 1, 2, 4, 5] (br := [bBD G x st sv bu di se wy ta tt rp, bSaved G sv sa u_3 u_4 u_5, bState G st t0 t1 al, bText G t1 a1 n1 g1, bPool G u_6 u_7]) rfl rfl (by decide) 0 6 rfl rfl rfl rfl (Nat.le_of_ble_eq_true rfl) hl.1 dX8_remove_24 ⟨Nat.le_of_ble_eq_true rfl, Nat.le_of_ble_eq_true rfl⟩ ⟨Nat.le_of_ble_eq_true rfl, Nat.le_of_ble_eq_true rfl⟩ (fun u9 H locs hp9 hP hD hS => ?_)
    have hP : wP G [bBD G x st sv bu di se wy ta tt rp, bSaved G sv sa u_3 u_4 u_5, bState G st t0 t1 al, bText G t1 a1 n1 g1, bPool G u_6 u_7, bText G t0 a0 n0 g0] H := hP
    have hD : wD A [bBD G x st sv bu di se wy ta tt rp, bSaved G sv sa u_3 u_4 u_5, bState G st t0 t1 al, bText G t1 a1 n1 g1, bPool G u_6 u_7, bText G t0 a0 n0 g0] := hD
    have hP : wP G [bBD G x st sv bu di se wy ta tt rp, bSaved G sv sa u_3 u_4 u_5, bState G st t0 t1 al, bText G t1 a1 n1 g1, bText G t0 a0 n0 g0, bPool G u_6 u_7] H := wP_sub hP [0, 1, 2, 3, 5, 4] rfl
    have hD : wD A [bBD G x st sv bu di se wy ta tt rp, bSaved G sv sa u_3 u_4 u_5, bState G st t0 t1 al, bText G t1 a1 n1 g1, bText G t0 a0 n0 g0, bPool G u_6 u_7] := wD_sub hD [0, 1, 2, 3, 5, 4] (by decide) rfl
    show W p l e rmX8_remove_0_k s m args below meth c H locs 5 47 Q (F0 m 27 ls [.int (jz (g0 i))])
    refine lv_istore (lv' := [(4, .int (jz (g0 i))), (3, .ref t0), (0, .ref x), (1, .int (jz z)), (2, .int (jz i))]) hx hb dX8_remove_27 hl (by decide) rfl (fun ls hl => ?_)
    refine lv_aload_n hx hb dX8_remove_29 rfl (lv_at hl 1 rfl) ?_
    refine lv_iload_n hx hb dX8_remove_30 rfl (lv_at hl 4 rfl) ?_
    refine kV ⟨hx, hb, hml, hown, hts⟩ hK hA hS hP hD [.int (jz i)] [] (mX6_takeOut l G t0 a0 n0 g0 i (by omega) (by omega)) lkX8_129 [4] [0, 1, 2, 3, 5] (br := [bBD G x st sv bu di se wy ta tt rp, bSaved G sv sa u_3 u_4 u_5, bState G st t0 t1 al, bText G t1 a1 n1 g1, bPool G u_6 u_7]) rfl rfl (by decide) 0 6 rfl rfl rfl rfl (Nat.le_of_ble_eq_true rfl) hl.1 dX8_remove_31 ⟨Nat.le_of_ble_eq_true rfl, Nat.le_of_ble_eq_true rfl⟩ ⟨Nat.le_of_ble_eq_true rfl, Nat.le_of_ble_eq_true rfl⟩ (fun u9 H locs hp9 hP hD hS => ?_)
    have hP : wP G [bBD G x st sv bu di se wy ta tt rp, bSaved G sv sa u_3 u_4 u_5, bState G st t0 t1 al, bText G t1 a1 n1 g1, bPool G u_6 u_7, bText G t0 a0 (n0 - 1) (delF g0 i n0)] H := hP
    have hD : wD A [bBD G x st sv bu di se wy ta tt rp, bSaved G sv sa u_3 u_4 u_5, bState G st t0 t1 al, bText G t1 a1 n1 g1, bPool G u_6 u_7, bText G t0 a0 (n0 - 1) (delF g0 i n0)] := hD
    have hP : wP G [bBD G x st sv bu di se wy ta tt rp, bSaved G sv sa u_3 u_4 u_5, bState G st t0 t1 al, bText G t1 a1 n1 g1, bText G t0 a0 (n0 - 1) (delF g0 i n0), bPool G u_6 u_7] H := wP_sub hP [0, 1, 2, 3, 5, 4] rfl
    have hD : wD A [bBD G x st sv bu di se wy ta tt rp, bSaved G sv sa u_3 u_4 u_5, bState G st t0 t1 al, bText G t1 a1 n1 g1, bText G t0 a0 (n0 - 1) (delF g0 i n0), bPool G u_6 u_7] := wD_sub hD [0, 1, 2, 3, 5, 4] (by decide) rfl
    show W p l e rmX8_remove_0_k s m args below meth c H locs 5 47 Q (F0 m 34 ls [])
    refine lv_iload hx hb dX8_remove_34 (lv_at hl 0 rfl) ?_
    exact cret_i hx hb hr hlocks hS hP hD (Nat.le_of_ble_eq_true rfl) (Nat.le_of_ble_eq_true rfl) rfl dX8_remove_36 [0, 2, 4, 3, 1, 5] (by decide) ⟨u_3, u_4, u_5, u_6, u_7⟩ rfl ⟨(show (sz < 6 → u_3 = od ∧ u_4 = sz + 1) ∧ (sz = 6 → u_3 = (od + 1) % 6 ∧ u_4 = 6) from ha_8), (show (u_7 = kp ∨ u_7 = kp + 1) ∧ (u_7 : Int) ≤ 6 ∧ u_4 ≤ u_7 ∧ (u_3 = 0 ∨ u_7 = 6) from hb_9), (show ∀ z : Int, 0 ≤ z → z < 6 → u_5 z = if z < u_7 then some (u_6 z.toNat).1.1 else none from hf_10), (show ∀ i : Nat, (i : Int) ≠ (u_3 + (u_4 - 1)) % 6 → i < kp → u_6 i = ph i from hp_11), (show (u_6 ((u_3 + (u_4 - 1)) % 6).toNat).2.1 = (al, n0, n1) from hq_12), (show ∀ j : Int, 0 ≤ j → j < n0 → (u_6 ((u_3 + (u_4 - 1)) % 6).toNat).2.2.1 j = g0 j from hr_13), (show ∀ j : Int, 0 ≤ j → j < n1 → (u_6 ((u_3 + (u_4 - 1)) % 6).toNat).2.2.2 j = g1 j from hs_14)⟩ (congrArg (fun z : Int => some (Value.int (jz z))) (show (g0 i) = g0 i from by first | rfl | omega | (split <;> first | rfl | omega | (exfalso; omega)))) hQ
  exact KH s.heap [] hP hD hS
abbrev rmX8_replace_0_k : Room := { frames := 4, cells := 5, slots := 47, locals := 88 }
set_option maxHeartbeats 4000000 in
set_option maxRecDepth 100000 in
theorem mX8_replace_0_k (l : Launch) (G : GG) (x : Nat) (st : Nat) (sv : Nat) (bu : Nat) (di : Nat) (se : Nat) (wy : Nat) (ta : Nat) (tt : Nat) (rp : Nat) (t0 : Nat) (t1 : Nat) (al : Int) (a0 : Nat) (n0 : Int) (g0 : Int → Int) (a1 : Nat) (n1 : Int) (g1 : Int → Int) (sa : Nat) (od : Int) (sz : Int) (f : Int → Option Nat) (ph : Nat → SG) (kp : Nat) (z : Int) (i : Int) (v : Int) (hn0 : 0 ≤ n0 ∧ n0 ≤ 20) (hn1 : 0 ≤ n1 ∧ n1 ≤ 20) (hs : 0 ≤ sz ∧ sz ≤ 6) (ho : 0 ≤ od ∧ od < 6) (hk : kp ≤ 6 ∧ sz ≤ kp) (hk2 : od = 0 ∨ kp = 6) (hf : ∀ z : Int, 0 ≤ z → z < 6 → f z = if z < kp then some (ph z.toNat).1.1 else none) (hal : 2 ≤ al ∧ al ≤ 4) (hz : z = 0) (hi : jr i) (hv : jr v) (hk9 : (0 ≤ i ∧ i < n0) ∧ (0 ≤ v ∧ v < al)) : Ct l yX8_replace cX8_replace 6 (some .int) rmX8_replace_0_k G [.ref x, .int (jz z), .int (jz i), .int (jz v)] [bBD G x st sv bu di se wy ta tt rp, bState G st t0 t1 al, bText G t0 a0 n0 g0, bText G t1 a1 n1 g1, bSaved G sv sa od sz f, bPool G ph kp] (fun uo : Int × Int × (Int → Option Nat) × (Nat → SG) × Nat => some (.int (jz (g0 i)))) (fun uo => ((sz < 6 → uo.1 = od ∧ uo.2.1 = sz + 1) ∧ (sz = 6 → uo.1 = (od + 1) % 6 ∧ uo.2.1 = 6)) ∧ ((uo.2.2.2.2 = kp ∨ uo.2.2.2.2 = kp + 1) ∧ (uo.2.2.2.2 : Int) ≤ 6 ∧ uo.2.1 ≤ uo.2.2.2.2 ∧ (uo.1 = 0 ∨ uo.2.2.2.2 = 6)) ∧ (∀ z : Int, 0 ≤ z → z < 6 → uo.2.2.1 z = if z < uo.2.2.2.2 then some (uo.2.2.2.1 z.toNat).1.1 else none) ∧ (∀ i : Nat, (i : Int) ≠ (uo.1 + (uo.2.1 - 1)) % 6 → i < kp → uo.2.2.2.1 i = ph i) ∧ ((uo.2.2.2.1 ((uo.1 + (uo.2.1 - 1)) % 6).toNat).2.1 = (al, n0, n1)) ∧ (∀ j : Int, 0 ≤ j → j < n0 → (uo.2.2.2.1 ((uo.1 + (uo.2.1 - 1)) % 6).toNat).2.2.1 j = g0 j) ∧ (∀ j : Int, 0 ≤ j → j < n1 → (uo.2.2.2.1 ((uo.1 + (uo.2.1 - 1)) % 6).toNat).2.2.2 j = g1 j)) (fun uo => [bBD G x st sv bu di se wy ta tt rp, bState G st t0 t1 al, bText G t0 a0 n0 (up g0 i v), bText G t1 a1 n1 g1, bSaved G sv sa uo.1 uo.2.1 uo.2.2.1, bPool G uo.2.2.2.1 uo.2.2.2.2]) := by
  refine cof (by decide) (Nat.le_of_ble_eq_true rfl) ?_
  intro p e s m args below meth c A ls hx hb hr hml hown hts hlocks hin hA hK hP hD hS hl Q hQ
  have hown : s.vm.findClass RX8 = some m.cls := hown
  have hl : lv_has ls 6 [(0, .ref x), (1, .int (jz z)), (2, .int (jz i)), (3, .int (jz v))] := hl
  have KH : ∀ (H : Heap) (locs : List Loc), wP G [bBD G x st sv bu di se wy ta tt rp, bState G st t0 t1 al, bText G t0 a0 n0 g0, bText G t1 a1 n1 g1, bSaved G sv sa od sz f, bPool G ph kp] H → wD A [bBD G x st sv bu di se wy ta tt rp, bState G st t0 t1 al, bText G t0 a0 n0 g0, bText G t1 a1 n1 g1, bSaved G sv sa od sz f, bPool G ph kp] → va_S A s.heap H locs → W p l e rmX8_replace_0_k s m args below meth c H locs 0 0 Q (F0 m 0 ls []) := by
    intro H locs hP hD hS
    refine lv_aload_n hx hb dX8_replace_0 rfl (lv_at hl 0 rfl) ?_
    refine lv_iload_n hx hb dX8_replace_1 rfl (lv_at hl 1 rfl) ?_
    refine kV ⟨hx, hb, hml, hown, hts⟩ hK hA hS hP hD [.int (jz z)] [] (mX8_textOf_0 l G x st sv bu di se wy ta tt rp t0 t1 al z (by omega)) lkX8_100 [0, 1] [2, 3, 4, 5] (br := [bText G t0 a0 n0 g0, bText G t1 a1 n1 g1, bSaved G sv sa od sz f, bPool G ph kp]) rfl rfl (by decide) 0 8 rfl rfl rfl rfl (Nat.le_of_ble_eq_true rfl) hl.1 dX8_replace_2 ⟨Nat.le_of_ble_eq_true rfl, Nat.le_of_ble_eq_true rfl⟩ ⟨Nat.le_of_ble_eq_true rfl, Nat.le_of_ble_eq_true rfl⟩ (fun u9 H locs hp9 hP hD hS => ?_)
    have hP : wP G [bText G t0 a0 n0 g0, bText G t1 a1 n1 g1, bSaved G sv sa od sz f, bPool G ph kp, bBD G x st sv bu di se wy ta tt rp, bState G st t0 t1 al] H := hP
    have hD : wD A [bText G t0 a0 n0 g0, bText G t1 a1 n1 g1, bSaved G sv sa od sz f, bPool G ph kp, bBD G x st sv bu di se wy ta tt rp, bState G st t0 t1 al] := hD
    have hP : wP G [bText G t0 a0 n0 g0, bText G t1 a1 n1 g1, bSaved G sv sa od sz f, bBD G x st sv bu di se wy ta tt rp, bState G st t0 t1 al, bPool G ph kp] H := wP_sub hP [0, 1, 2, 4, 5, 3] rfl
    have hD : wD A [bText G t0 a0 n0 g0, bText G t1 a1 n1 g1, bSaved G sv sa od sz f, bBD G x st sv bu di se wy ta tt rp, bState G st t0 t1 al, bPool G ph kp] := wD_sub hD [0, 1, 2, 4, 5, 3] (by decide) rfl
    show W p l e rmX8_replace_0_k s m args below meth c H locs 0 0 Q (F0 m 5 ls [.ref t0])
    refine lv_astore (lv' := [(4, .ref t0), (0, .ref x), (1, .int (jz z)), (2, .int (jz i)), (3, .int (jz v))]) hx hb dX8_replace_5 hl (by decide) rfl (fun ls hl => ?_)
    refine lv_aload hx hb dX8_replace_7 (lv_at hl 0 rfl) ?_
    refine lv_iload_n hx hb dX8_replace_9 rfl (lv_at hl 3 rfl) ?_
    refine kS ⟨hx, hb, hml, hown, hts⟩ hK hA hS hP hD [.ref t0, .int (jz i)] [] (mX8_checkPlace_k l G t0 a0 n0 g0 i (by omega) (by omega) (by omega)) lkX8_121 [0] [1, 2, 3, 4, 5] (br := [bText G t1 a1 n1 g1, bSaved G sv sa od sz f, bBD G x st sv bu di se wy ta tt rp, bState G st t0 t1 al, bPool G ph kp]) rfl rfl (by decide) rfl rfl (Nat.le_of_ble_eq_true rfl) hl.1 dX8_replace_10 ⟨Nat.le_of_ble_eq_true rfl, Nat.le_of_ble_eq_true rfl⟩ ⟨Nat.le_of_ble_eq_true rfl, Nat.le_of_ble_eq_true rfl⟩ (fun u9 H locs hp9 hP hD hS => ?_)
    have hP : wP G [bText G t1 a1 n1 g1, bSaved G sv sa od sz f, bBD G x st sv bu di se wy ta tt rp, bState G st t0 t1 al, bPool G ph kp, bText G t0 a0 n0 g0] H := hP
    have hD : wD A [bText G t1 a1 n1 g1, bSaved G sv sa od sz f, bBD G x st sv bu di se wy ta tt rp, bState G st t0 t1 al, bPool G ph kp, bText G t0 a0 n0 g0] := hD
    have hP : wP G [bText G t1 a1 n1 g1, bSaved G sv sa od sz f, bBD G x st sv bu di se wy ta tt rp, bState G st t0 t1 al, bText G t0 a0 n0 g0, bPool G ph kp] H := wP_sub hP [0, 1, 2, 3, 5, 4] rfl
    have hD : wD A [bText G t1 a1 n1 g1, bSaved G sv sa od sz f, bBD G x st sv bu di se wy ta tt rp, bState G st t0 t1 al, bText G t0 a0 n0 g0, bPool G ph kp] := wD_sub hD [0, 1, 2, 3, 5, 4] (by decide) rfl
    show W p l e rmX8_replace_0_k s m args below meth c H locs 0 0 Q (F0 m 13 ls [])
    refine lv_aload_n hx hb dX8_replace_13 rfl (lv_at hl 1 rfl) ?_
    refine lv_iload_n hx hb dX8_replace_14 rfl (lv_at hl 4 rfl) ?_
    refine kV ⟨hx, hb, hml, hown, hts⟩ hK hA hS hP hD [.int (jz v)] [] (mX8_checkLetter_k l G x st sv bu di se wy ta tt rp t0 t1 al v (by omega) (by omega) (by omega)) lkX8_108 [2, 3] [0, 1, 4, 5] (br := [bText G t1 a1 n1 g1, bSaved G sv sa od sz f, bText G t0 a0 n0 g0, bPool G ph kp]) rfl rfl (by decide) 0 8 rfl rfl rfl rfl (Nat.le_of_ble_eq_true rfl) hl.1 dX8_replace_15 ⟨Nat.le_of_ble_eq_true rfl, Nat.le_of_ble_eq_true rfl⟩ ⟨Nat.le_of_ble_eq_true rfl, Nat.le_of_ble_eq_true rfl⟩ (fun u9 H locs hp9 hP hD hS => ?_)
    have hP : wP G [bText G t1 a1 n1 g1, bSaved G sv sa od sz f, bText G t0 a0 n0 g0, bPool G ph kp, bBD G x st sv bu di se wy ta tt rp, bState G st t0 t1 al] H := hP
    have hD : wD A [bText G t1 a1 n1 g1, bSaved G sv sa od sz f, bText G t0 a0 n0 g0, bPool G ph kp, bBD G x st sv bu di se wy ta tt rp, bState G st t0 t1 al] := hD
    have hP : wP G [bText G t1 a1 n1 g1, bSaved G sv sa od sz f, bText G t0 a0 n0 g0, bBD G x st sv bu di se wy ta tt rp, bState G st t0 t1 al, bPool G ph kp] H := wP_sub hP [0, 1, 2, 4, 5, 3] rfl
    have hD : wD A [bText G t1 a1 n1 g1, bSaved G sv sa od sz f, bText G t0 a0 n0 g0, bBD G x st sv bu di se wy ta tt rp, bState G st t0 t1 al, bPool G ph kp] := wD_sub hD [0, 1, 2, 4, 5, 3] (by decide) rfl
    show W p l e rmX8_replace_0_k s m args below meth c H locs 0 0 Q (F0 m 18 ls [])
    refine lv_aload_n hx hb dX8_replace_18 rfl (lv_at hl 1 rfl) ?_
    refine va_get (ci := 8) (v := .ref sv) (C := RX8) (T := TX8) (N := 9) hx hb hts wfX8 hown hK.1 hP 6 rfl rfl 1 (by decide) (hts _ wm167) (fun _ h9 => h9) rfl dX8_replace_19 ?_
    refine lv_aload_n hx hb dX8_replace_22 rfl (lv_at hl 1 rfl) ?_
    refine va_get (ci := 8) (v := .ref st) (C := RX8) (T := TX8) (N := 9) hx hb hts wfX8 hown hK.1 hP 6 rfl rfl 0 (by decide) (hts _ wm166) (fun _ h9 => h9) rfl dX8_replace_23 ?_
    refine kV ⟨hx, hb, hml, hown, hts⟩ hK hA hS hP hD [.ref st] [] (mX4_save l G sv sa od sz f ph kp st t0 t1 al a0 n0 g0 a1 n1 g1 (by omega) (by omega) (by omega) (by omega) (by omega) (by omega) (by exact hf)) lkX8_83 [1, 4, 2, 0, 5] [3] (br := [bBD G x st sv bu di se wy ta tt rp]) rfl rfl (by decide) 0 4 rfl rfl rfl rfl (Nat.le_of_ble_eq_true rfl) hl.1 dX8_replace_26 ⟨Nat.le_of_ble_eq_true rfl, Nat.le_of_ble_eq_true rfl⟩ ⟨Nat.le_of_ble_eq_true rfl, Nat.le_of_ble_eq_true rfl⟩ (fun u9 H locs hp9 hP hD hS => ?_)
    obtain ⟨u_4, u_5, u_6, u_7, u_8⟩ := u9
    have ha_9 : (sz < 6 → u_4 = od ∧ u_5 = sz + 1) ∧ (sz = 6 → u_4 = (od + 1) % 6 ∧ u_5 = 6) := hp9.1
    have hb_10 : (u_8 = kp ∨ u_8 = kp + 1) ∧ (u_8 : Int) ≤ 6 ∧ u_5 ≤ u_8 ∧ (u_4 = 0 ∨ u_8 = 6) := hp9.2.1
    have hf_11 : ∀ z : Int, 0 ≤ z → z < 6 → u_6 z = if z < u_8 then some (u_7 z.toNat).1.1 else none := hp9.2.2.1
    have hp_12 : ∀ i : Nat, (i : Int) ≠ (u_4 + (u_5 - 1)) % 6 → i < kp → u_7 i = ph i := hp9.2.2.2.1
    have hq_13 : (u_7 ((u_4 + (u_5 - 1)) % 6).toNat).2.1 = (al, n0, n1) := hp9.2.2.2.2.1
    have hr_14 : ∀ j : Int, 0 ≤ j → j < n0 → (u_7 ((u_4 + (u_5 - 1)) % 6).toNat).2.2.1 j = g0 j := hp9.2.2.2.2.2.1
    have hs_15 : ∀ j : Int, 0 ≤ j → j < n1 → (u_7 ((u_4 + (u_5 - 1)) % 6).toNat).2.2.2 j = g1 j := hp9.2.2.2.2.2.2
    have hP : wP G [bBD G x st sv bu di se wy ta tt rp, bSaved G sv sa u_4 u_5 u_6, bState G st t0 t1 al, bText G t0 a0 n0 g0, bText G t1 a1 n1 g1, bPool G u_7 u_8] H := hP
    have hD : wD A [bBD G x st sv bu di se wy ta tt rp, bSaved G sv sa u_4 u_5 u_6, bState G st t0 t1 al, bText G t0 a0 n0 g0, bText G t1 a1 n1 g1, bPool G u_7 u_8] := hD
    show W p l e rmX8_replace_0_k s m args below meth c H locs 5 47 Q (F0 m 29 ls [])
    refine lv_aload hx hb dX8_replace_29 (lv_at hl 0 rfl) ?_
    refine lv_iload_n hx hb dX8_replace_31 rfl (lv_at hl 3 rfl) ?_
    refine kV ⟨hx, hb, hml, hown, hts⟩ hK hA hS hP hD [.int (jz i)] [] (mX6_at_in l G t0 a0 n0 g0 i (by omega) (by omega)) lkX8_125 [3] [0, 1, 2, 4, 5] (br := [bBD G x st sv bu di se wy ta tt rp, bSaved G sv sa u_4 u_5 u_6, bState G st t0 t1 al, bText G t1 a1 n1 g1, bPool G u_7 u_8]) rfl rfl (by decide) 0 6 rfl rfl rfl rfl (Nat.le_of_ble_eq_true rfl) hl.1 dX8_replace_32 ⟨Nat.le_of_ble_eq_true rfl, Nat.le_of_ble_eq_true rfl⟩ ⟨Nat.le_of_ble_eq_true rfl, Nat.le_of_ble_eq_true rfl⟩ (fun u9 H locs hp9 hP hD hS => ?_)
    have hP : wP G [bBD G x st sv bu di se wy ta tt rp, bSaved G sv sa u_4 u_5 u_6, bState G st t0 t1 al, bText G t1 a1 n1 g1, bPool G u_7 u_8, bText G t0 a0 n0 g0] H := hP
    have hD : wD A [bBD G x st sv bu di se wy ta tt rp, bSaved G sv sa u_4 u_5 u_6, bState G st t0 t1 al, bText G t1 a1 n1 g1, bPool G u_7 u_8, bText G t0 a0 n0 g0] := hD
    have hP : wP G [bBD G x st sv bu di se wy ta tt rp, bSaved G sv sa u_4 u_5 u_6, bState G st t0 t1 al, bText G t1 a1 n1 g1, bText G t0 a0 n0 g0, bPool G u_7 u_8] H := wP_sub hP [0, 1, 2, 3, 5, 4] rfl
    have hD : wD A [bBD G x st sv bu di se wy ta tt rp, bSaved G sv sa u_4 u_5 u_6, bState G st t0 t1 al, bText G t1 a1 n1 g1, bText G t0 a0 n0 g0, bPool G u_7 u_8] := wD_sub hD [0, 1, 2, 3, 5, 4] (by decide) rfl
    show W p l e rmX8_replace_0_k s m args below meth c H locs 5 47 Q (F0 m 35 ls [.int (jz (g0 i))])
    refine lv_istore (lv' := [(5, .int (jz (g0 i))), (4, .ref t0), (0, .ref x), (1, .int (jz z)), (2, .int (jz i)), (3, .int (jz v))]) hx hb dX8_replace_35 hl (by decide) rfl (fun ls hl => ?_)
    refine lv_aload hx hb dX8_replace_37 (lv_at hl 1 rfl) ?_
    refine lv_iload_n hx hb dX8_replace_39 rfl (lv_at hl 4 rfl) ?_
    refine lv_iload_n hx hb dX8_replace_40 rfl (lv_at hl 5 rfl) ?_
    refine kV ⟨hx, hb, hml, hown, hts⟩ hK hA hS hP hD [.int (jz i), .int (jz v)] [] (mX6_set l G t0 a0 n0 g0 i v (by omega) (by omega)) lkX8_132 [4] [0, 1, 2, 3, 5] (br := [bBD G x st sv bu di se wy ta tt rp, bSaved G sv sa u_4 u_5 u_6, bState G st t0 t1 al, bText G t1 a1 n1 g1, bPool G u_7 u_8]) rfl rfl (by decide) 0 6 rfl rfl rfl rfl (Nat.le_of_ble_eq_true rfl) hl.1 dX8_replace_41 ⟨Nat.le_of_ble_eq_true rfl, Nat.le_of_ble_eq_true rfl⟩ ⟨Nat.le_of_ble_eq_true rfl, Nat.le_of_ble_eq_true rfl⟩ (fun u9 H locs hp9 hP hD hS => ?_)
    have hP : wP G [bBD G x st sv bu di se wy ta tt rp, bSaved G sv sa u_4 u_5 u_6, bState G st t0 t1 al, bText G t1 a1 n1 g1, bPool G u_7 u_8, bText G t0 a0 n0 (up g0 i v)] H := hP
    have hD : wD A [bBD G x st sv bu di se wy ta tt rp, bSaved G sv sa u_4 u_5 u_6, bState G st t0 t1 al, bText G t1 a1 n1 g1, bPool G u_7 u_8, bText G t0 a0 n0 (up g0 i v)] := hD
    have hP : wP G [bBD G x st sv bu di se wy ta tt rp, bSaved G sv sa u_4 u_5 u_6, bState G st t0 t1 al, bText G t1 a1 n1 g1, bText G t0 a0 n0 (up g0 i v), bPool G u_7 u_8] H := wP_sub hP [0, 1, 2, 3, 5, 4] rfl
    have hD : wD A [bBD G x st sv bu di se wy ta tt rp, bSaved G sv sa u_4 u_5 u_6, bState G st t0 t1 al, bText G t1 a1 n1 g1, bText G t0 a0 n0 (up g0 i v), bPool G u_7 u_8] := wD_sub hD [0, 1, 2, 3, 5, 4] (by decide) rfl
    show W p l e rmX8_replace_0_k s m args below meth c H locs 5 47 Q (F0 m 44 ls [])
    refine lv_iload hx hb dX8_replace_44 (lv_at hl 0 rfl) ?_
    exact cret_i hx hb hr hlocks hS hP hD (Nat.le_of_ble_eq_true rfl) (Nat.le_of_ble_eq_true rfl) rfl dX8_replace_46 [0, 2, 4, 3, 1, 5] (by decide) ⟨u_4, u_5, u_6, u_7, u_8⟩ rfl ⟨(show (sz < 6 → u_4 = od ∧ u_5 = sz + 1) ∧ (sz = 6 → u_4 = (od + 1) % 6 ∧ u_5 = 6) from ha_9), (show (u_8 = kp ∨ u_8 = kp + 1) ∧ (u_8 : Int) ≤ 6 ∧ u_5 ≤ u_8 ∧ (u_4 = 0 ∨ u_8 = 6) from hb_10), (show ∀ z : Int, 0 ≤ z → z < 6 → u_6 z = if z < u_8 then some (u_7 z.toNat).1.1 else none from hf_11), (show ∀ i : Nat, (i : Int) ≠ (u_4 + (u_5 - 1)) % 6 → i < kp → u_7 i = ph i from hp_12), (show (u_7 ((u_4 + (u_5 - 1)) % 6).toNat).2.1 = (al, n0, n1) from hq_13), (show ∀ j : Int, 0 ≤ j → j < n0 → (u_7 ((u_4 + (u_5 - 1)) % 6).toNat).2.2.1 j = g0 j from hr_14), (show ∀ j : Int, 0 ≤ j → j < n1 → (u_7 ((u_4 + (u_5 - 1)) % 6).toNat).2.2.2 j = g1 j from hs_15)⟩ (congrArg (fun z : Int => some (Value.int (jz z))) (show (g0 i) = g0 i from by first | rfl | omega | (split <;> first | rfl | omega | (exfalso; omega)))) hQ
  exact KH s.heap [] hP hD hS
abbrev rmX8_ifReplaced_0_k : Room := { frames := 4, cells := 0, slots := 0, locals := 92 }
set_option maxHeartbeats 4000000 in
set_option maxRecDepth 100000 in
theorem mX8_ifReplaced_0_k (l : Launch) (G : GG) (x : Nat) (st : Nat) (sv : Nat) (bu : Nat) (di : Nat) (se : Nat) (wy : Nat) (ta : Nat) (tt : Nat) (rp : Nat) (t0 : Nat) (t1 : Nat) (al : Int) (a0 : Nat) (n0 : Int) (g0 : Int → Int) (a1 : Nat) (n1 : Int) (g1 : Int → Int) (q : Nat) (q2 : Nat) (ct : Nat) (ot : Nat) (b : Nat) (h : Int → Int) (b2 : Nat) (h2 : Int → Int) (ca : Nat) (cn : Int) (cg : Int → Int) (oa : Nat) (on : Int) (og : Int → Int) (z : Int) (i : Int) (v : Int) (hn0 : 0 ≤ n0 ∧ n0 ≤ 20) (hn1 : 0 ≤ n1 ∧ n1 ≤ 20) (hg0 : ∀ j : Int, 0 ≤ j → j < n0 → 0 ≤ g0 j ∧ g0 j < 4) (hg1 : ∀ j : Int, 0 ≤ j → j < n1 → 0 ≤ g1 j ∧ g1 j < 4) (hal : 2 ≤ al ∧ al ≤ 4) (hz : z = 0) (hi : jr i) (hv : jr v) (hk9 : (0 ≤ i ∧ i < n0) ∧ (0 ≤ v ∧ v < al)) : Ct l yX8_ifReplaced cX8_ifReplaced 6 (some .int) rmX8_ifReplaced_0_k G [.ref x, .int (jz z), .int (jz i), .int (jz v)] [bBD G x st sv bu di se wy ta tt rp, bState G st t0 t1 al, bText G t0 a0 n0 g0, bText G t1 a1 n1 g1, bRep G rp q q2 ct ot, bGrid G q b h, bGrid G q2 b2 h2, bText G ct ca cn cg, bText G ot oa on og] (fun uo : (Int → Int) × (Int → Int) × (Int → Int) × (Int → Int) => some (.int (jz (D 1 (up g0 i v) g1 n0 n1)))) (fun uo => True) (fun uo => [bBD G x st sv bu di se wy ta tt rp, bState G st t0 t1 al, bText G t0 a0 n0 g0, bText G t1 a1 n1 g1, bRep G rp q q2 ct ot, bGrid G q b uo.1, bGrid G q2 b2 uo.2.1, bText G ct ca n0 uo.2.2.1, bText G ot oa n1 uo.2.2.2]) := by
  refine cof (by decide) (Nat.le_of_ble_eq_true rfl) ?_
  intro p e s m args below meth c A ls hx hb hr hml hown hts hlocks hin hA hK hP hD hS hl Q hQ
  have hown : s.vm.findClass RX8 = some m.cls := hown
  have hl : lv_has ls 6 [(0, .ref x), (1, .int (jz z)), (2, .int (jz i)), (3, .int (jz v))] := hl
  have KH : ∀ (H : Heap) (locs : List Loc), wP G [bBD G x st sv bu di se wy ta tt rp, bState G st t0 t1 al, bText G t0 a0 n0 g0, bText G t1 a1 n1 g1, bRep G rp q q2 ct ot, bGrid G q b h, bGrid G q2 b2 h2, bText G ct ca cn cg, bText G ot oa on og] H → wD A [bBD G x st sv bu di se wy ta tt rp, bState G st t0 t1 al, bText G t0 a0 n0 g0, bText G t1 a1 n1 g1, bRep G rp q q2 ct ot, bGrid G q b h, bGrid G q2 b2 h2, bText G ct ca cn cg, bText G ot oa on og] → va_S A s.heap H locs → W p l e rmX8_ifReplaced_0_k s m args below meth c H locs 0 0 Q (F0 m 0 ls []) := by
    intro H locs hP hD hS
    refine lv_aload_n hx hb dX8_ifReplaced_0 rfl (lv_at hl 0 rfl) ?_
    refine lv_iload_n hx hb dX8_ifReplaced_1 rfl (lv_at hl 1 rfl) ?_
    refine kV ⟨hx, hb, hml, hown, hts⟩ hK hA hS hP hD [.int (jz z)] [] (mX8_textOf_0 l G x st sv bu di se wy ta tt rp t0 t1 al z (by omega)) lkX8_100 [0, 1] [2, 3, 4, 5, 6, 7, 8] (br := [bText G t0 a0 n0 g0, bText G t1 a1 n1 g1, bRep G rp q q2 ct ot, bGrid G q b h, bGrid G q2 b2 h2, bText G ct ca cn cg, bText G ot oa on og]) rfl rfl (by decide) 0 8 rfl rfl rfl rfl (Nat.le_of_ble_eq_true rfl) hl.1 dX8_ifReplaced_2 ⟨Nat.le_of_ble_eq_true rfl, Nat.le_of_ble_eq_true rfl⟩ ⟨Nat.le_of_ble_eq_true rfl, Nat.le_of_ble_eq_true rfl⟩ (fun u9 H locs hp9 hP hD hS => ?_)
    have hP : wP G [bText G t0 a0 n0 g0, bText G t1 a1 n1 g1, bRep G rp q q2 ct ot, bGrid G q b h, bGrid G q2 b2 h2, bText G ct ca cn cg, bText G ot oa on og, bBD G x st sv bu di se wy ta tt rp, bState G st t0 t1 al] H := hP
    have hD : wD A [bText G t0 a0 n0 g0, bText G t1 a1 n1 g1, bRep G rp q q2 ct ot, bGrid G q b h, bGrid G q2 b2 h2, bText G ct ca cn cg, bText G ot oa on og, bBD G x st sv bu di se wy ta tt rp, bState G st t0 t1 al] := hD
    show W p l e rmX8_ifReplaced_0_k s m args below meth c H locs 0 0 Q (F0 m 5 ls [.ref t0])
    refine lv_astore (lv' := [(4, .ref t0), (0, .ref x), (1, .int (jz z)), (2, .int (jz i)), (3, .int (jz v))]) hx hb dX8_ifReplaced_5 hl (by decide) rfl (fun ls hl => ?_)
    refine lv_aload hx hb dX8_ifReplaced_7 (lv_at hl 0 rfl) ?_
    refine lv_iload_n hx hb dX8_ifReplaced_9 rfl (lv_at hl 3 rfl) ?_
    refine kS ⟨hx, hb, hml, hown, hts⟩ hK hA hS hP hD [.ref t0, .int (jz i)] [] (mX8_checkPlace_k l G t0 a0 n0 g0 i (by omega) (by omega) (by omega)) lkX8_121 [0] [1, 2, 3, 4, 5, 6, 7, 8] (br := [bText G t1 a1 n1 g1, bRep G rp q q2 ct ot, bGrid G q b h, bGrid G q2 b2 h2, bText G ct ca cn cg, bText G ot oa on og, bBD G x st sv bu di se wy ta tt rp, bState G st t0 t1 al]) rfl rfl (by decide) rfl rfl (Nat.le_of_ble_eq_true rfl) hl.1 dX8_ifReplaced_10 ⟨Nat.le_of_ble_eq_true rfl, Nat.le_of_ble_eq_true rfl⟩ ⟨Nat.le_of_ble_eq_true rfl, Nat.le_of_ble_eq_true rfl⟩ (fun u9 H locs hp9 hP hD hS => ?_)
    have hP : wP G [bText G t1 a1 n1 g1, bRep G rp q q2 ct ot, bGrid G q b h, bGrid G q2 b2 h2, bText G ct ca cn cg, bText G ot oa on og, bBD G x st sv bu di se wy ta tt rp, bState G st t0 t1 al, bText G t0 a0 n0 g0] H := hP
    have hD : wD A [bText G t1 a1 n1 g1, bRep G rp q q2 ct ot, bGrid G q b h, bGrid G q2 b2 h2, bText G ct ca cn cg, bText G ot oa on og, bBD G x st sv bu di se wy ta tt rp, bState G st t0 t1 al, bText G t0 a0 n0 g0] := hD
    show W p l e rmX8_ifReplaced_0_k s m args below meth c H locs 0 0 Q (F0 m 13 ls [])
    refine lv_aload_n hx hb dX8_ifReplaced_13 rfl (lv_at hl 1 rfl) ?_
    refine lv_iload_n hx hb dX8_ifReplaced_14 rfl (lv_at hl 4 rfl) ?_
    refine kV ⟨hx, hb, hml, hown, hts⟩ hK hA hS hP hD [.int (jz v)] [] (mX8_checkLetter_k l G x st sv bu di se wy ta tt rp t0 t1 al v (by omega) (by omega) (by omega)) lkX8_108 [6, 7] [0, 1, 2, 3, 4, 5, 8] (br := [bText G t1 a1 n1 g1, bRep G rp q q2 ct ot, bGrid G q b h, bGrid G q2 b2 h2, bText G ct ca cn cg, bText G ot oa on og, bText G t0 a0 n0 g0]) rfl rfl (by decide) 0 8 rfl rfl rfl rfl (Nat.le_of_ble_eq_true rfl) hl.1 dX8_ifReplaced_15 ⟨Nat.le_of_ble_eq_true rfl, Nat.le_of_ble_eq_true rfl⟩ ⟨Nat.le_of_ble_eq_true rfl, Nat.le_of_ble_eq_true rfl⟩ (fun u9 H locs hp9 hP hD hS => ?_)
    have hP : wP G [bText G t1 a1 n1 g1, bRep G rp q q2 ct ot, bGrid G q b h, bGrid G q2 b2 h2, bText G ct ca cn cg, bText G ot oa on og, bText G t0 a0 n0 g0, bBD G x st sv bu di se wy ta tt rp, bState G st t0 t1 al] H := hP
    have hD : wD A [bText G t1 a1 n1 g1, bRep G rp q q2 ct ot, bGrid G q b h, bGrid G q2 b2 h2, bText G ct ca cn cg, bText G ot oa on og, bText G t0 a0 n0 g0, bBD G x st sv bu di se wy ta tt rp, bState G st t0 t1 al] := hD
    show W p l e rmX8_ifReplaced_0_k s m args below meth c H locs 0 0 Q (F0 m 18 ls [])
    refine lv_aload_n hx hb dX8_ifReplaced_18 rfl (lv_at hl 1 rfl) ?_
    refine jv_iconst hx hb dX8_ifReplaced_19 ?_
    refine lv_iload_n hx hb dX8_ifReplaced_20 rfl (lv_at hl 2 rfl) ?_
    refine jv_isub hx hb dX8_ifReplaced_21 ?_
    refine kV ⟨hx, hb, hml, hown, hts⟩ hK hA hS hP hD [.int (jz (1 - z))] [] (mX8_textOf_1 l G x st sv bu di se wy ta tt rp t0 t1 al (1 - z) (by omega)) lkX8_100 [7, 8] [0, 1, 2, 3, 4, 5, 6] (br := [bText G t1 a1 n1 g1, bRep G rp q q2 ct ot, bGrid G q b h, bGrid G q2 b2 h2, bText G ct ca cn cg, bText G ot oa on og, bText G t0 a0 n0 g0]) rfl rfl (by decide) 0 8 rfl rfl rfl rfl (Nat.le_of_ble_eq_true rfl) hl.1 dX8_ifReplaced_22 ⟨Nat.le_of_ble_eq_true rfl, Nat.le_of_ble_eq_true rfl⟩ ⟨Nat.le_of_ble_eq_true rfl, Nat.le_of_ble_eq_true rfl⟩ (fun u9 H locs hp9 hP hD hS => ?_)
    have hP : wP G [bText G t1 a1 n1 g1, bRep G rp q q2 ct ot, bGrid G q b h, bGrid G q2 b2 h2, bText G ct ca cn cg, bText G ot oa on og, bText G t0 a0 n0 g0, bBD G x st sv bu di se wy ta tt rp, bState G st t0 t1 al] H := hP
    have hD : wD A [bText G t1 a1 n1 g1, bRep G rp q q2 ct ot, bGrid G q b h, bGrid G q2 b2 h2, bText G ct ca cn cg, bText G ot oa on og, bText G t0 a0 n0 g0, bBD G x st sv bu di se wy ta tt rp, bState G st t0 t1 al] := hD
    show W p l e rmX8_ifReplaced_0_k s m args below meth c H locs 0 0 Q (F0 m 25 ls [.ref t1])
    refine lv_astore (lv' := [(5, .ref t1), (4, .ref t0), (0, .ref x), (1, .int (jz z)), (2, .int (jz i)), (3, .int (jz v))]) hx hb dX8_ifReplaced_25 hl (by decide) rfl (fun ls hl => ?_)
    refine lv_aload_n hx hb dX8_ifReplaced_27 rfl (lv_at hl 2 rfl) ?_
    refine va_get (ci := 8) (v := .ref rp) (C := RX8) (T := TX8) (N := 9) hx hb hts wfX8 hown hK.1 hP 13 rfl rfl 8 (by decide) (hts _ wm174) (fun _ h9 => h9) rfl dX8_ifReplaced_28 ?_
    refine lv_aload hx hb dX8_ifReplaced_31 (lv_at hl 1 rfl) ?_
    refine lv_aload hx hb dX8_ifReplaced_33 (lv_at hl 0 rfl) ?_
    refine kV ⟨hx, hb, hml, hown, hts⟩ hK hA hS hP hD [.ref t0, .ref t1] [] (mX3_prepare l G rp q q2 ct ot b h b2 h2 ca cn cg oa on og t0 a0 n0 g0 t1 a1 n1 g1 (by omega) (by omega) (by exact hg0) (by exact hg1)) lkX8_214 [1, 2, 3, 4, 5, 6, 0] [7, 8] (br := [bBD G x st sv bu di se wy ta tt rp, bState G st t0 t1 al]) rfl rfl (by decide) 0 3 rfl rfl rfl rfl (Nat.le_of_ble_eq_true rfl) hl.1 dX8_ifReplaced_35 ⟨Nat.le_of_ble_eq_true rfl, Nat.le_of_ble_eq_true rfl⟩ ⟨Nat.le_of_ble_eq_true rfl, Nat.le_of_ble_eq_true rfl⟩ (fun u9 H locs hp9 hP hD hS => ?_)
    obtain ⟨u_5, u_6, u_7, u_8⟩ := u9
    have hc_9 : ∀ x y : Int, 0 ≤ x → x ≤ n0 → 0 ≤ y → y ≤ n1 → u_5 (x * 21 + y) = D 1 g0 g1 x y := hp9.1
    have hd_10 : ∀ x y : Int, 0 ≤ x → x ≤ n0 → 0 ≤ y → y ≤ n1 → u_6 (x * 21 + y) = D 1 (rv g0 n0) (rv g1 n1) x y := hp9.2
    have hP : wP G [bBD G x st sv bu di se wy ta tt rp, bState G st t0 t1 al, bRep G rp q q2 ct ot, bGrid G q b u_5, bGrid G q2 b2 u_6, bText G ct ca n0 u_7, bText G ot oa n1 u_8, bText G t0 a0 n0 g0, bText G t1 a1 n1 g1] H := hP
    have hD : wD A [bBD G x st sv bu di se wy ta tt rp, bState G st t0 t1 al, bRep G rp q q2 ct ot, bGrid G q b u_5, bGrid G q2 b2 u_6, bText G ct ca n0 u_7, bText G ot oa n1 u_8, bText G t0 a0 n0 g0, bText G t1 a1 n1 g1] := hD
    show W p l e rmX8_ifReplaced_0_k s m args below meth c H locs 0 0 Q (F0 m 38 ls [])
    have hp1 := hc_9
    have hp2 := hd_10
    refine lv_aload_n hx hb dX8_ifReplaced_38 rfl (lv_at hl 2 rfl) ?_
    refine va_get (ci := 8) (v := .ref rp) (C := RX8) (T := TX8) (N := 9) hx hb hts wfX8 hown hK.1 hP 0 rfl rfl 8 (by decide) (hts _ wm174) (fun _ h9 => h9) rfl dX8_ifReplaced_39 ?_
    refine lv_aload hx hb dX8_ifReplaced_42 (lv_at hl 1 rfl) ?_
    refine lv_aload hx hb dX8_ifReplaced_44 (lv_at hl 0 rfl) ?_
    refine lv_iload_n hx hb dX8_ifReplaced_46 rfl (lv_at hl 4 rfl) ?_
    refine lv_iload_n hx hb dX8_ifReplaced_47 rfl (lv_at hl 5 rfl) ?_
    refine kV ⟨hx, hb, hml, hown, hts⟩ hK hA hS hP hD [.ref t0, .ref t1, .int (jz i), .int (jz v)] [] (mX3_distanceWith l G rp q q2 ct ot b u_5 b2 u_6 t0 a0 n0 g0 t1 a1 n1 g1 i v (by omega) (by omega) (by exact hg0) (by exact hg1) (by omega) (by omega) (by exact hp1) (by exact hp2)) lkX8_217 [2, 3, 4, 7, 8] [0, 1, 5, 6] (br := [bBD G x st sv bu di se wy ta tt rp, bState G st t0 t1 al, bText G ct ca n0 u_7, bText G ot oa n1 u_8]) rfl rfl (by decide) 0 3 rfl rfl rfl rfl (Nat.le_of_ble_eq_true rfl) hl.1 dX8_ifReplaced_48 ⟨Nat.le_of_ble_eq_true rfl, Nat.le_of_ble_eq_true rfl⟩ ⟨Nat.le_of_ble_eq_true rfl, Nat.le_of_ble_eq_true rfl⟩ (fun u9 H locs hp9 hP hD hS => ?_)
    have hP : wP G [bBD G x st sv bu di se wy ta tt rp, bState G st t0 t1 al, bText G ct ca n0 u_7, bText G ot oa n1 u_8, bRep G rp q q2 ct ot, bGrid G q b u_5, bGrid G q2 b2 u_6, bText G t0 a0 n0 g0, bText G t1 a1 n1 g1] H := hP
    have hD : wD A [bBD G x st sv bu di se wy ta tt rp, bState G st t0 t1 al, bText G ct ca n0 u_7, bText G ot oa n1 u_8, bRep G rp q q2 ct ot, bGrid G q b u_5, bGrid G q2 b2 u_6, bText G t0 a0 n0 g0, bText G t1 a1 n1 g1] := hD
    show W p l e rmX8_ifReplaced_0_k s m args below meth c H locs 0 0 Q (F0 m 51 ls [.int (jz (D 1 (up g0 i v) g1 n0 n1))])
    exact cret_i hx hb hr hlocks hS hP hD (Nat.le_of_ble_eq_true rfl) (Nat.le_of_ble_eq_true rfl) rfl dX8_ifReplaced_51 [0, 1, 7, 8, 4, 5, 6, 2, 3] (by decide) ⟨u_5, u_6, u_7, u_8⟩ rfl trivial (congrArg (fun z : Int => some (Value.int (jz z))) (show (D 1 (up g0 i v) g1 n0 n1) = D 1 (up g0 i v) g1 n0 n1 from by first | rfl | omega | (split <;> first | rfl | omega | (exfalso; omega)))) hQ
  exact KH s.heap [] hP hD hS
abbrev rmX8_letter_1_k : Room := { frames := 2, cells := 0, slots := 0, locals := 42 }
set_option maxHeartbeats 4000000 in
set_option maxRecDepth 100000 in
theorem mX8_letter_1_k (l : Launch) (G : GG) (x : Nat) (st : Nat) (sv : Nat) (bu : Nat) (di : Nat) (se : Nat) (wy : Nat) (ta : Nat) (tt : Nat) (rp : Nat) (t0 : Nat) (t1 : Nat) (al : Int) (a0 : Nat) (n0 : Int) (g0 : Int → Int) (a1 : Nat) (n1 : Int) (g1 : Int → Int) (z : Int) (i : Int) (hn0 : 0 ≤ n0 ∧ n0 ≤ 20) (hn1 : 0 ≤ n1 ∧ n1 ≤ 20) (hz : z = 1) (hi : jr i) (hc1 : 0 ≤ i ∧ i < n1) : Ct l yX8_letter cX8_letter 4 (some .int) rmX8_letter_1_k G [.ref x, .int (jz z), .int (jz i)] [bBD G x st sv bu di se wy ta tt rp, bState G st t0 t1 al, bText G t0 a0 n0 g0, bText G t1 a1 n1 g1] (fun uo : Unit => some (.int (jz (g1 i)))) (fun uo => True) (fun uo => [bBD G x st sv bu di se wy ta tt rp, bState G st t0 t1 al, bText G t0 a0 n0 g0, bText G t1 a1 n1 g1]) := by
  refine cof (by decide) (Nat.le_of_ble_eq_true rfl) ?_
  intro p e s m args below meth c A ls hx hb hr hml hown hts hlocks hin hA hK hP hD hS hl Q hQ
  have hown : s.vm.findClass RX8 = some m.cls := hown
  have hl : lv_has ls 4 [(0, .ref x), (1, .int (jz z)), (2, .int (jz i))] := hl
  have KH : ∀ (H : Heap) (locs : List Loc), wP G [bBD G x st sv bu di se wy ta tt rp, bState G st t0 t1 al, bText G t0 a0 n0 g0, bText G t1 a1 n1 g1] H → wD A [bBD G x st sv bu di se wy ta tt rp, bState G st t0 t1 al, bText G t0 a0 n0 g0, bText G t1 a1 n1 g1] → va_S A s.heap H locs → W p l e rmX8_letter_1_k s m args below meth c H locs 0 0 Q (F0 m 0 ls []) := by
    intro H locs hP hD hS
    refine lv_aload_n hx hb dX8_letter_0 rfl (lv_at hl 0 rfl) ?_
    refine lv_iload_n hx hb dX8_letter_1 rfl (lv_at hl 1 rfl) ?_
    refine kV ⟨hx, hb, hml, hown, hts⟩ hK hA hS hP hD [.int (jz z)] [] (mX8_textOf_1 l G x st sv bu di se wy ta tt rp t0 t1 al z (by omega)) lkX8_100 [0, 1] [2, 3] (br := [bText G t0 a0 n0 g0, bText G t1 a1 n1 g1]) rfl rfl (by decide) 0 8 rfl rfl rfl rfl (Nat.le_of_ble_eq_true rfl) hl.1 dX8_letter_2 ⟨Nat.le_of_ble_eq_true rfl, Nat.le_of_ble_eq_true rfl⟩ ⟨Nat.le_of_ble_eq_true rfl, Nat.le_of_ble_eq_true rfl⟩ (fun u9 H locs hp9 hP hD hS => ?_)
    have hP : wP G [bText G t0 a0 n0 g0, bText G t1 a1 n1 g1, bBD G x st sv bu di se wy ta tt rp, bState G st t0 t1 al] H := hP
    have hD : wD A [bText G t0 a0 n0 g0, bText G t1 a1 n1 g1, bBD G x st sv bu di se wy ta tt rp, bState G st t0 t1 al] := hD
    show W p l e rmX8_letter_1_k s m args below meth c H locs 0 0 Q (F0 m 5 ls [.ref t1])
    refine lv_astore_n (lv' := [(3, .ref t1), (0, .ref x), (1, .int (jz z)), (2, .int (jz i))]) hx hb dX8_letter_5 rfl hl (by decide) rfl (fun ls hl => ?_)
    refine lv_aload_n hx hb dX8_letter_6 rfl (lv_at hl 0 rfl) ?_
    refine lv_iload_n hx hb dX8_letter_7 rfl (lv_at hl 3 rfl) ?_
    refine kS ⟨hx, hb, hml, hown, hts⟩ hK hA hS hP hD [.ref t1, .int (jz i)] [] (mX8_checkPlace_k l G t1 a1 n1 g1 i (by omega) (by omega) (by omega)) lkX8_121 [1] [0, 2, 3] (br := [bText G t0 a0 n0 g0, bBD G x st sv bu di se wy ta tt rp, bState G st t0 t1 al]) rfl rfl (by decide) rfl rfl (Nat.le_of_ble_eq_true rfl) hl.1 dX8_letter_8 ⟨Nat.le_of_ble_eq_true rfl, Nat.le_of_ble_eq_true rfl⟩ ⟨Nat.le_of_ble_eq_true rfl, Nat.le_of_ble_eq_true rfl⟩ (fun u9 H locs hp9 hP hD hS => ?_)
    have hP : wP G [bText G t0 a0 n0 g0, bBD G x st sv bu di se wy ta tt rp, bState G st t0 t1 al, bText G t1 a1 n1 g1] H := hP
    have hD : wD A [bText G t0 a0 n0 g0, bBD G x st sv bu di se wy ta tt rp, bState G st t0 t1 al, bText G t1 a1 n1 g1] := hD
    show W p l e rmX8_letter_1_k s m args below meth c H locs 0 0 Q (F0 m 11 ls [])
    refine lv_aload_n hx hb dX8_letter_11 rfl (lv_at hl 0 rfl) ?_
    refine lv_iload_n hx hb dX8_letter_12 rfl (lv_at hl 3 rfl) ?_
    refine kV ⟨hx, hb, hml, hown, hts⟩ hK hA hS hP hD [.int (jz i)] [] (mX6_at_in l G t1 a1 n1 g1 i (by omega) (by omega)) lkX8_125 [3] [0, 1, 2] (br := [bText G t0 a0 n0 g0, bBD G x st sv bu di se wy ta tt rp, bState G st t0 t1 al]) rfl rfl (by decide) 0 6 rfl rfl rfl rfl (Nat.le_of_ble_eq_true rfl) hl.1 dX8_letter_13 ⟨Nat.le_of_ble_eq_true rfl, Nat.le_of_ble_eq_true rfl⟩ ⟨Nat.le_of_ble_eq_true rfl, Nat.le_of_ble_eq_true rfl⟩ (fun u9 H locs hp9 hP hD hS => ?_)
    have hP : wP G [bText G t0 a0 n0 g0, bBD G x st sv bu di se wy ta tt rp, bState G st t0 t1 al, bText G t1 a1 n1 g1] H := hP
    have hD : wD A [bText G t0 a0 n0 g0, bBD G x st sv bu di se wy ta tt rp, bState G st t0 t1 al, bText G t1 a1 n1 g1] := hD
    show W p l e rmX8_letter_1_k s m args below meth c H locs 0 0 Q (F0 m 16 ls [.int (jz (g1 i))])
    exact cret_i hx hb hr hlocks hS hP hD (Nat.le_of_ble_eq_true rfl) (Nat.le_of_ble_eq_true rfl) rfl dX8_letter_16 [1, 2, 0, 3] (by decide) () rfl trivial (congrArg (fun z : Int => some (Value.int (jz z))) (show (g1 i) = g1 i from by first | rfl | omega | (split <;> first | rfl | omega | (exfalso; omega)))) hQ
  exact KH s.heap [] hP hD hS
abbrev rmX8_insert_1_k : Room := { frames := 4, cells := 5, slots := 47, locals := 88 }
set_option maxHeartbeats 4000000 in
set_option maxRecDepth 100000 in
theorem mX8_insert_1_k (l : Launch) (G : GG) (x : Nat) (st : Nat) (sv : Nat) (bu : Nat) (di : Nat) (se : Nat) (wy : Nat) (ta : Nat) (tt : Nat) (rp : Nat) (t0 : Nat) (t1 : Nat) (al : Int) (a0 : Nat) (n0 : Int) (g0 : Int → Int) (a1 : Nat) (n1 : Int) (g1 : Int → Int) (sa : Nat) (od : Int) (sz : Int) (f : Int → Option Nat) (ph : Nat → SG) (kp : Nat) (z : Int) (i : Int) (v : Int) (hn0 : 0 ≤ n0 ∧ n0 ≤ 20) (hn1 : 0 ≤ n1 ∧ n1 ≤ 20) (hs : 0 ≤ sz ∧ sz ≤ 6) (ho : 0 ≤ od ∧ od < 6) (hk : kp ≤ 6 ∧ sz ≤ kp) (hk2 : od = 0 ∨ kp = 6) (hf : ∀ z : Int, 0 ≤ z → z < 6 → f z = if z < kp then some (ph z.toNat).1.1 else none) (hal : 2 ≤ al ∧ al ≤ 4) (hz : z = 1) (hi : jr i) (hv : jr v) (hk9 : (0 ≤ i ∧ i ≤ n1) ∧ (0 ≤ v ∧ v < al) ∧ n1 < 20) : Ct l yX8_insert cX8_insert 5 (some .int) rmX8_insert_1_k G [.ref x, .int (jz z), .int (jz i), .int (jz v)] [bBD G x st sv bu di se wy ta tt rp, bState G st t0 t1 al, bText G t0 a0 n0 g0, bText G t1 a1 n1 g1, bSaved G sv sa od sz f, bPool G ph kp] (fun uo : Int × Int × (Int → Option Nat) × (Nat → SG) × Nat => some (.int (jz (n1 + 1)))) (fun uo => ((sz < 6 → uo.1 = od ∧ uo.2.1 = sz + 1) ∧ (sz = 6 → uo.1 = (od + 1) % 6 ∧ uo.2.1 = 6)) ∧ ((uo.2.2.2.2 = kp ∨ uo.2.2.2.2 = kp + 1) ∧ (uo.2.2.2.2 : Int) ≤ 6 ∧ uo.2.1 ≤ uo.2.2.2.2 ∧ (uo.1 = 0 ∨ uo.2.2.2.2 = 6)) ∧ (∀ z : Int, 0 ≤ z → z < 6 → uo.2.2.1 z = if z < uo.2.2.2.2 then some (uo.2.2.2.1 z.toNat).1.1 else none) ∧ (∀ i : Nat, (i : Int) ≠ (uo.1 + (uo.2.1 - 1)) % 6 → i < kp → uo.2.2.2.1 i = ph i) ∧ ((uo.2.2.2.1 ((uo.1 + (uo.2.1 - 1)) % 6).toNat).2.1 = (al, n0, n1)) ∧ (∀ j : Int, 0 ≤ j → j < n0 → (uo.2.2.2.1 ((uo.1 + (uo.2.1 - 1)) % 6).toNat).2.2.1 j = g0 j) ∧ (∀ j : Int, 0 ≤ j → j < n1 → (uo.2.2.2.1 ((uo.1 + (uo.2.1 - 1)) % 6).toNat).2.2.2 j = g1 j)) (fun uo => [bBD G x st sv bu di se wy ta tt rp, bState G st t0 t1 al, bText G t0 a0 n0 g0, bText G t1 a1 (n1 + 1) (insF g1 i n1 v), bSaved G sv sa uo.1 uo.2.1 uo.2.2.1, bPool G uo.2.2.2.1 uo.2.2.2.2]) := by
  refine cof (by decide) (Nat.le_of_ble_eq_true rfl) ?_
  intro p e s m args below meth c A ls hx hb hr hml hown hts hlocks hin hA hK hP hD hS hl Q hQ
  have hown : s.vm.findClass RX8 = some m.cls := hown
  have hl : lv_has ls 5 [(0, .ref x), (1, .int (jz z)), (2, .int (jz i)), (3, .int (jz v))] := hl
  have KH : ∀ (H : Heap) (locs : List Loc), wP G [bBD G x st sv bu di se wy ta tt rp, bState G st t0 t1 al, bText G t0 a0 n0 g0, bText G t1 a1 n1 g1, bSaved G sv sa od sz f, bPool G ph kp] H → wD A [bBD G x st sv bu di se wy ta tt rp, bState G st t0 t1 al, bText G t0 a0 n0 g0, bText G t1 a1 n1 g1, bSaved G sv sa od sz f, bPool G ph kp] → va_S A s.heap H locs → W p l e rmX8_insert_1_k s m args below meth c H locs 0 0 Q (F0 m 0 ls []) := by
    intro H locs hP hD hS
    refine lv_aload_n hx hb dX8_insert_0 rfl (lv_at hl 0 rfl) ?_
    refine lv_iload_n hx hb dX8_insert_1 rfl (lv_at hl 1 rfl) ?_
    refine kV ⟨hx, hb, hml, hown, hts⟩ hK hA hS hP hD [.int (jz z)] [] (mX8_textOf_1 l G x st sv bu di se wy ta tt rp t0 t1 al z (by omega)) lkX8_100 [0, 1] [2, 3, 4, 5] (br := [bText G t0 a0 n0 g0, bText G t1 a1 n1 g1, bSaved G sv sa od sz f, bPool G ph kp]) rfl rfl (by decide) 0 8 rfl rfl rfl rfl (Nat.le_of_ble_eq_true rfl) hl.1 dX8_insert_2 ⟨Nat.le_of_ble_eq_true rfl, Nat.le_of_ble_eq_true rfl⟩ ⟨Nat.le_of_ble_eq_true rfl, Nat.le_of_ble_eq_true rfl⟩ (fun u9 H locs hp9 hP hD hS => ?_)
    have hP : wP G [bText G t0 a0 n0 g0, bText G t1 a1 n1 g1, bSaved G sv sa od sz f, bPool G ph kp, bBD G x st sv bu di se wy ta tt rp, bState G st t0 t1 al] H := hP
    have hD : wD A [bText G t0 a0 n0 g0, bText G t1 a1 n1 g1, bSaved G sv sa od sz f, bPool G ph kp, bBD G x st sv bu di se wy ta tt rp, bState G st t0 t1 al] := hD
    have hP : wP G [bText G t0 a0 n0 g0, bText G t1 a1 n1 g1, bSaved G sv sa od sz f, bBD G x st sv bu di se wy ta tt rp, bState G st t0 t1 al, bPool G ph kp] H := wP_sub hP [0, 1, 2, 4, 5, 3] rfl
    have hD : wD A [bText G t0 a0 n0 g0, bText G t1 a1 n1 g1, bSaved G sv sa od sz f, bBD G x st sv bu di se wy ta tt rp, bState G st t0 t1 al, bPool G ph kp] := wD_sub hD [0, 1, 2, 4, 5, 3] (by decide) rfl
    show W p l e rmX8_insert_1_k s m args below meth c H locs 0 0 Q (F0 m 5 ls [.ref t1])
    refine lv_astore (lv' := [(4, .ref t1), (0, .ref x), (1, .int (jz z)), (2, .int (jz i)), (3, .int (jz v))]) hx hb dX8_insert_5 hl (by decide) rfl (fun ls hl => ?_)
    refine lv_iload_n hx hb dX8_insert_7 rfl (lv_at hl 3 rfl) ?_
    refine jv_if_lt (tgt := 20) hx hb dX8_insert_8 (by decide) (by omega) (fun c_2 => ?_) (fun c_2 => ?_)
    · exfalso; omega
    · refine lv_iload_n hx hb dX8_insert_11 rfl (lv_at hl 3 rfl) ?_
      refine lv_aload hx hb dX8_insert_12 (lv_at hl 0 rfl) ?_
      refine kV ⟨hx, hb, hml, hown, hts⟩ hK hA hS hP hD [] [.int (jz i)] (mX6_size l G t1 a1 n1 g1 ) lkX8_95 [1] [0, 2, 3, 4, 5] (br := [bText G t0 a0 n0 g0, bSaved G sv sa od sz f, bBD G x st sv bu di se wy ta tt rp, bState G st t0 t1 al, bPool G ph kp]) rfl rfl (by decide) 0 6 rfl rfl rfl rfl (Nat.le_of_ble_eq_true rfl) hl.1 dX8_insert_14 ⟨Nat.le_of_ble_eq_true rfl, Nat.le_of_ble_eq_true rfl⟩ ⟨Nat.le_of_ble_eq_true rfl, Nat.le_of_ble_eq_true rfl⟩ (fun u9 H locs hp9 hP hD hS => ?_)
      have hP : wP G [bText G t0 a0 n0 g0, bSaved G sv sa od sz f, bBD G x st sv bu di se wy ta tt rp, bState G st t0 t1 al, bPool G ph kp, bText G t1 a1 n1 g1] H := hP
      have hD : wD A [bText G t0 a0 n0 g0, bSaved G sv sa od sz f, bBD G x st sv bu di se wy ta tt rp, bState G st t0 t1 al, bPool G ph kp, bText G t1 a1 n1 g1] := hD
      have hP : wP G [bText G t0 a0 n0 g0, bSaved G sv sa od sz f, bBD G x st sv bu di se wy ta tt rp, bState G st t0 t1 al, bText G t1 a1 n1 g1, bPool G ph kp] H := wP_sub hP [0, 1, 2, 3, 5, 4] rfl
      have hD : wD A [bText G t0 a0 n0 g0, bSaved G sv sa od sz f, bBD G x st sv bu di se wy ta tt rp, bState G st t0 t1 al, bText G t1 a1 n1 g1, bPool G ph kp] := wD_sub hD [0, 1, 2, 3, 5, 4] (by decide) rfl
      show W p l e rmX8_insert_1_k s m args below meth c H locs 0 0 Q (F0 m 17 ls [.int (jz n1), .int (jz i)])
      refine jv_icmp_le (tgt := 30) hx hb dX8_insert_17 (by decide) (by omega) (by omega) (fun c_4 => ?_) (fun c_4 => ?_)
      · refine lv_aload_n hx hb dX8_insert_30 rfl (lv_at hl 1 rfl) ?_
        refine lv_iload_n hx hb dX8_insert_31 rfl (lv_at hl 4 rfl) ?_
        refine kV ⟨hx, hb, hml, hown, hts⟩ hK hA hS hP hD [.int (jz v)] [] (mX8_checkLetter_k l G x st sv bu di se wy ta tt rp t0 t1 al v (by omega) (by omega) (by omega)) lkX8_108 [2, 3] [0, 1, 4, 5] (br := [bText G t0 a0 n0 g0, bSaved G sv sa od sz f, bText G t1 a1 n1 g1, bPool G ph kp]) rfl rfl (by decide) 0 8 rfl rfl rfl rfl (Nat.le_of_ble_eq_true rfl) hl.1 dX8_insert_32 ⟨Nat.le_of_ble_eq_true rfl, Nat.le_of_ble_eq_true rfl⟩ ⟨Nat.le_of_ble_eq_true rfl, Nat.le_of_ble_eq_true rfl⟩ (fun u9 H locs hp9 hP hD hS => ?_)
        have hP : wP G [bText G t0 a0 n0 g0, bSaved G sv sa od sz f, bText G t1 a1 n1 g1, bPool G ph kp, bBD G x st sv bu di se wy ta tt rp, bState G st t0 t1 al] H := hP
        have hD : wD A [bText G t0 a0 n0 g0, bSaved G sv sa od sz f, bText G t1 a1 n1 g1, bPool G ph kp, bBD G x st sv bu di se wy ta tt rp, bState G st t0 t1 al] := hD
        have hP : wP G [bText G t0 a0 n0 g0, bSaved G sv sa od sz f, bText G t1 a1 n1 g1, bBD G x st sv bu di se wy ta tt rp, bState G st t0 t1 al, bPool G ph kp] H := wP_sub hP [0, 1, 2, 4, 5, 3] rfl
        have hD : wD A [bText G t0 a0 n0 g0, bSaved G sv sa od sz f, bText G t1 a1 n1 g1, bBD G x st sv bu di se wy ta tt rp, bState G st t0 t1 al, bPool G ph kp] := wD_sub hD [0, 1, 2, 4, 5, 3] (by decide) rfl
        show W p l e rmX8_insert_1_k s m args below meth c H locs 0 0 Q (F0 m 35 ls [])
        refine lv_aload hx hb dX8_insert_35 (lv_at hl 0 rfl) ?_
        refine kV ⟨hx, hb, hml, hown, hts⟩ hK hA hS hP hD [] [] (mX6_size l G t1 a1 n1 g1 ) lkX8_95 [2] [0, 1, 3, 4, 5] (br := [bText G t0 a0 n0 g0, bSaved G sv sa od sz f, bBD G x st sv bu di se wy ta tt rp, bState G st t0 t1 al, bPool G ph kp]) rfl rfl (by decide) 0 6 rfl rfl rfl rfl (Nat.le_of_ble_eq_true rfl) hl.1 dX8_insert_37 ⟨Nat.le_of_ble_eq_true rfl, Nat.le_of_ble_eq_true rfl⟩ ⟨Nat.le_of_ble_eq_true rfl, Nat.le_of_ble_eq_true rfl⟩ (fun u9 H locs hp9 hP hD hS => ?_)
        have hP : wP G [bText G t0 a0 n0 g0, bSaved G sv sa od sz f, bBD G x st sv bu di se wy ta tt rp, bState G st t0 t1 al, bPool G ph kp, bText G t1 a1 n1 g1] H := hP
        have hD : wD A [bText G t0 a0 n0 g0, bSaved G sv sa od sz f, bBD G x st sv bu di se wy ta tt rp, bState G st t0 t1 al, bPool G ph kp, bText G t1 a1 n1 g1] := hD
        have hP : wP G [bText G t0 a0 n0 g0, bSaved G sv sa od sz f, bBD G x st sv bu di se wy ta tt rp, bState G st t0 t1 al, bText G t1 a1 n1 g1, bPool G ph kp] H := wP_sub hP [0, 1, 2, 3, 5, 4] rfl
        have hD : wD A [bText G t0 a0 n0 g0, bSaved G sv sa od sz f, bBD G x st sv bu di se wy ta tt rp, bState G st t0 t1 al, bText G t1 a1 n1 g1, bPool G ph kp] := wD_sub hD [0, 1, 2, 3, 5, 4] (by decide) rfl
        show W p l e rmX8_insert_1_k s m args below meth c H locs 0 0 Q (F0 m 40 ls [.int (jz n1)])
        refine jv_bipush hx hb dX8_insert_40 (by decide) ?_
        refine jv_icmp_lt (tgt := 55) hx hb dX8_insert_42 (by decide) (by omega) (by omega) (fun c_7 => ?_) (fun c_7 => ?_)
        · refine lv_aload_n hx hb dX8_insert_55 rfl (lv_at hl 1 rfl) ?_
          refine va_get (ci := 8) (v := .ref sv) (C := RX8) (T := TX8) (N := 9) hx hb hts wfX8 hown hK.1 hP 4 rfl rfl 1 (by decide) (hts _ wm167) (fun _ h9 => h9) rfl dX8_insert_56 ?_
          refine lv_aload_n hx hb dX8_insert_59 rfl (lv_at hl 1 rfl) ?_
          refine va_get (ci := 8) (v := .ref st) (C := RX8) (T := TX8) (N := 9) hx hb hts wfX8 hown hK.1 hP 4 rfl rfl 0 (by decide) (hts _ wm166) (fun _ h9 => h9) rfl dX8_insert_60 ?_
          refine kV ⟨hx, hb, hml, hown, hts⟩ hK hA hS hP hD [.ref st] [] (mX4_save l G sv sa od sz f ph kp st t0 t1 al a0 n0 g0 a1 n1 g1 (by omega) (by omega) (by omega) (by omega) (by omega) (by omega) (by exact hf)) lkX8_83 [1, 3, 0, 4, 5] [2] (br := [bBD G x st sv bu di se wy ta tt rp]) rfl rfl (by decide) 0 4 rfl rfl rfl rfl (Nat.le_of_ble_eq_true rfl) hl.1 dX8_insert_63 ⟨Nat.le_of_ble_eq_true rfl, Nat.le_of_ble_eq_true rfl⟩ ⟨Nat.le_of_ble_eq_true rfl, Nat.le_of_ble_eq_true rfl⟩ (fun u9 H locs hp9 hP hD hS => ?_)
          obtain ⟨u_8, u_9, u_10, u_11, u_12⟩ := u9
          have ha_13 : (sz < 6 → u_8 = od ∧ u_9 = sz + 1) ∧ (sz = 6 → u_8 = (od + 1) % 6 ∧ u_9 = 6) := hp9.1
          have hb_14 : (u_12 = kp ∨ u_12 = kp + 1) ∧ (u_12 : Int) ≤ 6 ∧ u_9 ≤ u_12 ∧ (u_8 = 0 ∨ u_12 = 6) := hp9.2.1
          have hf_15 : ∀ z : Int, 0 ≤ z → z < 6 → u_10 z = if z < u_12 then some (u_11 z.toNat).1.1 else none := hp9.2.2.1
          have hp_16 : ∀ i : Nat, (i : Int) ≠ (u_8 + (u_9 - 1)) % 6 → i < kp → u_11 i = ph i := hp9.2.2.2.1
          have hq_17 : (u_11 ((u_8 + (u_9 - 1)) % 6).toNat).2.1 = (al, n0, n1) := hp9.2.2.2.2.1
          have hr_18 : ∀ j : Int, 0 ≤ j → j < n0 → (u_11 ((u_8 + (u_9 - 1)) % 6).toNat).2.2.1 j = g0 j := hp9.2.2.2.2.2.1
          have hs_19 : ∀ j : Int, 0 ≤ j → j < n1 → (u_11 ((u_8 + (u_9 - 1)) % 6).toNat).2.2.2 j = g1 j := hp9.2.2.2.2.2.2
          have hP : wP G [bBD G x st sv bu di se wy ta tt rp, bSaved G sv sa u_8 u_9 u_10, bState G st t0 t1 al, bText G t0 a0 n0 g0, bText G t1 a1 n1 g1, bPool G u_11 u_12] H := hP
          have hD : wD A [bBD G x st sv bu di se wy ta tt rp, bSaved G sv sa u_8 u_9 u_10, bState G st t0 t1 al, bText G t0 a0 n0 g0, bText G t1 a1 n1 g1, bPool G u_11 u_12] := hD
          show W p l e rmX8_insert_1_k s m args below meth c H locs 5 47 Q (F0 m 66 ls [])
          refine lv_aload hx hb dX8_insert_66 (lv_at hl 0 rfl) ?_
          refine lv_iload_n hx hb dX8_insert_68 rfl (lv_at hl 3 rfl) ?_
          refine lv_iload_n hx hb dX8_insert_69 rfl (lv_at hl 4 rfl) ?_
          refine kV ⟨hx, hb, hml, hown, hts⟩ hK hA hS hP hD [.int (jz i), .int (jz v)] [] (mX6_putIn l G t1 a1 n1 g1 i v (by omega) (by omega)) lkX8_117 [4] [0, 1, 2, 3, 5] (br := [bBD G x st sv bu di se wy ta tt rp, bSaved G sv sa u_8 u_9 u_10, bState G st t0 t1 al, bText G t0 a0 n0 g0, bPool G u_11 u_12]) rfl rfl (by decide) 0 6 rfl rfl rfl rfl (Nat.le_of_ble_eq_true rfl) hl.1 dX8_insert_70 ⟨Nat.le_of_ble_eq_true rfl, Nat.le_of_ble_eq_true rfl⟩ ⟨Nat.le_of_ble_eq_true rfl, Nat.le_of_ble_eq_true rfl⟩ (fun u9 H locs hp9 hP hD hS => ?_)
          have hP : wP G [bBD G x st sv bu di se wy ta tt rp, bSaved G sv sa u_8 u_9 u_10, bState G st t0 t1 al, bText G t0 a0 n0 g0, bPool G u_11 u_12, bText G t1 a1 (n1 + 1) (insF g1 i n1 v)] H := hP
          have hD : wD A [bBD G x st sv bu di se wy ta tt rp, bSaved G sv sa u_8 u_9 u_10, bState G st t0 t1 al, bText G t0 a0 n0 g0, bPool G u_11 u_12, bText G t1 a1 (n1 + 1) (insF g1 i n1 v)] := hD
          have hP : wP G [bBD G x st sv bu di se wy ta tt rp, bSaved G sv sa u_8 u_9 u_10, bState G st t0 t1 al, bText G t0 a0 n0 g0, bText G t1 a1 (n1 + 1) (insF g1 i n1 v), bPool G u_11 u_12] H := wP_sub hP [0, 1, 2, 3, 5, 4] rfl
          have hD : wD A [bBD G x st sv bu di se wy ta tt rp, bSaved G sv sa u_8 u_9 u_10, bState G st t0 t1 al, bText G t0 a0 n0 g0, bText G t1 a1 (n1 + 1) (insF g1 i n1 v), bPool G u_11 u_12] := wD_sub hD [0, 1, 2, 3, 5, 4] (by decide) rfl
          show W p l e rmX8_insert_1_k s m args below meth c H locs 5 47 Q (F0 m 73 ls [])
          refine lv_aload hx hb dX8_insert_73 (lv_at hl 0 rfl) ?_
          refine kV ⟨hx, hb, hml, hown, hts⟩ hK hA hS hP hD [] [] (mX6_size l G t1 a1 (n1 + 1) (insF g1 i n1 v) ) lkX8_95 [4] [0, 1, 2, 3, 5] (br := [bBD G x st sv bu di se wy ta tt rp, bSaved G sv sa u_8 u_9 u_10, bState G st t0 t1 al, bText G t0 a0 n0 g0, bPool G u_11 u_12]) rfl rfl (by decide) 0 6 rfl rfl rfl rfl (Nat.le_of_ble_eq_true rfl) hl.1 dX8_insert_75 ⟨Nat.le_of_ble_eq_true rfl, Nat.le_of_ble_eq_true rfl⟩ ⟨Nat.le_of_ble_eq_true rfl, Nat.le_of_ble_eq_true rfl⟩ (fun u9 H locs hp9 hP hD hS => ?_)
          have hP : wP G [bBD G x st sv bu di se wy ta tt rp, bSaved G sv sa u_8 u_9 u_10, bState G st t0 t1 al, bText G t0 a0 n0 g0, bPool G u_11 u_12, bText G t1 a1 (n1 + 1) (insF g1 i n1 v)] H := hP
          have hD : wD A [bBD G x st sv bu di se wy ta tt rp, bSaved G sv sa u_8 u_9 u_10, bState G st t0 t1 al, bText G t0 a0 n0 g0, bPool G u_11 u_12, bText G t1 a1 (n1 + 1) (insF g1 i n1 v)] := hD
          have hP : wP G [bBD G x st sv bu di se wy ta tt rp, bSaved G sv sa u_8 u_9 u_10, bState G st t0 t1 al, bText G t0 a0 n0 g0, bText G t1 a1 (n1 + 1) (insF g1 i n1 v), bPool G u_11 u_12] H := wP_sub hP [0, 1, 2, 3, 5, 4] rfl
          have hD : wD A [bBD G x st sv bu di se wy ta tt rp, bSaved G sv sa u_8 u_9 u_10, bState G st t0 t1 al, bText G t0 a0 n0 g0, bText G t1 a1 (n1 + 1) (insF g1 i n1 v), bPool G u_11 u_12] := wD_sub hD [0, 1, 2, 3, 5, 4] (by decide) rfl
          show W p l e rmX8_insert_1_k s m args below meth c H locs 5 47 Q (F0 m 78 ls [.int (jz (n1 + 1))])
          exact cret_i hx hb hr hlocks hS hP hD (Nat.le_of_ble_eq_true rfl) (Nat.le_of_ble_eq_true rfl) rfl dX8_insert_78 [0, 2, 3, 4, 1, 5] (by decide) ⟨u_8, u_9, u_10, u_11, u_12⟩ rfl ⟨(show (sz < 6 → u_8 = od ∧ u_9 = sz + 1) ∧ (sz = 6 → u_8 = (od + 1) % 6 ∧ u_9 = 6) from ha_13), (show (u_12 = kp ∨ u_12 = kp + 1) ∧ (u_12 : Int) ≤ 6 ∧ u_9 ≤ u_12 ∧ (u_8 = 0 ∨ u_12 = 6) from hb_14), (show ∀ z : Int, 0 ≤ z → z < 6 → u_10 z = if z < u_12 then some (u_11 z.toNat).1.1 else none from hf_15), (show ∀ i : Nat, (i : Int) ≠ (u_8 + (u_9 - 1)) % 6 → i < kp → u_11 i = ph i from hp_16), (show (u_11 ((u_8 + (u_9 - 1)) % 6).toNat).2.1 = (al, n0, n1) from hq_17), (show ∀ j : Int, 0 ≤ j → j < n0 → (u_11 ((u_8 + (u_9 - 1)) % 6).toNat).2.2.1 j = g0 j from hr_18), (show ∀ j : Int, 0 ≤ j → j < n1 → (u_11 ((u_8 + (u_9 - 1)) % 6).toNat).2.2.2 j = g1 j from hs_19)⟩ (congrArg (fun z : Int => some (Value.int (jz z))) (show (n1 + 1) = n1 + 1 from by first | rfl | omega | (split <;> first | rfl | omega | (exfalso; omega)))) hQ
        · exfalso; omega
      · exfalso; omega
  exact KH s.heap [] hP hD hS
abbrev rmX8_remove_1_k : Room := { frames := 4, cells := 5, slots := 47, locals := 88 }
set_option maxHeartbeats 4000000 in
set_option maxRecDepth 100000 in
theorem mX8_remove_1_k (l : Launch) (G : GG) (x : Nat) (st : Nat) (sv : Nat) (bu : Nat) (di : Nat) (se : Nat) (wy : Nat) (ta : Nat) (tt : Nat) (rp : Nat) (t0 : Nat) (t1 : Nat) (al : Int) (a0 : Nat) (n0 : Int) (g0 : Int → Int) (a1 : Nat) (n1 : Int) (g1 : Int → Int) (sa : Nat) (od : Int) (sz : Int) (f : Int → Option Nat) (ph : Nat → SG) (kp : Nat) (z : Int) (i : Int) (hn0 : 0 ≤ n0 ∧ n0 ≤ 20) (hn1 : 0 ≤ n1 ∧ n1 ≤ 20) (hs : 0 ≤ sz ∧ sz ≤ 6) (ho : 0 ≤ od ∧ od < 6) (hk : kp ≤ 6 ∧ sz ≤ kp) (hk2 : od = 0 ∨ kp = 6) (hf : ∀ z : Int, 0 ≤ z → z < 6 → f z = if z < kp then some (ph z.toNat).1.1 else none) (hz : z = 1) (hi : jr i) (hk9 : 0 ≤ i ∧ i < n1) : Ct l yX8_remove cX8_remove 5 (some .int) rmX8_remove_1_k G [.ref x, .int (jz z), .int (jz i)] [bBD G x st sv bu di se wy ta tt rp, bState G st t0 t1 al, bText G t0 a0 n0 g0, bText G t1 a1 n1 g1, bSaved G sv sa od sz f, bPool G ph kp] (fun uo : Int × Int × (Int → Option Nat) × (Nat → SG) × Nat => some (.int (jz (g1 i)))) (fun uo => ((sz < 6 → uo.1 = od ∧ uo.2.1 = sz + 1) ∧ (sz = 6 → uo.1 = (od + 1) % 6 ∧ uo.2.1 = 6)) ∧ ((uo.2.2.2.2 = kp ∨ uo.2.2.2.2 = kp + 1) ∧ (uo.2.2.2.2 : Int) ≤ 6 ∧ uo.2.1 ≤ uo.2.2.2.2 ∧ (uo.1 = 0 ∨ uo.2.2.2.2 = 6)) ∧ (∀ z : Int, 0 ≤ z → z < 6 → uo.2.2.1 z = if z < uo.2.2.2.2 then some (uo.2.2.2.1 z.toNat).1.1 else none) ∧ (∀ i : Nat, (i : Int) ≠ (uo.1 + (uo.2.1 - 1)) % 6 → i < kp → uo.2.2.2.1 i = ph i) ∧ ((uo.2.2.2.1 ((uo.1 + (uo.2.1 - 1)) % 6).toNat).2.1 = (al, n0, n1)) ∧ (∀ j : Int, 0 ≤ j → j < n0 → (uo.2.2.2.1 ((uo.1 + (uo.2.1 - 1)) % 6).toNat).2.2.1 j = g0 j) ∧ (∀ j : Int, 0 ≤ j → j < n1 → (uo.2.2.2.1 ((uo.1 + (uo.2.1 - 1)) % 6).toNat).2.2.2 j = g1 j)) (fun uo => [bBD G x st sv bu di se wy ta tt rp, bState G st t0 t1 al, bText G t0 a0 n0 g0, bText G t1 a1 (n1 - 1) (delF g1 i n1), bSaved G sv sa uo.1 uo.2.1 uo.2.2.1, bPool G uo.2.2.2.1 uo.2.2.2.2]) := by
  refine cof (by decide) (Nat.le_of_ble_eq_true rfl) ?_
  intro p e s m args below meth c A ls hx hb hr hml hown hts hlocks hin hA hK hP hD hS hl Q hQ
  have hown : s.vm.findClass RX8 = some m.cls := hown
  have hl : lv_has ls 5 [(0, .ref x), (1, .int (jz z)), (2, .int (jz i))] := hl
  have KH : ∀ (H : Heap) (locs : List Loc), wP G [bBD G x st sv bu di se wy ta tt rp, bState G st t0 t1 al, bText G t0 a0 n0 g0, bText G t1 a1 n1 g1, bSaved G sv sa od sz f, bPool G ph kp] H → wD A [bBD G x st sv bu di se wy ta tt rp, bState G st t0 t1 al, bText G t0 a0 n0 g0, bText G t1 a1 n1 g1, bSaved G sv sa od sz f, bPool G ph kp] → va_S A s.heap H locs → W p l e rmX8_remove_1_k s m args below meth c H locs 0 0 Q (F0 m 0 ls []) := by
    intro H locs hP hD hS
    refine lv_aload_n hx hb dX8_remove_0 rfl (lv_at hl 0 rfl) ?_
    refine lv_iload_n hx hb dX8_remove_1 rfl (lv_at hl 1 rfl) ?_
    refine kV ⟨hx, hb, hml, hown, hts⟩ hK hA hS hP hD [.int (jz z)] [] (mX8_textOf_1 l G x st sv bu di se wy ta tt rp t0 t1 al z (by omega)) lkX8_100 [0, 1] [2, 3, 4, 5] (br := [bText G t0 a0 n0 g0, bText G t1 a1 n1 g1, bSaved G sv sa od sz f, bPool G ph kp]) rfl rfl (by decide) 0 8 rfl rfl rfl rfl (Nat.le_of_ble_eq_true rfl) hl.1 dX8_remove_2 ⟨Nat.le_of_ble_eq_true rfl, Nat.le_of_ble_eq_true rfl⟩ ⟨Nat.le_of_ble_eq_true rfl, Nat.le_of_ble_eq_true rfl⟩ (fun u9 H locs hp9 hP hD hS => ?_)
    have hP : wP G [bText G t0 a0 n0 g0, bText G t1 a1 n1 g1, bSaved G sv sa od sz f, bPool G ph kp, bBD G x st sv bu di se wy ta tt rp, bState G st t0 t1 al] H := hP
    have hD : wD A [bText G t0 a0 n0 g0, bText G t1 a1 n1 g1, bSaved G sv sa od sz f, bPool G ph kp, bBD G x st sv bu di se wy ta tt rp, bState G st t0 t1 al] := hD
    have hP : wP G [bText G t0 a0 n0 g0, bText G t1 a1 n1 g1, bSaved G sv sa od sz f, bBD G x st sv bu di se wy ta tt rp, bState G st t0 t1 al, bPool G ph kp] H := wP_sub hP [0, 1, 2, 4, 5, 3] rfl
    have hD : wD A [bText G t0 a0 n0 g0, bText G t1 a1 n1 g1, bSaved G sv sa od sz f, bBD G x st sv bu di se wy ta tt rp, bState G st t0 t1 al, bPool G ph kp] := wD_sub hD [0, 1, 2, 4, 5, 3] (by decide) rfl
    show W p l e rmX8_remove_1_k s m args below meth c H locs 0 0 Q (F0 m 5 ls [.ref t1])
    refine lv_astore_n (lv' := [(3, .ref t1), (0, .ref x), (1, .int (jz z)), (2, .int (jz i))]) hx hb dX8_remove_5 rfl hl (by decide) rfl (fun ls hl => ?_)
    refine lv_aload_n hx hb dX8_remove_6 rfl (lv_at hl 0 rfl) ?_
    refine lv_iload_n hx hb dX8_remove_7 rfl (lv_at hl 3 rfl) ?_
    refine kS ⟨hx, hb, hml, hown, hts⟩ hK hA hS hP hD [.ref t1, .int (jz i)] [] (mX8_checkPlace_k l G t1 a1 n1 g1 i (by omega) (by omega) (by omega)) lkX8_121 [1] [0, 2, 3, 4, 5] (br := [bText G t0 a0 n0 g0, bSaved G sv sa od sz f, bBD G x st sv bu di se wy ta tt rp, bState G st t0 t1 al, bPool G ph kp]) rfl rfl (by decide) rfl rfl (Nat.le_of_ble_eq_true rfl) hl.1 dX8_remove_8 ⟨Nat.le_of_ble_eq_true rfl, Nat.le_of_ble_eq_true rfl⟩ ⟨Nat.le_of_ble_eq_true rfl, Nat.le_of_ble_eq_true rfl⟩ (fun u9 H locs hp9 hP hD hS => ?_)
    have hP : wP G [bText G t0 a0 n0 g0, bSaved G sv sa od sz f, bBD G x st sv bu di se wy ta tt rp, bState G st t0 t1 al, bPool G ph kp, bText G t1 a1 n1 g1] H := hP
    have hD : wD A [bText G t0 a0 n0 g0, bSaved G sv sa od sz f, bBD G x st sv bu di se wy ta tt rp, bState G st t0 t1 al, bPool G ph kp, bText G t1 a1 n1 g1] := hD
    have hP : wP G [bText G t0 a0 n0 g0, bSaved G sv sa od sz f, bBD G x st sv bu di se wy ta tt rp, bState G st t0 t1 al, bText G t1 a1 n1 g1, bPool G ph kp] H := wP_sub hP [0, 1, 2, 3, 5, 4] rfl
    have hD : wD A [bText G t0 a0 n0 g0, bSaved G sv sa od sz f, bBD G x st sv bu di se wy ta tt rp, bState G st t0 t1 al, bText G t1 a1 n1 g1, bPool G ph kp] := wD_sub hD [0, 1, 2, 3, 5, 4] (by decide) rfl
    show W p l e rmX8_remove_1_k s m args below meth c H locs 0 0 Q (F0 m 11 ls [])
    refine lv_aload_n hx hb dX8_remove_11 rfl (lv_at hl 1 rfl) ?_
    refine va_get (ci := 8) (v := .ref sv) (C := RX8) (T := TX8) (N := 9) hx hb hts wfX8 hown hK.1 hP 4 rfl rfl 1 (by decide) (hts _ wm167) (fun _ h9 => h9) rfl dX8_remove_12 ?_
    refine lv_aload_n hx hb dX8_remove_15 rfl (lv_at hl 1 rfl) ?_
    refine va_get (ci := 8) (v := .ref st) (C := RX8) (T := TX8) (N := 9) hx hb hts wfX8 hown hK.1 hP 4 rfl rfl 0 (by decide) (hts _ wm166) (fun _ h9 => h9) rfl dX8_remove_16 ?_
    refine kV ⟨hx, hb, hml, hown, hts⟩ hK hA hS hP hD [.ref st] [] (mX4_save l G sv sa od sz f ph kp st t0 t1 al a0 n0 g0 a1 n1 g1 (by omega) (by omega) (by omega) (by omega) (by omega) (by omega) (by exact hf)) lkX8_83 [1, 3, 0, 4, 5] [2] (br := [bBD G x st sv bu di se wy ta tt rp]) rfl rfl (by decide) 0 4 rfl rfl rfl rfl (Nat.le_of_ble_eq_true rfl) hl.1 dX8_remove_19 ⟨Nat.le_of_ble_eq_true rfl, Nat.le_of_ble_eq_true rfl⟩ ⟨Nat.le_of_ble_eq_true rfl, Nat.le_of_ble_eq_true rfl⟩ (fun u9 H locs hp9 hP hD hS => ?_)
    obtain ⟨u_3, u_4, u_5, u_6, u_7⟩ := u9
    have ha_8 : (sz < 6 → u_3 = od ∧ u_4 = sz + 1) ∧ (sz = 6 → u_3 = (od + 1) % 6 ∧ u_4 = 6) := hp9.1
    have hb_9 : (u_7 = kp ∨ u_7 = kp + 1) ∧ (u_7 : Int) ≤ 6 ∧ u_4 ≤ u_7 ∧ (u_3 = 0 ∨ u_7 = 6) := hp9.2.1
    have hf_10 : ∀ z : Int, 0 ≤ z → z < 6 → u_5 z = if z < u_7 then some (u_6 z.toNat).1.1 else none := hp9.2.2.1
    have hp_11 : ∀ i : Nat, (i : Int) ≠ (u_3 + (u_4 - 1)) % 6 → i < kp → u_6 i = ph i := hp9.2.2.2.1
    have hq_12 : (u_6 ((u_3 + (u_4 - 1)) % 6).toNat).2.1 = (al, n0, n1) := hp9.2.2.2.2.1
    have hr_13 : ∀ j : Int, 0 ≤ j → j < n0 → (u_6 ((u_3 + (u_4 - 1)) % 6).toNat).2.2.1 j = g0 j := hp9.2.2.2.2.2.1
    have hs_14 : ∀ j : Int, 0 ≤ j → j < n1 → (u_6 ((u_3 + (u_4 - 1)) % 6).toNat).2.2.2 j = g1 j := hp9.2.2.2.2.2.2
    have hP : wP G [bBD G x st sv bu di se wy ta tt rp, bSaved G sv sa u_3 u_4 u_5, bState G st t0 t1 al, bText G t0 a0 n0 g0, bText G t1 a1 n1 g1, bPool G u_6 u_7] H := hP
    have hD : wD A [bBD G x st sv bu di se wy ta tt rp, bSaved G sv sa u_3 u_4 u_5, bState G st t0 t1 al, bText G t0 a0 n0 g0, bText G t1 a1 n1 g1, bPool G u_6 u_7] := hD
    show W p l e rmX8_remove_1_k s m args below meth c H locs 5 47 Q (F0 m 22 ls [])
    refine lv_aload_n hx hb dX8_remove_22 rfl (lv_at hl 0 rfl) ?_
    refine lv_iload_n hx hb dX8_remove_23 rfl (lv_at hl 3 rfl) ?_
    refine kV ⟨hx, hb, hml, hown, hts⟩ hK hA hS hP hD [.int (jz i)] [] (mX6_at_in l G t1 a1 n1 g1 i (by omega) (by omega)) lkX8_125 [4] [0, 1, 2, 3, 5] (br := [bBD G x st sv bu di se wy ta tt rp, bSaved G sv sa u_3 u_4 u_5, bState G st t0 t1 al, bText G t0 a0 n0 g0, bPool G u_6 u_7]) rfl rfl (by decide) 0 6 rfl rfl rfl rfl (Nat.le_of_ble_eq_true rfl) hl.1 dX8_remove_24 ⟨Nat.le_of_ble_eq_true rfl, Nat.le_of_ble_eq_true rfl⟩ ⟨Nat.le_of_ble_eq_true rfl, Nat.le_of_ble_eq_true rfl⟩ (fun u9 H locs hp9 hP hD hS => ?_)
    have hP : wP G [bBD G x st sv bu di se wy ta tt rp, bSaved G sv sa u_3 u_4 u_5, bState G st t0 t1 al, bText G t0 a0 n0 g0, bPool G u_6 u_7, bText G t1 a1 n1 g1] H := hP
    have hD : wD A [bBD G x st sv bu di se wy ta tt rp, bSaved G sv sa u_3 u_4 u_5, bState G st t0 t1 al, bText G t0 a0 n0 g0, bPool G u_6 u_7, bText G t1 a1 n1 g1] := hD
    have hP : wP G [bBD G x st sv bu di se wy ta tt rp, bSaved G sv sa u_3 u_4 u_5, bState G st t0 t1 al, bText G t0 a0 n0 g0, bText G t1 a1 n1 g1, bPool G u_6 u_7] H := wP_sub hP [0, 1, 2, 3, 5, 4] rfl
    have hD : wD A [bBD G x st sv bu di se wy ta tt rp, bSaved G sv sa u_3 u_4 u_5, bState G st t0 t1 al, bText G t0 a0 n0 g0, bText G t1 a1 n1 g1, bPool G u_6 u_7] := wD_sub hD [0, 1, 2, 3, 5, 4] (by decide) rfl
    show W p l e rmX8_remove_1_k s m args below meth c H locs 5 47 Q (F0 m 27 ls [.int (jz (g1 i))])
    refine lv_istore (lv' := [(4, .int (jz (g1 i))), (3, .ref t1), (0, .ref x), (1, .int (jz z)), (2, .int (jz i))]) hx hb dX8_remove_27 hl (by decide) rfl (fun ls hl => ?_)
    refine lv_aload_n hx hb dX8_remove_29 rfl (lv_at hl 1 rfl) ?_
    refine lv_iload_n hx hb dX8_remove_30 rfl (lv_at hl 4 rfl) ?_
    refine kV ⟨hx, hb, hml, hown, hts⟩ hK hA hS hP hD [.int (jz i)] [] (mX6_takeOut l G t1 a1 n1 g1 i (by omega) (by omega)) lkX8_129 [4] [0, 1, 2, 3, 5] (br := [bBD G x st sv bu di se wy ta tt rp, bSaved G sv sa u_3 u_4 u_5, bState G st t0 t1 al, bText G t0 a0 n0 g0, bPool G u_6 u_7]) rfl rfl (by decide) 0 6 rfl rfl rfl rfl (Nat.le_of_ble_eq_true rfl) hl.1 dX8_remove_31 ⟨Nat.le_of_ble_eq_true rfl, Nat.le_of_ble_eq_true rfl⟩ ⟨Nat.le_of_ble_eq_true rfl, Nat.le_of_ble_eq_true rfl⟩ (fun u9 H locs hp9 hP hD hS => ?_)
    have hP : wP G [bBD G x st sv bu di se wy ta tt rp, bSaved G sv sa u_3 u_4 u_5, bState G st t0 t1 al, bText G t0 a0 n0 g0, bPool G u_6 u_7, bText G t1 a1 (n1 - 1) (delF g1 i n1)] H := hP
    have hD : wD A [bBD G x st sv bu di se wy ta tt rp, bSaved G sv sa u_3 u_4 u_5, bState G st t0 t1 al, bText G t0 a0 n0 g0, bPool G u_6 u_7, bText G t1 a1 (n1 - 1) (delF g1 i n1)] := hD
    have hP : wP G [bBD G x st sv bu di se wy ta tt rp, bSaved G sv sa u_3 u_4 u_5, bState G st t0 t1 al, bText G t0 a0 n0 g0, bText G t1 a1 (n1 - 1) (delF g1 i n1), bPool G u_6 u_7] H := wP_sub hP [0, 1, 2, 3, 5, 4] rfl
    have hD : wD A [bBD G x st sv bu di se wy ta tt rp, bSaved G sv sa u_3 u_4 u_5, bState G st t0 t1 al, bText G t0 a0 n0 g0, bText G t1 a1 (n1 - 1) (delF g1 i n1), bPool G u_6 u_7] := wD_sub hD [0, 1, 2, 3, 5, 4] (by decide) rfl
    show W p l e rmX8_remove_1_k s m args below meth c H locs 5 47 Q (F0 m 34 ls [])
    refine lv_iload hx hb dX8_remove_34 (lv_at hl 0 rfl) ?_
    exact cret_i hx hb hr hlocks hS hP hD (Nat.le_of_ble_eq_true rfl) (Nat.le_of_ble_eq_true rfl) rfl dX8_remove_36 [0, 2, 3, 4, 1, 5] (by decide) ⟨u_3, u_4, u_5, u_6, u_7⟩ rfl ⟨(show (sz < 6 → u_3 = od ∧ u_4 = sz + 1) ∧ (sz = 6 → u_3 = (od + 1) % 6 ∧ u_4 = 6) from ha_8), (show (u_7 = kp ∨ u_7 = kp + 1) ∧ (u_7 : Int) ≤ 6 ∧ u_4 ≤ u_7 ∧ (u_3 = 0 ∨ u_7 = 6) from hb_9), (show ∀ z : Int, 0 ≤ z → z < 6 → u_5 z = if z < u_7 then some (u_6 z.toNat).1.1 else none from hf_10), (show ∀ i : Nat, (i : Int) ≠ (u_3 + (u_4 - 1)) % 6 → i < kp → u_6 i = ph i from hp_11), (show (u_6 ((u_3 + (u_4 - 1)) % 6).toNat).2.1 = (al, n0, n1) from hq_12), (show ∀ j : Int, 0 ≤ j → j < n0 → (u_6 ((u_3 + (u_4 - 1)) % 6).toNat).2.2.1 j = g0 j from hr_13), (show ∀ j : Int, 0 ≤ j → j < n1 → (u_6 ((u_3 + (u_4 - 1)) % 6).toNat).2.2.2 j = g1 j from hs_14)⟩ (congrArg (fun z : Int => some (Value.int (jz z))) (show (g1 i) = g1 i from by first | rfl | omega | (split <;> first | rfl | omega | (exfalso; omega)))) hQ
  exact KH s.heap [] hP hD hS
abbrev rmX8_replace_1_k : Room := { frames := 4, cells := 5, slots := 47, locals := 88 }
set_option maxHeartbeats 4000000 in
set_option maxRecDepth 100000 in
theorem mX8_replace_1_k (l : Launch) (G : GG) (x : Nat) (st : Nat) (sv : Nat) (bu : Nat) (di : Nat) (se : Nat) (wy : Nat) (ta : Nat) (tt : Nat) (rp : Nat) (t0 : Nat) (t1 : Nat) (al : Int) (a0 : Nat) (n0 : Int) (g0 : Int → Int) (a1 : Nat) (n1 : Int) (g1 : Int → Int) (sa : Nat) (od : Int) (sz : Int) (f : Int → Option Nat) (ph : Nat → SG) (kp : Nat) (z : Int) (i : Int) (v : Int) (hn0 : 0 ≤ n0 ∧ n0 ≤ 20) (hn1 : 0 ≤ n1 ∧ n1 ≤ 20) (hs : 0 ≤ sz ∧ sz ≤ 6) (ho : 0 ≤ od ∧ od < 6) (hk : kp ≤ 6 ∧ sz ≤ kp) (hk2 : od = 0 ∨ kp = 6) (hf : ∀ z : Int, 0 ≤ z → z < 6 → f z = if z < kp then some (ph z.toNat).1.1 else none) (hal : 2 ≤ al ∧ al ≤ 4) (hz : z = 1) (hi : jr i) (hv : jr v) (hk9 : (0 ≤ i ∧ i < n1) ∧ (0 ≤ v ∧ v < al)) : Ct l yX8_replace cX8_replace 6 (some .int) rmX8_replace_1_k G [.ref x, .int (jz z), .int (jz i), .int (jz v)] [bBD G x st sv bu di se wy ta tt rp, bState G st t0 t1 al, bText G t0 a0 n0 g0, bText G t1 a1 n1 g1, bSaved G sv sa od sz f, bPool G ph kp] (fun uo : Int × Int × (Int → Option Nat) × (Nat → SG) × Nat => some (.int (jz (g1 i)))) (fun uo => ((sz < 6 → uo.1 = od ∧ uo.2.1 = sz + 1) ∧ (sz = 6 → uo.1 = (od + 1) % 6 ∧ uo.2.1 = 6)) ∧ ((uo.2.2.2.2 = kp ∨ uo.2.2.2.2 = kp + 1) ∧ (uo.2.2.2.2 : Int) ≤ 6 ∧ uo.2.1 ≤ uo.2.2.2.2 ∧ (uo.1 = 0 ∨ uo.2.2.2.2 = 6)) ∧ (∀ z : Int, 0 ≤ z → z < 6 → uo.2.2.1 z = if z < uo.2.2.2.2 then some (uo.2.2.2.1 z.toNat).1.1 else none) ∧ (∀ i : Nat, (i : Int) ≠ (uo.1 + (uo.2.1 - 1)) % 6 → i < kp → uo.2.2.2.1 i = ph i) ∧ ((uo.2.2.2.1 ((uo.1 + (uo.2.1 - 1)) % 6).toNat).2.1 = (al, n0, n1)) ∧ (∀ j : Int, 0 ≤ j → j < n0 → (uo.2.2.2.1 ((uo.1 + (uo.2.1 - 1)) % 6).toNat).2.2.1 j = g0 j) ∧ (∀ j : Int, 0 ≤ j → j < n1 → (uo.2.2.2.1 ((uo.1 + (uo.2.1 - 1)) % 6).toNat).2.2.2 j = g1 j)) (fun uo => [bBD G x st sv bu di se wy ta tt rp, bState G st t0 t1 al, bText G t0 a0 n0 g0, bText G t1 a1 n1 (up g1 i v), bSaved G sv sa uo.1 uo.2.1 uo.2.2.1, bPool G uo.2.2.2.1 uo.2.2.2.2]) := by
  refine cof (by decide) (Nat.le_of_ble_eq_true rfl) ?_
  intro p e s m args below meth c A ls hx hb hr hml hown hts hlocks hin hA hK hP hD hS hl Q hQ
  have hown : s.vm.findClass RX8 = some m.cls := hown
  have hl : lv_has ls 6 [(0, .ref x), (1, .int (jz z)), (2, .int (jz i)), (3, .int (jz v))] := hl
  have KH : ∀ (H : Heap) (locs : List Loc), wP G [bBD G x st sv bu di se wy ta tt rp, bState G st t0 t1 al, bText G t0 a0 n0 g0, bText G t1 a1 n1 g1, bSaved G sv sa od sz f, bPool G ph kp] H → wD A [bBD G x st sv bu di se wy ta tt rp, bState G st t0 t1 al, bText G t0 a0 n0 g0, bText G t1 a1 n1 g1, bSaved G sv sa od sz f, bPool G ph kp] → va_S A s.heap H locs → W p l e rmX8_replace_1_k s m args below meth c H locs 0 0 Q (F0 m 0 ls []) := by
    intro H locs hP hD hS
    refine lv_aload_n hx hb dX8_replace_0 rfl (lv_at hl 0 rfl) ?_
    refine lv_iload_n hx hb dX8_replace_1 rfl (lv_at hl 1 rfl) ?_
    refine kV ⟨hx, hb, hml, hown, hts⟩ hK hA hS hP hD [.int (jz z)] [] (mX8_textOf_1 l G x st sv bu di se wy ta tt rp t0 t1 al z (by omega)) lkX8_100 [0, 1] [2, 3, 4, 5] (br := [bText G t0 a0 n0 g0, bText G t1 a1 n1 g1, bSaved G sv sa od sz f, bPool G ph kp]) rfl rfl (by decide) 0 8 rfl rfl rfl rfl (Nat.le_of_ble_eq_true rfl) hl.1 dX8_replace_2 ⟨Nat.le_of_ble_eq_true rfl, Nat.le_of_ble_eq_true rfl⟩ ⟨Nat.le_of_ble_eq_true rfl, Nat.le_of_ble_eq_true rfl⟩ (fun u9 H locs hp9 hP hD hS => ?_)
    have hP : wP G [bText G t0 a0 n0 g0, bText G t1 a1 n1 g1, bSaved G sv sa od sz f, bPool G ph kp, bBD G x st sv bu di se wy ta tt rp, bState G st t0 t1 al] H := hP
    have hD : wD A [bText G t0 a0 n0 g0, bText G t1 a1 n1 g1, bSaved G sv sa od sz f, bPool G ph kp, bBD G x st sv bu di se wy ta tt rp, bState G st t0 t1 al] := hD
    have hP : wP G [bText G t0 a0 n0 g0, bText G t1 a1 n1 g1, bSaved G sv sa od sz f, bBD G x st sv bu di se wy ta tt rp, bState G st t0 t1 al, bPool G ph kp] H := wP_sub hP [0, 1, 2, 4, 5, 3] rfl
    have hD : wD A [bText G t0 a0 n0 g0, bText G t1 a1 n1 g1, bSaved G sv sa od sz f, bBD G x st sv bu di se wy ta tt rp, bState G st t0 t1 al, bPool G ph kp] := wD_sub hD [0, 1, 2, 4, 5, 3] (by decide) rfl
    show W p l e rmX8_replace_1_k s m args below meth c H locs 0 0 Q (F0 m 5 ls [.ref t1])
    refine lv_astore (lv' := [(4, .ref t1), (0, .ref x), (1, .int (jz z)), (2, .int (jz i)), (3, .int (jz v))]) hx hb dX8_replace_5 hl (by decide) rfl (fun ls hl => ?_)
    refine lv_aload hx hb dX8_replace_7 (lv_at hl 0 rfl) ?_
    refine lv_iload_n hx hb dX8_replace_9 rfl (lv_at hl 3 rfl) ?_
    refine kS ⟨hx, hb, hml, hown, hts⟩ hK hA hS hP hD [.ref t1, .int (jz i)] [] (mX8_checkPlace_k l G t1 a1 n1 g1 i (by omega) (by omega) (by omega)) lkX8_121 [1] [0, 2, 3, 4, 5] (br := [bText G t0 a0 n0 g0, bSaved G sv sa od sz f, bBD G x st sv bu di se wy ta tt rp, bState G st t0 t1 al, bPool G ph kp]) rfl rfl (by decide) rfl rfl (Nat.le_of_ble_eq_true rfl) hl.1 dX8_replace_10 ⟨Nat.le_of_ble_eq_true rfl, Nat.le_of_ble_eq_true rfl⟩ ⟨Nat.le_of_ble_eq_true rfl, Nat.le_of_ble_eq_true rfl⟩ (fun u9 H locs hp9 hP hD hS => ?_)
    have hP : wP G [bText G t0 a0 n0 g0, bSaved G sv sa od sz f, bBD G x st sv bu di se wy ta tt rp, bState G st t0 t1 al, bPool G ph kp, bText G t1 a1 n1 g1] H := hP
    have hD : wD A [bText G t0 a0 n0 g0, bSaved G sv sa od sz f, bBD G x st sv bu di se wy ta tt rp, bState G st t0 t1 al, bPool G ph kp, bText G t1 a1 n1 g1] := hD
    have hP : wP G [bText G t0 a0 n0 g0, bSaved G sv sa od sz f, bBD G x st sv bu di se wy ta tt rp, bState G st t0 t1 al, bText G t1 a1 n1 g1, bPool G ph kp] H := wP_sub hP [0, 1, 2, 3, 5, 4] rfl
    have hD : wD A [bText G t0 a0 n0 g0, bSaved G sv sa od sz f, bBD G x st sv bu di se wy ta tt rp, bState G st t0 t1 al, bText G t1 a1 n1 g1, bPool G ph kp] := wD_sub hD [0, 1, 2, 3, 5, 4] (by decide) rfl
    show W p l e rmX8_replace_1_k s m args below meth c H locs 0 0 Q (F0 m 13 ls [])
    refine lv_aload_n hx hb dX8_replace_13 rfl (lv_at hl 1 rfl) ?_
    refine lv_iload_n hx hb dX8_replace_14 rfl (lv_at hl 4 rfl) ?_
    refine kV ⟨hx, hb, hml, hown, hts⟩ hK hA hS hP hD [.int (jz v)] [] (mX8_checkLetter_k l G x st sv bu di se wy ta tt rp t0 t1 al v (by omega) (by omega) (by omega)) lkX8_108 [2, 3] [0, 1, 4, 5] (br := [bText G t0 a0 n0 g0, bSaved G sv sa od sz f, bText G t1 a1 n1 g1, bPool G ph kp]) rfl rfl (by decide) 0 8 rfl rfl rfl rfl (Nat.le_of_ble_eq_true rfl) hl.1 dX8_replace_15 ⟨Nat.le_of_ble_eq_true rfl, Nat.le_of_ble_eq_true rfl⟩ ⟨Nat.le_of_ble_eq_true rfl, Nat.le_of_ble_eq_true rfl⟩ (fun u9 H locs hp9 hP hD hS => ?_)
    have hP : wP G [bText G t0 a0 n0 g0, bSaved G sv sa od sz f, bText G t1 a1 n1 g1, bPool G ph kp, bBD G x st sv bu di se wy ta tt rp, bState G st t0 t1 al] H := hP
    have hD : wD A [bText G t0 a0 n0 g0, bSaved G sv sa od sz f, bText G t1 a1 n1 g1, bPool G ph kp, bBD G x st sv bu di se wy ta tt rp, bState G st t0 t1 al] := hD
    have hP : wP G [bText G t0 a0 n0 g0, bSaved G sv sa od sz f, bText G t1 a1 n1 g1, bBD G x st sv bu di se wy ta tt rp, bState G st t0 t1 al, bPool G ph kp] H := wP_sub hP [0, 1, 2, 4, 5, 3] rfl
    have hD : wD A [bText G t0 a0 n0 g0, bSaved G sv sa od sz f, bText G t1 a1 n1 g1, bBD G x st sv bu di se wy ta tt rp, bState G st t0 t1 al, bPool G ph kp] := wD_sub hD [0, 1, 2, 4, 5, 3] (by decide) rfl
    show W p l e rmX8_replace_1_k s m args below meth c H locs 0 0 Q (F0 m 18 ls [])
    refine lv_aload_n hx hb dX8_replace_18 rfl (lv_at hl 1 rfl) ?_
    refine va_get (ci := 8) (v := .ref sv) (C := RX8) (T := TX8) (N := 9) hx hb hts wfX8 hown hK.1 hP 6 rfl rfl 1 (by decide) (hts _ wm167) (fun _ h9 => h9) rfl dX8_replace_19 ?_
    refine lv_aload_n hx hb dX8_replace_22 rfl (lv_at hl 1 rfl) ?_
    refine va_get (ci := 8) (v := .ref st) (C := RX8) (T := TX8) (N := 9) hx hb hts wfX8 hown hK.1 hP 6 rfl rfl 0 (by decide) (hts _ wm166) (fun _ h9 => h9) rfl dX8_replace_23 ?_
    refine kV ⟨hx, hb, hml, hown, hts⟩ hK hA hS hP hD [.ref st] [] (mX4_save l G sv sa od sz f ph kp st t0 t1 al a0 n0 g0 a1 n1 g1 (by omega) (by omega) (by omega) (by omega) (by omega) (by omega) (by exact hf)) lkX8_83 [1, 4, 0, 2, 5] [3] (br := [bBD G x st sv bu di se wy ta tt rp]) rfl rfl (by decide) 0 4 rfl rfl rfl rfl (Nat.le_of_ble_eq_true rfl) hl.1 dX8_replace_26 ⟨Nat.le_of_ble_eq_true rfl, Nat.le_of_ble_eq_true rfl⟩ ⟨Nat.le_of_ble_eq_true rfl, Nat.le_of_ble_eq_true rfl⟩ (fun u9 H locs hp9 hP hD hS => ?_)
    obtain ⟨u_4, u_5, u_6, u_7, u_8⟩ := u9
    have ha_9 : (sz < 6 → u_4 = od ∧ u_5 = sz + 1) ∧ (sz = 6 → u_4 = (od + 1) % 6 ∧ u_5 = 6) := hp9.1
    have hb_10 : (u_8 = kp ∨ u_8 = kp + 1) ∧ (u_8 : Int) ≤ 6 ∧ u_5 ≤ u_8 ∧ (u_4 = 0 ∨ u_8 = 6) := hp9.2.1
    have hf_11 : ∀ z : Int, 0 ≤ z → z < 6 → u_6 z = if z < u_8 then some (u_7 z.toNat).1.1 else none := hp9.2.2.1
    have hp_12 : ∀ i : Nat, (i : Int) ≠ (u_4 + (u_5 - 1)) % 6 → i < kp → u_7 i = ph i := hp9.2.2.2.1
    have hq_13 : (u_7 ((u_4 + (u_5 - 1)) % 6).toNat).2.1 = (al, n0, n1) := hp9.2.2.2.2.1
    have hr_14 : ∀ j : Int, 0 ≤ j → j < n0 → (u_7 ((u_4 + (u_5 - 1)) % 6).toNat).2.2.1 j = g0 j := hp9.2.2.2.2.2.1
    have hs_15 : ∀ j : Int, 0 ≤ j → j < n1 → (u_7 ((u_4 + (u_5 - 1)) % 6).toNat).2.2.2 j = g1 j := hp9.2.2.2.2.2.2
    have hP : wP G [bBD G x st sv bu di se wy ta tt rp, bSaved G sv sa u_4 u_5 u_6, bState G st t0 t1 al, bText G t0 a0 n0 g0, bText G t1 a1 n1 g1, bPool G u_7 u_8] H := hP
    have hD : wD A [bBD G x st sv bu di se wy ta tt rp, bSaved G sv sa u_4 u_5 u_6, bState G st t0 t1 al, bText G t0 a0 n0 g0, bText G t1 a1 n1 g1, bPool G u_7 u_8] := hD
    show W p l e rmX8_replace_1_k s m args below meth c H locs 5 47 Q (F0 m 29 ls [])
    refine lv_aload hx hb dX8_replace_29 (lv_at hl 0 rfl) ?_
    refine lv_iload_n hx hb dX8_replace_31 rfl (lv_at hl 3 rfl) ?_
    refine kV ⟨hx, hb, hml, hown, hts⟩ hK hA hS hP hD [.int (jz i)] [] (mX6_at_in l G t1 a1 n1 g1 i (by omega) (by omega)) lkX8_125 [4] [0, 1, 2, 3, 5] (br := [bBD G x st sv bu di se wy ta tt rp, bSaved G sv sa u_4 u_5 u_6, bState G st t0 t1 al, bText G t0 a0 n0 g0, bPool G u_7 u_8]) rfl rfl (by decide) 0 6 rfl rfl rfl rfl (Nat.le_of_ble_eq_true rfl) hl.1 dX8_replace_32 ⟨Nat.le_of_ble_eq_true rfl, Nat.le_of_ble_eq_true rfl⟩ ⟨Nat.le_of_ble_eq_true rfl, Nat.le_of_ble_eq_true rfl⟩ (fun u9 H locs hp9 hP hD hS => ?_)
    have hP : wP G [bBD G x st sv bu di se wy ta tt rp, bSaved G sv sa u_4 u_5 u_6, bState G st t0 t1 al, bText G t0 a0 n0 g0, bPool G u_7 u_8, bText G t1 a1 n1 g1] H := hP
    have hD : wD A [bBD G x st sv bu di se wy ta tt rp, bSaved G sv sa u_4 u_5 u_6, bState G st t0 t1 al, bText G t0 a0 n0 g0, bPool G u_7 u_8, bText G t1 a1 n1 g1] := hD
    have hP : wP G [bBD G x st sv bu di se wy ta tt rp, bSaved G sv sa u_4 u_5 u_6, bState G st t0 t1 al, bText G t0 a0 n0 g0, bText G t1 a1 n1 g1, bPool G u_7 u_8] H := wP_sub hP [0, 1, 2, 3, 5, 4] rfl
    have hD : wD A [bBD G x st sv bu di se wy ta tt rp, bSaved G sv sa u_4 u_5 u_6, bState G st t0 t1 al, bText G t0 a0 n0 g0, bText G t1 a1 n1 g1, bPool G u_7 u_8] := wD_sub hD [0, 1, 2, 3, 5, 4] (by decide) rfl
    show W p l e rmX8_replace_1_k s m args below meth c H locs 5 47 Q (F0 m 35 ls [.int (jz (g1 i))])
    refine lv_istore (lv' := [(5, .int (jz (g1 i))), (4, .ref t1), (0, .ref x), (1, .int (jz z)), (2, .int (jz i)), (3, .int (jz v))]) hx hb dX8_replace_35 hl (by decide) rfl (fun ls hl => ?_)
    refine lv_aload hx hb dX8_replace_37 (lv_at hl 1 rfl) ?_
    refine lv_iload_n hx hb dX8_replace_39 rfl (lv_at hl 4 rfl) ?_
    refine lv_iload_n hx hb dX8_replace_40 rfl (lv_at hl 5 rfl) ?_
    refine kV ⟨hx, hb, hml, hown, hts⟩ hK hA hS hP hD [.int (jz i), .int (jz v)] [] (mX6_set l G t1 a1 n1 g1 i v (by omega) (by omega)) lkX8_132 [4] [0, 1, 2, 3, 5] (br := [bBD G x st sv bu di se wy ta tt rp, bSaved G sv sa u_4 u_5 u_6, bState G st t0 t1 al, bText G t0 a0 n0 g0, bPool G u_7 u_8]) rfl rfl (by decide) 0 6 rfl rfl rfl rfl (Nat.le_of_ble_eq_true rfl) hl.1 dX8_replace_41 ⟨Nat.le_of_ble_eq_true rfl, Nat.le_of_ble_eq_true rfl⟩ ⟨Nat.le_of_ble_eq_true rfl, Nat.le_of_ble_eq_true rfl⟩ (fun u9 H locs hp9 hP hD hS => ?_)
    have hP : wP G [bBD G x st sv bu di se wy ta tt rp, bSaved G sv sa u_4 u_5 u_6, bState G st t0 t1 al, bText G t0 a0 n0 g0, bPool G u_7 u_8, bText G t1 a1 n1 (up g1 i v)] H := hP
    have hD : wD A [bBD G x st sv bu di se wy ta tt rp, bSaved G sv sa u_4 u_5 u_6, bState G st t0 t1 al, bText G t0 a0 n0 g0, bPool G u_7 u_8, bText G t1 a1 n1 (up g1 i v)] := hD
    have hP : wP G [bBD G x st sv bu di se wy ta tt rp, bSaved G sv sa u_4 u_5 u_6, bState G st t0 t1 al, bText G t0 a0 n0 g0, bText G t1 a1 n1 (up g1 i v), bPool G u_7 u_8] H := wP_sub hP [0, 1, 2, 3, 5, 4] rfl
    have hD : wD A [bBD G x st sv bu di se wy ta tt rp, bSaved G sv sa u_4 u_5 u_6, bState G st t0 t1 al, bText G t0 a0 n0 g0, bText G t1 a1 n1 (up g1 i v), bPool G u_7 u_8] := wD_sub hD [0, 1, 2, 3, 5, 4] (by decide) rfl
    show W p l e rmX8_replace_1_k s m args below meth c H locs 5 47 Q (F0 m 44 ls [])
    refine lv_iload hx hb dX8_replace_44 (lv_at hl 0 rfl) ?_
    exact cret_i hx hb hr hlocks hS hP hD (Nat.le_of_ble_eq_true rfl) (Nat.le_of_ble_eq_true rfl) rfl dX8_replace_46 [0, 2, 3, 4, 1, 5] (by decide) ⟨u_4, u_5, u_6, u_7, u_8⟩ rfl ⟨(show (sz < 6 → u_4 = od ∧ u_5 = sz + 1) ∧ (sz = 6 → u_4 = (od + 1) % 6 ∧ u_5 = 6) from ha_9), (show (u_8 = kp ∨ u_8 = kp + 1) ∧ (u_8 : Int) ≤ 6 ∧ u_5 ≤ u_8 ∧ (u_4 = 0 ∨ u_8 = 6) from hb_10), (show ∀ z : Int, 0 ≤ z → z < 6 → u_6 z = if z < u_8 then some (u_7 z.toNat).1.1 else none from hf_11), (show ∀ i : Nat, (i : Int) ≠ (u_4 + (u_5 - 1)) % 6 → i < kp → u_7 i = ph i from hp_12), (show (u_7 ((u_4 + (u_5 - 1)) % 6).toNat).2.1 = (al, n0, n1) from hq_13), (show ∀ j : Int, 0 ≤ j → j < n0 → (u_7 ((u_4 + (u_5 - 1)) % 6).toNat).2.2.1 j = g0 j from hr_14), (show ∀ j : Int, 0 ≤ j → j < n1 → (u_7 ((u_4 + (u_5 - 1)) % 6).toNat).2.2.2 j = g1 j from hs_15)⟩ (congrArg (fun z : Int => some (Value.int (jz z))) (show (g1 i) = g1 i from by first | rfl | omega | (split <;> first | rfl | omega | (exfalso; omega)))) hQ
  exact KH s.heap [] hP hD hS
abbrev rmX8_ifReplaced_1_k : Room := { frames := 4, cells := 0, slots := 0, locals := 92 }
set_option maxHeartbeats 4000000 in
set_option maxRecDepth 100000 in
theorem mX8_ifReplaced_1_k (l : Launch) (G : GG) (x : Nat) (st : Nat) (sv : Nat) (bu : Nat) (di : Nat) (se : Nat) (wy : Nat) (ta : Nat) (tt : Nat) (rp : Nat) (t0 : Nat) (t1 : Nat) (al : Int) (a0 : Nat) (n0 : Int) (g0 : Int → Int) (a1 : Nat) (n1 : Int) (g1 : Int → Int) (q : Nat) (q2 : Nat) (ct : Nat) (ot : Nat) (b : Nat) (h : Int → Int) (b2 : Nat) (h2 : Int → Int) (ca : Nat) (cn : Int) (cg : Int → Int) (oa : Nat) (on : Int) (og : Int → Int) (z : Int) (i : Int) (v : Int) (hn0 : 0 ≤ n0 ∧ n0 ≤ 20) (hn1 : 0 ≤ n1 ∧ n1 ≤ 20) (hg0 : ∀ j : Int, 0 ≤ j → j < n0 → 0 ≤ g0 j ∧ g0 j < 4) (hg1 : ∀ j : Int, 0 ≤ j → j < n1 → 0 ≤ g1 j ∧ g1 j < 4) (hal : 2 ≤ al ∧ al ≤ 4) (hz : z = 1) (hi : jr i) (hv : jr v) (hk9 : (0 ≤ i ∧ i < n1) ∧ (0 ≤ v ∧ v < al)) : Ct l yX8_ifReplaced cX8_ifReplaced 6 (some .int) rmX8_ifReplaced_1_k G [.ref x, .int (jz z), .int (jz i), .int (jz v)] [bBD G x st sv bu di se wy ta tt rp, bState G st t0 t1 al, bText G t0 a0 n0 g0, bText G t1 a1 n1 g1, bRep G rp q q2 ct ot, bGrid G q b h, bGrid G q2 b2 h2, bText G ct ca cn cg, bText G ot oa on og] (fun uo : (Int → Int) × (Int → Int) × (Int → Int) × (Int → Int) => some (.int (jz (D 1 (up g1 i v) g0 n1 n0)))) (fun uo => True) (fun uo => [bBD G x st sv bu di se wy ta tt rp, bState G st t0 t1 al, bText G t0 a0 n0 g0, bText G t1 a1 n1 g1, bRep G rp q q2 ct ot, bGrid G q b uo.1, bGrid G q2 b2 uo.2.1, bText G ct ca n1 uo.2.2.1, bText G ot oa n0 uo.2.2.2]) := by
  refine cof (by decide) (Nat.le_of_ble_eq_true rfl) ?_
  intro p e s m args below meth c A ls hx hb hr hml hown hts hlocks hin hA hK hP hD hS hl Q hQ
  have hown : s.vm.findClass RX8 = some m.cls := hown
  have hl : lv_has ls 6 [(0, .ref x), (1, .int (jz z)), (2, .int (jz i)), (3, .int (jz v))] := hl
  have KH : ∀ (H : Heap) (locs : List Loc), wP G [bBD G x st sv bu di se wy ta tt rp, bState G st t0 t1 al, bText G t0 a0 n0 g0, bText G t1 a1 n1 g1, bRep G rp q q2 ct ot, bGrid G q b h, bGrid G q2 b2 h2, bText G ct ca cn cg, bText G ot oa on og] H → wD A [bBD G x st sv bu di se wy ta tt rp, bState G st t0 t1 al, bText G t0 a0 n0 g0, bText G t1 a1 n1 g1, bRep G rp q q2 ct ot, bGrid G q b h, bGrid G q2 b2 h2, bText G ct ca cn cg, bText G ot oa on og] → va_S A s.heap H locs → W p l e rmX8_ifReplaced_1_k s m args below meth c H locs 0 0 Q (F0 m 0 ls []) := by
    intro H locs hP hD hS
    refine lv_aload_n hx hb dX8_ifReplaced_0 rfl (lv_at hl 0 rfl) ?_
    refine lv_iload_n hx hb dX8_ifReplaced_1 rfl (lv_at hl 1 rfl) ?_
    refine kV ⟨hx, hb, hml, hown, hts⟩ hK hA hS hP hD [.int (jz z)] [] (mX8_textOf_1 l G x st sv bu di se wy ta tt rp t0 t1 al z (by omega)) lkX8_100 [0, 1] [2, 3, 4, 5, 6, 7, 8] (br := [bText G t0 a0 n0 g0, bText G t1 a1 n1 g1, bRep G rp q q2 ct ot, bGrid G q b h, bGrid G q2 b2 h2, bText G ct ca cn cg, bText G ot oa on og]) rfl rfl (by decide) 0 8 rfl rfl rfl rfl (Nat.le_of_ble_eq_true rfl) hl.1 dX8_ifReplaced_2 ⟨Nat.le_of_ble_eq_true rfl, Nat.le_of_ble_eq_true rfl⟩ ⟨Nat.le_of_ble_eq_true rfl, Nat.le_of_ble_eq_true rfl⟩ (fun u9 H locs hp9 hP hD hS => ?_)
    have hP : wP G [bText G t0 a0 n0 g0, bText G t1 a1 n1 g1, bRep G rp q q2 ct ot, bGrid G q b h, bGrid G q2 b2 h2, bText G ct ca cn cg, bText G ot oa on og, bBD G x st sv bu di se wy ta tt rp, bState G st t0 t1 al] H := hP
    have hD : wD A [bText G t0 a0 n0 g0, bText G t1 a1 n1 g1, bRep G rp q q2 ct ot, bGrid G q b h, bGrid G q2 b2 h2, bText G ct ca cn cg, bText G ot oa on og, bBD G x st sv bu di se wy ta tt rp, bState G st t0 t1 al] := hD
    show W p l e rmX8_ifReplaced_1_k s m args below meth c H locs 0 0 Q (F0 m 5 ls [.ref t1])
    refine lv_astore (lv' := [(4, .ref t1), (0, .ref x), (1, .int (jz z)), (2, .int (jz i)), (3, .int (jz v))]) hx hb dX8_ifReplaced_5 hl (by decide) rfl (fun ls hl => ?_)
    refine lv_aload hx hb dX8_ifReplaced_7 (lv_at hl 0 rfl) ?_
    refine lv_iload_n hx hb dX8_ifReplaced_9 rfl (lv_at hl 3 rfl) ?_
    refine kS ⟨hx, hb, hml, hown, hts⟩ hK hA hS hP hD [.ref t1, .int (jz i)] [] (mX8_checkPlace_k l G t1 a1 n1 g1 i (by omega) (by omega) (by omega)) lkX8_121 [1] [0, 2, 3, 4, 5, 6, 7, 8] (br := [bText G t0 a0 n0 g0, bRep G rp q q2 ct ot, bGrid G q b h, bGrid G q2 b2 h2, bText G ct ca cn cg, bText G ot oa on og, bBD G x st sv bu di se wy ta tt rp, bState G st t0 t1 al]) rfl rfl (by decide) rfl rfl (Nat.le_of_ble_eq_true rfl) hl.1 dX8_ifReplaced_10 ⟨Nat.le_of_ble_eq_true rfl, Nat.le_of_ble_eq_true rfl⟩ ⟨Nat.le_of_ble_eq_true rfl, Nat.le_of_ble_eq_true rfl⟩ (fun u9 H locs hp9 hP hD hS => ?_)
    have hP : wP G [bText G t0 a0 n0 g0, bRep G rp q q2 ct ot, bGrid G q b h, bGrid G q2 b2 h2, bText G ct ca cn cg, bText G ot oa on og, bBD G x st sv bu di se wy ta tt rp, bState G st t0 t1 al, bText G t1 a1 n1 g1] H := hP
    have hD : wD A [bText G t0 a0 n0 g0, bRep G rp q q2 ct ot, bGrid G q b h, bGrid G q2 b2 h2, bText G ct ca cn cg, bText G ot oa on og, bBD G x st sv bu di se wy ta tt rp, bState G st t0 t1 al, bText G t1 a1 n1 g1] := hD
    show W p l e rmX8_ifReplaced_1_k s m args below meth c H locs 0 0 Q (F0 m 13 ls [])
    refine lv_aload_n hx hb dX8_ifReplaced_13 rfl (lv_at hl 1 rfl) ?_
    refine lv_iload_n hx hb dX8_ifReplaced_14 rfl (lv_at hl 4 rfl) ?_
    refine kV ⟨hx, hb, hml, hown, hts⟩ hK hA hS hP hD [.int (jz v)] [] (mX8_checkLetter_k l G x st sv bu di se wy ta tt rp t0 t1 al v (by omega) (by omega) (by omega)) lkX8_108 [6, 7] [0, 1, 2, 3, 4, 5, 8] (br := [bText G t0 a0 n0 g0, bRep G rp q q2 ct ot, bGrid G q b h, bGrid G q2 b2 h2, bText G ct ca cn cg, bText G ot oa on og, bText G t1 a1 n1 g1]) rfl rfl (by decide) 0 8 rfl rfl rfl rfl (Nat.le_of_ble_eq_true rfl) hl.1 dX8_ifReplaced_15 ⟨Nat.le_of_ble_eq_true rfl, Nat.le_of_ble_eq_true rfl⟩ ⟨Nat.le_of_ble_eq_true rfl, Nat.le_of_ble_eq_true rfl⟩ (fun u9 H locs hp9 hP hD hS => ?_)
    have hP : wP G [bText G t0 a0 n0 g0, bRep G rp q q2 ct ot, bGrid G q b h, bGrid G q2 b2 h2, bText G ct ca cn cg, bText G ot oa on og, bText G t1 a1 n1 g1, bBD G x st sv bu di se wy ta tt rp, bState G st t0 t1 al] H := hP
    have hD : wD A [bText G t0 a0 n0 g0, bRep G rp q q2 ct ot, bGrid G q b h, bGrid G q2 b2 h2, bText G ct ca cn cg, bText G ot oa on og, bText G t1 a1 n1 g1, bBD G x st sv bu di se wy ta tt rp, bState G st t0 t1 al] := hD
    show W p l e rmX8_ifReplaced_1_k s m args below meth c H locs 0 0 Q (F0 m 18 ls [])
    refine lv_aload_n hx hb dX8_ifReplaced_18 rfl (lv_at hl 1 rfl) ?_
    refine jv_iconst hx hb dX8_ifReplaced_19 ?_
    refine lv_iload_n hx hb dX8_ifReplaced_20 rfl (lv_at hl 2 rfl) ?_
    refine jv_isub hx hb dX8_ifReplaced_21 ?_
    refine kV ⟨hx, hb, hml, hown, hts⟩ hK hA hS hP hD [.int (jz (1 - z))] [] (mX8_textOf_0 l G x st sv bu di se wy ta tt rp t0 t1 al (1 - z) (by omega)) lkX8_100 [7, 8] [0, 1, 2, 3, 4, 5, 6] (br := [bText G t0 a0 n0 g0, bRep G rp q q2 ct ot, bGrid G q b h, bGrid G q2 b2 h2, bText G ct ca cn cg, bText G ot oa on og, bText G t1 a1 n1 g1]) rfl rfl (by decide) 0 8 rfl rfl rfl rfl (Nat.le_of_ble_eq_true rfl) hl.1 dX8_ifReplaced_22 ⟨Nat.le_of_ble_eq_true rfl, Nat.le_of_ble_eq_true rfl⟩ ⟨Nat.le_of_ble_eq_true rfl, Nat.le_of_ble_eq_true rfl⟩ (fun u9 H locs hp9 hP hD hS => ?_)
    have hP : wP G [bText G t0 a0 n0 g0, bRep G rp q q2 ct ot, bGrid G q b h, bGrid G q2 b2 h2, bText G ct ca cn cg, bText G ot oa on og, bText G t1 a1 n1 g1, bBD G x st sv bu di se wy ta tt rp, bState G st t0 t1 al] H := hP
    have hD : wD A [bText G t0 a0 n0 g0, bRep G rp q q2 ct ot, bGrid G q b h, bGrid G q2 b2 h2, bText G ct ca cn cg, bText G ot oa on og, bText G t1 a1 n1 g1, bBD G x st sv bu di se wy ta tt rp, bState G st t0 t1 al] := hD
    show W p l e rmX8_ifReplaced_1_k s m args below meth c H locs 0 0 Q (F0 m 25 ls [.ref t0])
    refine lv_astore (lv' := [(5, .ref t0), (4, .ref t1), (0, .ref x), (1, .int (jz z)), (2, .int (jz i)), (3, .int (jz v))]) hx hb dX8_ifReplaced_25 hl (by decide) rfl (fun ls hl => ?_)
    refine lv_aload_n hx hb dX8_ifReplaced_27 rfl (lv_at hl 2 rfl) ?_
    refine va_get (ci := 8) (v := .ref rp) (C := RX8) (T := TX8) (N := 9) hx hb hts wfX8 hown hK.1 hP 13 rfl rfl 8 (by decide) (hts _ wm174) (fun _ h9 => h9) rfl dX8_ifReplaced_28 ?_
    refine lv_aload hx hb dX8_ifReplaced_31 (lv_at hl 1 rfl) ?_
    refine lv_aload hx hb dX8_ifReplaced_33 (lv_at hl 0 rfl) ?_
    refine kV ⟨hx, hb, hml, hown, hts⟩ hK hA hS hP hD [.ref t1, .ref t0] [] (mX3_prepare l G rp q q2 ct ot b h b2 h2 ca cn cg oa on og t1 a1 n1 g1 t0 a0 n0 g0 (by omega) (by omega) (by exact hg1) (by exact hg0)) lkX8_214 [1, 2, 3, 4, 5, 6, 0] [7, 8] (br := [bBD G x st sv bu di se wy ta tt rp, bState G st t0 t1 al]) rfl rfl (by decide) 0 3 rfl rfl rfl rfl (Nat.le_of_ble_eq_true rfl) hl.1 dX8_ifReplaced_35 ⟨Nat.le_of_ble_eq_true rfl, Nat.le_of_ble_eq_true rfl⟩ ⟨Nat.le_of_ble_eq_true rfl, Nat.le_of_ble_eq_true rfl⟩ (fun u9 H locs hp9 hP hD hS => ?_)
    obtain ⟨u_5, u_6, u_7, u_8⟩ := u9
    have hc_9 : ∀ x y : Int, 0 ≤ x → x ≤ n1 → 0 ≤ y → y ≤ n0 → u_5 (x * 21 + y) = D 1 g1 g0 x y := hp9.1
    have hd_10 : ∀ x y : Int, 0 ≤ x → x ≤ n1 → 0 ≤ y → y ≤ n0 → u_6 (x * 21 + y) = D 1 (rv g1 n1) (rv g0 n0) x y := hp9.2
    have hP : wP G [bBD G x st sv bu di se wy ta tt rp, bState G st t0 t1 al, bRep G rp q q2 ct ot, bGrid G q b u_5, bGrid G q2 b2 u_6, bText G ct ca n1 u_7, bText G ot oa n0 u_8, bText G t1 a1 n1 g1, bText G t0 a0 n0 g0] H := hP
    have hD : wD A [bBD G x st sv bu di se wy ta tt rp, bState G st t0 t1 al, bRep G rp q q2 ct ot, bGrid G q b u_5, bGrid G q2 b2 u_6, bText G ct ca n1 u_7, bText G ot oa n0 u_8, bText G t1 a1 n1 g1, bText G t0 a0 n0 g0] := hD
    show W p l e rmX8_ifReplaced_1_k s m args below meth c H locs 0 0 Q (F0 m 38 ls [])
    have hp1 := hc_9
    have hp2 := hd_10
    refine lv_aload_n hx hb dX8_ifReplaced_38 rfl (lv_at hl 2 rfl) ?_
    refine va_get (ci := 8) (v := .ref rp) (C := RX8) (T := TX8) (N := 9) hx hb hts wfX8 hown hK.1 hP 0 rfl rfl 8 (by decide) (hts _ wm174) (fun _ h9 => h9) rfl dX8_ifReplaced_39 ?_
    refine lv_aload hx hb dX8_ifReplaced_42 (lv_at hl 1 rfl) ?_
    refine lv_aload hx hb dX8_ifReplaced_44 (lv_at hl 0 rfl) ?_
    refine lv_iload_n hx hb dX8_ifReplaced_46 rfl (lv_at hl 4 rfl) ?_
    refine lv_iload_n hx hb dX8_ifReplaced_47 rfl (lv_at hl 5 rfl) ?_
    refine kV ⟨hx, hb, hml, hown, hts⟩ hK hA hS hP hD [.ref t1, .ref t0, .int (jz i), .int (jz v)] [] (mX3_distanceWith l G rp q q2 ct ot b u_5 b2 u_6 t1 a1 n1 g1 t0 a0 n0 g0 i v (by omega) (by omega) (by exact hg1) (by exact hg0) (by omega) (by omega) (by exact hp1) (by exact hp2)) lkX8_217 [2, 3, 4, 7, 8] [0, 1, 5, 6] (br := [bBD G x st sv bu di se wy ta tt rp, bState G st t0 t1 al, bText G ct ca n1 u_7, bText G ot oa n0 u_8]) rfl rfl (by decide) 0 3 rfl rfl rfl rfl (Nat.le_of_ble_eq_true rfl) hl.1 dX8_ifReplaced_48 ⟨Nat.le_of_ble_eq_true rfl, Nat.le_of_ble_eq_true rfl⟩ ⟨Nat.le_of_ble_eq_true rfl, Nat.le_of_ble_eq_true rfl⟩ (fun u9 H locs hp9 hP hD hS => ?_)
    have hP : wP G [bBD G x st sv bu di se wy ta tt rp, bState G st t0 t1 al, bText G ct ca n1 u_7, bText G ot oa n0 u_8, bRep G rp q q2 ct ot, bGrid G q b u_5, bGrid G q2 b2 u_6, bText G t1 a1 n1 g1, bText G t0 a0 n0 g0] H := hP
    have hD : wD A [bBD G x st sv bu di se wy ta tt rp, bState G st t0 t1 al, bText G ct ca n1 u_7, bText G ot oa n0 u_8, bRep G rp q q2 ct ot, bGrid G q b u_5, bGrid G q2 b2 u_6, bText G t1 a1 n1 g1, bText G t0 a0 n0 g0] := hD
    show W p l e rmX8_ifReplaced_1_k s m args below meth c H locs 0 0 Q (F0 m 51 ls [.int (jz (D 1 (up g1 i v) g0 n1 n0))])
    exact cret_i hx hb hr hlocks hS hP hD (Nat.le_of_ble_eq_true rfl) (Nat.le_of_ble_eq_true rfl) rfl dX8_ifReplaced_51 [0, 1, 8, 7, 4, 5, 6, 2, 3] (by decide) ⟨u_5, u_6, u_7, u_8⟩ rfl trivial (congrArg (fun z : Int => some (Value.int (jz z))) (show (D 1 (up g1 i v) g0 n1 n0) = D 1 (up g1 i v) g0 n1 n0 from by first | rfl | omega | (split <;> first | rfl | omega | (exfalso; omega)))) hQ
  exact KH s.heap [] hP hD hS
