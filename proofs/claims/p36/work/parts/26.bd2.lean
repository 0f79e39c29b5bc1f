abbrev rmX8_within : Room := { frames := 7, cells := 1, slots := 6, locals := 120 }
set_option maxHeartbeats 4000000 in
set_option maxRecDepth 100000 in
theorem mX8_within (l : Launch) (hl0 : l.stackTraces = false) (G : GG) (x : Nat) (st : Nat) (sv : Nat) (bu : Nat) (di : Nat) (se : Nat) (wy : Nat) (ta : Nat) (tt : Nat) (rp : Nat) (t0 : Nat) (t1 : Nat) (al : Int) (a0 : Nat) (n0 : Int) (g0 : Int → Int) (a1 : Nat) (n1 : Int) (g1 : Int → Int) (db : Nat) (dh : Int → Int) (z : Int) (hn0 : 0 ≤ n0 ∧ n0 ≤ 20) (hn1 : 0 ≤ n1 ∧ n1 ≤ 20) (hg0 : ∀ j : Int, 0 ≤ j → j < n0 → 0 ≤ g0 j ∧ g0 j < 4) (hg1 : ∀ j : Int, 0 ≤ j → j < n1 → 0 ≤ g1 j ∧ g1 j < 4) (hz : jr z) : Xt l yX8_within cX8_within 3 (some .int) rmX8_within G [.ref x, .int (jz z)] [bBD G x st sv bu di se wy ta tt rp, bState G st t0 t1 al, bText G t0 a0 n0 g0, bText G t1 a1 n1 g1, bGrid G di db dh] (fun uo : (Int → Int) => some (.int (jz (if D 1 g0 g1 n0 n1 ≤ z then D 1 g0 g1 n0 n1 else -1)))) (fun uo => (0 ≤ z ∧ z ≤ 20)) (fun uo => [bBD G x st sv bu di se wy ta tt rp, bState G st t0 t1 al, bText G t0 a0 n0 g0, bText G t1 a1 n1 g1, bGrid G di db uo]) (fun E => E = "java/lang/IllegalArgumentException" ∧ ¬ (0 ≤ z ∧ z ≤ 20)) := by
  refine xof (by decide) (Nat.le_of_ble_eq_true rfl) ?_
  intro p e s m args below meth c A ls hx hb hr hml hown hts hlocks hin hA hK hP hD hS hl hX hout Q hQ
  have hown : s.vm.findClass RX8 = some m.cls := hown
  have hl : lv_has ls 3 [(0, .ref x), (1, .int (jz z))] := hl
  have KH : ∀ (H : Heap) (locs : List Loc), wP G [bBD G x st sv bu di se wy ta tt rp, bState G st t0 t1 al, bText G t0 a0 n0 g0, bText G t1 a1 n1 g1, bGrid G di db dh] H → wD A [bBD G x st sv bu di se wy ta tt rp, bState G st t0 t1 al, bText G t0 a0 n0 g0, bText G t1 a1 n1 g1, bGrid G di db dh] → va_S A s.heap H locs → W p l e rmX8_within s m args below meth c H locs 0 0 Q (F0 m 0 ls []) := by
    intro H locs hP hD hS
    have hdb := D_bd (c := 1) (Or.inr rfl) g0 g1 (i := n0) (j := n1) (by omega) (by omega)
    refine lv_iload_n hx hb dX8_within_0 rfl (lv_at hl 1 rfl) ?_
    refine xkS ⟨hx, hb, hml, hown, hts⟩ hK hA hS hP hD [.int (jz z)] [] (mX8_checkBound l hl0 G z (by omega)) lkX8_170 [] [0, 1, 2, 3, 4] (br := [bBD G x st sv bu di se wy ta tt rp, bState G st t0 t1 al, bText G t0 a0 n0 g0, bText G t1 a1 n1 g1, bGrid G di db dh]) rfl rfl (by decide) rfl rfl (Nat.le_of_ble_eq_true rfl) hl.1 dX8_within_1 ⟨Nat.le_of_ble_eq_true rfl, Nat.le_of_ble_eq_true rfl⟩ ⟨Nat.le_of_ble_eq_true rfl, Nat.le_of_ble_eq_true rfl⟩ hX (fun E ce q9 H locs hE hP hD hS hce hcv hcl => xout hout hlocks hce hcv hcl hS hP hD [0, 1, 2, 3, 4] (by decide) rfl (by exact hE) (Nat.le_of_ble_eq_true rfl) (Nat.le_of_ble_eq_true rfl) hQ) (fun u9 H locs hp9 hP hD hS => ?_)
    have hc_2 : 0 ≤ z ∧ z ≤ 20 := hp9
    have hP : wP G [bBD G x st sv bu di se wy ta tt rp, bState G st t0 t1 al, bText G t0 a0 n0 g0, bText G t1 a1 n1 g1, bGrid G di db dh] H := hP
    have hD : wD A [bBD G x st sv bu di se wy ta tt rp, bState G st t0 t1 al, bText G t0 a0 n0 g0, bText G t1 a1 n1 g1, bGrid G di db dh] := hD
    show W p l e rmX8_within s m args below meth c H locs 1 6 Q (F0 m 4 ls [])
    have hb1 := hc_2
    refine lv_aload_n hx hb dX8_within_4 rfl (lv_at hl 0 rfl) ?_
    refine kV ⟨hx, hb, hml, hown, hts⟩ hK hA hS hP hD [] [] (mX8_distance l G x st sv bu di se wy ta tt rp t0 t1 al a0 n0 g0 a1 n1 g1 db dh (by omega) (by omega) (by exact hg0) (by exact hg1)) lkX8_173 [0, 1, 2, 3, 4] [] (br := []) rfl rfl (by decide) 0 8 rfl rfl rfl rfl (Nat.le_of_ble_eq_true rfl) hl.1 dX8_within_5 ⟨Nat.le_of_ble_eq_true rfl, Nat.le_of_ble_eq_true rfl⟩ ⟨Nat.le_of_ble_eq_true rfl, Nat.le_of_ble_eq_true rfl⟩ (fun u9 H locs hp9 hP hD hS => ?_)
    obtain ⟨u_3, rfl⟩ : ∃ z, z = u9 := ⟨_, rfl⟩
    have hP : wP G [bBD G x st sv bu di se wy ta tt rp, bState G st t0 t1 al, bText G t0 a0 n0 g0, bText G t1 a1 n1 g1, bGrid G di db u_3] H := hP
    have hD : wD A [bBD G x st sv bu di se wy ta tt rp, bState G st t0 t1 al, bText G t0 a0 n0 g0, bText G t1 a1 n1 g1, bGrid G di db u_3] := hD
    show W p l e rmX8_within s m args below meth c H locs 1 6 Q (F0 m 8 ls [.int (jz (D 1 g0 g1 n0 n1))])
    refine lv_istore_n (lv' := [(2, .int (jz (D 1 g0 g1 n0 n1))), (0, .ref x), (1, .int (jz z))]) hx hb dX8_within_8 rfl hl (by decide) rfl (fun ls hl => ?_)
    refine lv_iload_n hx hb dX8_within_9 rfl (lv_at hl 0 rfl) ?_
    refine lv_iload_n hx hb dX8_within_10 rfl (lv_at hl 2 rfl) ?_
    refine jv_icmp_gt (tgt := 18) hx hb dX8_within_11 (by decide) (by omega) (by omega) (fun c_4 => ?_) (fun c_4 => ?_)
    · refine jv_iconst hx hb dX8_within_18 ?_
      rw [hQ]
      exact vx_ret (cret_i hx hb hr hlocks hS hP hD (Nat.le_of_ble_eq_true rfl) (Nat.le_of_ble_eq_true rfl) rfl dX8_within_19 [0, 1, 2, 3, 4] (by decide) u_3 rfl (show 0 ≤ z ∧ z ≤ 20 from hb1) (congrArg (fun z : Int => some (Value.int (jz z))) (show ((-1)) = if D 1 g0 g1 n0 n1 ≤ z then D 1 g0 g1 n0 n1 else -1 from by first | (rw [if_pos (by omega)]) | (rw [if_neg (by omega)]))) rfl)
    · refine lv_iload_n hx hb dX8_within_14 rfl (lv_at hl 0 rfl) ?_
      refine lv_goto (tgt := 19) hx hb dX8_within_15 (by decide) ?_
      rw [hQ]
      exact vx_ret (cret_i hx hb hr hlocks hS hP hD (Nat.le_of_ble_eq_true rfl) (Nat.le_of_ble_eq_true rfl) rfl dX8_within_19 [0, 1, 2, 3, 4] (by decide) u_3 rfl (show 0 ≤ z ∧ z ≤ 20 from hb1) (congrArg (fun z : Int => some (Value.int (jz z))) (show (D 1 g0 g1 n0 n1) = if D 1 g0 g1 n0 n1 ≤ z then D 1 g0 g1 n0 n1 else -1 from by first | (rw [if_pos (by omega)]) | (rw [if_neg (by omega)]))) rfl)
  exact KH s.heap [] hP hD hS
abbrev rmX8_band : Room := { frames := 7, cells := 1, slots := 6, locals := 120 }
set_option maxHeartbeats 4000000 in
set_option maxRecDepth 100000 in
theorem mX8_band (l : Launch) (hl0 : l.stackTraces = false) (G : GG) (x : Nat) (st : Nat) (sv : Nat) (bu : Nat) (di : Nat) (se : Nat) (wy : Nat) (ta : Nat) (tt : Nat) (rp : Nat) (t0 : Nat) (t1 : Nat) (al : Int) (a0 : Nat) (n0 : Int) (g0 : Int → Int) (a1 : Nat) (n1 : Int) (g1 : Int → Int) (z : Int) (hn0 : 0 ≤ n0 ∧ n0 ≤ 20) (hn1 : 0 ≤ n1 ∧ n1 ≤ 20) (hz : jr z) : Xt l yX8_band cX8_band 8 (some .int) rmX8_band G [.ref x, .int (jz z)] [bBD G x st sv bu di se wy ta tt rp, bState G st t0 t1 al, bText G t0 a0 n0 g0, bText G t1 a1 n1 g1] (fun uo : Unit => some (.int (jz (bandI z n1 (n0 + 1))))) (fun uo => (0 ≤ z ∧ z ≤ 20)) (fun uo => [bBD G x st sv bu di se wy ta tt rp, bState G st t0 t1 al, bText G t0 a0 n0 g0, bText G t1 a1 n1 g1]) (fun E => E = "java/lang/IllegalArgumentException" ∧ ¬ (0 ≤ z ∧ z ≤ 20)) := by
  refine xof (by decide) (Nat.le_of_ble_eq_true rfl) ?_
  intro p e s m args below meth c A ls hx hb hr hml hown hts hlocks hin hA hK hP hD hS hl hX hout Q hQ
  have hown : s.vm.findClass RX8 = some m.cls := hown
  have hl : lv_has ls 8 [(0, .ref x), (1, .int (jz z))] := hl
  have KH : ∀ (H : Heap) (locs : List Loc), wP G [bBD G x st sv bu di se wy ta tt rp, bState G st t0 t1 al, bText G t0 a0 n0 g0, bText G t1 a1 n1 g1] H → wD A [bBD G x st sv bu di se wy ta tt rp, bState G st t0 t1 al, bText G t0 a0 n0 g0, bText G t1 a1 n1 g1] → va_S A s.heap H locs → W p l e rmX8_band s m args below meth c H locs 0 0 Q (F0 m 0 ls []) := by
    intro H locs hP hD hS
    refine lv_iload_n hx hb dX8_band_0 rfl (lv_at hl 1 rfl) ?_
    refine xkS ⟨hx, hb, hml, hown, hts⟩ hK hA hS hP hD [.int (jz z)] [] (mX8_checkBound l hl0 G z (by omega)) lkX8_170 [] [0, 1, 2, 3] (br := [bBD G x st sv bu di se wy ta tt rp, bState G st t0 t1 al, bText G t0 a0 n0 g0, bText G t1 a1 n1 g1]) rfl rfl (by decide) rfl rfl (Nat.le_of_ble_eq_true rfl) hl.1 dX8_band_1 ⟨Nat.le_of_ble_eq_true rfl, Nat.le_of_ble_eq_true rfl⟩ ⟨Nat.le_of_ble_eq_true rfl, Nat.le_of_ble_eq_true rfl⟩ hX (fun E ce q9 H locs hE hP hD hS hce hcv hcl => xout hout hlocks hce hcv hcl hS hP hD [0, 1, 2, 3] (by decide) rfl (by exact hE) (Nat.le_of_ble_eq_true rfl) (Nat.le_of_ble_eq_true rfl) hQ) (fun u9 H locs hp9 hP hD hS => ?_)
    have hc_2 : 0 ≤ z ∧ z ≤ 20 := hp9
    have hP : wP G [bBD G x st sv bu di se wy ta tt rp, bState G st t0 t1 al, bText G t0 a0 n0 g0, bText G t1 a1 n1 g1] H := hP
    have hD : wD A [bBD G x st sv bu di se wy ta tt rp, bState G st t0 t1 al, bText G t0 a0 n0 g0, bText G t1 a1 n1 g1] := hD
    show W p l e rmX8_band s m args below meth c H locs 1 6 Q (F0 m 4 ls [])
    have hb1 := hc_2
    refine lv_aload_n hx hb dX8_band_4 rfl (lv_at hl 0 rfl) ?_
    refine va_get (ci := 8) (v := .ref st) (C := RX8) (T := TX8) (N := 9) hx hb hts wfX8 hown hK.1 hP 0 rfl rfl 0 (by decide) (hts _ wm166) (fun _ h9 => h9) rfl dX8_band_5 ?_
    refine jv_iconst hx hb dX8_band_8 ?_
    refine kV ⟨hx, hb, hml, hown, hts⟩ hK hA hS hP hD [.int (jz 0)] [] (mX5_text_0 l G st t0 t1 al 0 (by omega) (by omega)) lkX8_87 [1] [0, 2, 3] (br := [bBD G x st sv bu di se wy ta tt rp, bText G t0 a0 n0 g0, bText G t1 a1 n1 g1]) rfl rfl (by decide) 0 5 rfl rfl rfl rfl (Nat.le_of_ble_eq_true rfl) hl.1 dX8_band_9 ⟨Nat.le_of_ble_eq_true rfl, Nat.le_of_ble_eq_true rfl⟩ ⟨Nat.le_of_ble_eq_true rfl, Nat.le_of_ble_eq_true rfl⟩ (fun u9 H locs hp9 hP hD hS => ?_)
    have hP : wP G [bBD G x st sv bu di se wy ta tt rp, bText G t0 a0 n0 g0, bText G t1 a1 n1 g1, bState G st t0 t1 al] H := hP
    have hD : wD A [bBD G x st sv bu di se wy ta tt rp, bText G t0 a0 n0 g0, bText G t1 a1 n1 g1, bState G st t0 t1 al] := hD
    show W p l e rmX8_band s m args below meth c H locs 1 6 Q (F0 m 12 ls [.ref t0])
    refine kV ⟨hx, hb, hml, hown, hts⟩ hK hA hS hP hD [] [] (mX6_size l G t0 a0 n0 g0 ) lkX8_95 [1] [0, 2, 3] (br := [bBD G x st sv bu di se wy ta tt rp, bText G t1 a1 n1 g1, bState G st t0 t1 al]) rfl rfl (by decide) 0 6 rfl rfl rfl rfl (Nat.le_of_ble_eq_true rfl) hl.1 dX8_band_12 ⟨Nat.le_of_ble_eq_true rfl, Nat.le_of_ble_eq_true rfl⟩ ⟨Nat.le_of_ble_eq_true rfl, Nat.le_of_ble_eq_true rfl⟩ (fun u9 H locs hp9 hP hD hS => ?_)
    have hP : wP G [bBD G x st sv bu di se wy ta tt rp, bText G t1 a1 n1 g1, bState G st t0 t1 al, bText G t0 a0 n0 g0] H := hP
    have hD : wD A [bBD G x st sv bu di se wy ta tt rp, bText G t1 a1 n1 g1, bState G st t0 t1 al, bText G t0 a0 n0 g0] := hD
    show W p l e rmX8_band s m args below meth c H locs 1 6 Q (F0 m 15 ls [.int (jz n0)])
    refine lv_istore_n (lv' := [(2, .int (jz n0)), (0, .ref x), (1, .int (jz z))]) hx hb dX8_band_15 rfl hl (by decide) rfl (fun ls hl => ?_)
    refine lv_aload_n hx hb dX8_band_16 rfl (lv_at hl 1 rfl) ?_
    refine va_get (ci := 8) (v := .ref st) (C := RX8) (T := TX8) (N := 9) hx hb hts wfX8 hown hK.1 hP 0 rfl rfl 0 (by decide) (hts _ wm166) (fun _ h9 => h9) rfl dX8_band_17 ?_
    refine jv_iconst hx hb dX8_band_20 ?_
    refine kV ⟨hx, hb, hml, hown, hts⟩ hK hA hS hP hD [.int (jz 1)] [] (mX5_text_1 l G st t0 t1 al 1 (by omega) (by omega)) lkX8_87 [2] [0, 1, 3] (br := [bBD G x st sv bu di se wy ta tt rp, bText G t1 a1 n1 g1, bText G t0 a0 n0 g0]) rfl rfl (by decide) 0 5 rfl rfl rfl rfl (Nat.le_of_ble_eq_true rfl) hl.1 dX8_band_21 ⟨Nat.le_of_ble_eq_true rfl, Nat.le_of_ble_eq_true rfl⟩ ⟨Nat.le_of_ble_eq_true rfl, Nat.le_of_ble_eq_true rfl⟩ (fun u9 H locs hp9 hP hD hS => ?_)
    have hP : wP G [bBD G x st sv bu di se wy ta tt rp, bText G t1 a1 n1 g1, bText G t0 a0 n0 g0, bState G st t0 t1 al] H := hP
    have hD : wD A [bBD G x st sv bu di se wy ta tt rp, bText G t1 a1 n1 g1, bText G t0 a0 n0 g0, bState G st t0 t1 al] := hD
    show W p l e rmX8_band s m args below meth c H locs 1 6 Q (F0 m 24 ls [.ref t1])
    refine kV ⟨hx, hb, hml, hown, hts⟩ hK hA hS hP hD [] [] (mX6_size l G t1 a1 n1 g1 ) lkX8_95 [1] [0, 2, 3] (br := [bBD G x st sv bu di se wy ta tt rp, bText G t0 a0 n0 g0, bState G st t0 t1 al]) rfl rfl (by decide) 0 6 rfl rfl rfl rfl (Nat.le_of_ble_eq_true rfl) hl.1 dX8_band_24 ⟨Nat.le_of_ble_eq_true rfl, Nat.le_of_ble_eq_true rfl⟩ ⟨Nat.le_of_ble_eq_true rfl, Nat.le_of_ble_eq_true rfl⟩ (fun u9 H locs hp9 hP hD hS => ?_)
    have hP : wP G [bBD G x st sv bu di se wy ta tt rp, bText G t0 a0 n0 g0, bState G st t0 t1 al, bText G t1 a1 n1 g1] H := hP
    have hD : wD A [bBD G x st sv bu di se wy ta tt rp, bText G t0 a0 n0 g0, bState G st t0 t1 al, bText G t1 a1 n1 g1] := hD
    show W p l e rmX8_band s m args below meth c H locs 1 6 Q (F0 m 27 ls [.int (jz n1)])
    refine lv_istore_n (lv' := [(3, .int (jz n1)), (2, .int (jz n0)), (0, .ref x), (1, .int (jz z))]) hx hb dX8_band_27 rfl hl (by decide) rfl (fun ls hl => ?_)
    refine jv_iconst hx hb dX8_band_28 ?_
    refine lv_istore (lv' := [(4, .int (jz 0)), (3, .int (jz n1)), (2, .int (jz n0)), (0, .ref x), (1, .int (jz z))]) hx hb dX8_band_29 hl (by decide) rfl (fun ls hl => ?_)
    refine jv_iconst hx hb dX8_band_31 ?_
    refine lv_istore (lv' := [(5, .int (jz 0)), (4, .int (jz 0)), (3, .int (jz n1)), (2, .int (jz n0)), (0, .ref x), (1, .int (jz z))]) hx hb dX8_band_32 hl (by decide) rfl (fun ls hl => ?_)
    have K34 : ∀ (n9 : Nat) (k : Int) (r : Int) , ((n0 + 1 - k).toNat) < n9 → (0 ≤ k ∧ k ≤ n0 + 1) → (r = bandI z n1 k) → ∀ (H : Heap) (locs : List Loc) (ls : Array Slot), wP G [bBD G x st sv bu di se wy ta tt rp, bText G t0 a0 n0 g0, bState G st t0 t1 al, bText G t1 a1 n1 g1] H → wD A [bBD G x st sv bu di se wy ta tt rp, bText G t0 a0 n0 g0, bState G st t0 t1 al, bText G t1 a1 n1 g1] → va_S A s.heap H locs → lv_has ls 8 [(0, .ref x), (1, .int (jz z)), (2, .int (jz n0)), (3, .int (jz n1)), (4, .int (jz r)), (5, .int (jz k))] → W p l e rmX8_band s m args below meth c H locs 1 6 Q (F0 m 34 ls []) := by
      intro n9
      induction n9 with
      | zero => intro k r hm9; exact absurd hm9 (Nat.not_lt_zero _)
      | succ n9 ih34 =>
        intro k r hm9 hk hr9 H locs ls hP hD hS hl
        refine lv_iload hx hb dX8_band_34 (lv_at hl 5 rfl) ?_
        refine lv_iload_n hx hb dX8_band_36 rfl (lv_at hl 2 rfl) ?_
        refine jv_icmp_gt (tgt := 82) hx hb dX8_band_37 (by decide) (by omega) (by omega) (fun c_7 => ?_) (fun c_7 => ?_)
        · refine lv_iload hx hb dX8_band_82 (lv_at hl 4 rfl) ?_
          rw [hQ]
          exact vx_ret (cret_i hx hb hr hlocks hS hP hD (Nat.le_of_ble_eq_true rfl) (Nat.le_of_ble_eq_true rfl) rfl dX8_band_84 [0, 2, 1, 3] (by decide) () rfl (show 0 ≤ z ∧ z ≤ 20 from hb1) (congrArg (fun z : Int => some (Value.int (jz z))) (show r = bandI z n1 (n0 + 1) from by rw [hr9, show k = n0 + 1 by omega])) rfl)
        · refine jv_iconst hx hb dX8_band_40 ?_
          refine lv_iload hx hb dX8_band_41 (lv_at hl 5 rfl) ?_
          refine lv_iload_n hx hb dX8_band_43 rfl (lv_at hl 1 rfl) ?_
          refine jv_isub hx hb dX8_band_44 ?_
          refine jv_max hx hb (hml.trans hl.1.symm) hown (hts _ wm577) (hts _ wm474) (hts _ wm26) (hts _ wm475) (Nat.le_of_ble_eq_true rfl) (Nat.le_of_ble_eq_true rfl) (Nat.le_of_ble_eq_true rfl) (Nat.le_of_ble_eq_true rfl) (by omega) (by omega) dX8_band_45 ?_
          refine lv_istore (lv' := [(6, .int (jz (max 0 (k - z)))), (0, .ref x), (1, .int (jz z)), (2, .int (jz n0)), (3, .int (jz n1)), (4, .int (jz r)), (5, .int (jz k))]) hx hb dX8_band_48 hl (by decide) rfl (fun ls hl => ?_)
          refine lv_iload_n hx hb dX8_band_50 rfl (lv_at hl 4 rfl) ?_
          refine lv_iload hx hb dX8_band_51 (lv_at hl 6 rfl) ?_
          refine lv_iload_n hx hb dX8_band_53 rfl (lv_at hl 2 rfl) ?_
          refine jv_iadd hx hb dX8_band_54 ?_
          refine jv_min hx hb (hml.trans hl.1.symm) hown (hts _ wm466) (hts _ wm467) (hts _ wm26) (hts _ wm468) (Nat.le_of_ble_eq_true rfl) (Nat.le_of_ble_eq_true rfl) (Nat.le_of_ble_eq_true rfl) (Nat.le_of_ble_eq_true rfl) (by omega) (by omega) dX8_band_55 ?_
          refine lv_istore (lv' := [(7, .int (jz (min n1 (k + z)))), (6, .int (jz (max 0 (k - z)))), (0, .ref x), (1, .int (jz z)), (2, .int (jz n0)), (3, .int (jz n1)), (4, .int (jz r)), (5, .int (jz k))]) hx hb dX8_band_58 hl (by decide) rfl (fun ls hl => ?_)
          refine lv_iload hx hb dX8_band_60 (lv_at hl 6 rfl) ?_
          refine jv_iconst hx hb dX8_band_62 ?_
          refine lv_iload hx hb dX8_band_63 (lv_at hl 0 rfl) ?_
          refine lv_iload hx hb dX8_band_65 (lv_at hl 1 rfl) ?_
          refine jv_isub hx hb dX8_band_67 ?_
          refine jv_iconst hx hb dX8_band_68 ?_
          refine jv_iadd hx hb dX8_band_69 ?_
          refine jv_max hx hb (hml.trans hl.1.symm) hown (hts _ wm577) (hts _ wm474) (hts _ wm26) (hts _ wm475) (Nat.le_of_ble_eq_true rfl) (Nat.le_of_ble_eq_true rfl) (Nat.le_of_ble_eq_true rfl) (Nat.le_of_ble_eq_true rfl) (by omega) (by omega) dX8_band_70 ?_
          refine jv_iadd hx hb dX8_band_73 ?_
          refine lv_istore (lv' := [(4, .int (jz (r + (max 0 (((min n1 (k + z)) - (max 0 (k - z))) + 1))))), (7, .int (jz (min n1 (k + z)))), (6, .int (jz (max 0 (k - z)))), (0, .ref x), (1, .int (jz z)), (2, .int (jz n0)), (3, .int (jz n1)), (5, .int (jz k))]) hx hb dX8_band_74 hl (by decide) rfl (fun ls hl => ?_)
          refine jv_iinc (lv' := [(5, .int (jz (k + 1))), (4, .int (jz (r + (max 0 (((min n1 (k + z)) - (max 0 (k - z))) + 1))))), (7, .int (jz (min n1 (k + z)))), (6, .int (jz (max 0 (k - z)))), (0, .ref x), (1, .int (jz z)), (2, .int (jz n0)), (3, .int (jz n1))]) (k := 7) hx hb dX8_band_76 hl rfl (by decide) rfl (fun ls hl => ?_)
          refine lv_goto (tgt := 34) hx hb dX8_band_79 (by decide) ?_
          exact ih34 (k + 1) (r + (max 0 (((min n1 (k + z)) - (max 0 (k - z))) + 1))) (by omega) (by omega) (by rw [bandI_s z n1 (by omega)]; omega) H _ _ hP hD hS (lv_sub hl [4, 5, 6, 7, 1, 0] rfl)
    exact K34 (((n0 + 1 - 0).toNat) + 1) 0 0 (Nat.lt_succ_self _) (by omega) (by rfl) H _ _ hP hD hS (lv_sub hl [4, 5, 3, 2, 1, 0] rfl)
  exact KH s.heap [] hP hD hS
abbrev rmX8_hits : Room := { frames := 1, cells := 0, slots := 0, locals := 20 }
set_option maxHeartbeats 4000000 in
set_option maxRecDepth 100000 in
theorem mX8_hits (l : Launch) (G : GG) (x : Nat) (st : Nat) (sv : Nat) (bu : Nat) (di : Nat) (se : Nat) (wy : Nat) (ta : Nat) (tt : Nat) (rp : Nat) (ta : Nat) (tm : Nat) (bs : Int) (hi : Int) (mi : Int) (si : Int) (F : Int → Int64)  : Ct l yX8_hits cX8_hits 1 (some .int) rmX8_hits G [.ref x] [bBD G x st sv bu di se wy ta tt rp, bTab G ta tm bs hi mi si F] (fun uo : Unit => some (.int (jz hi))) (fun uo => True) (fun uo => [bBD G x st sv bu di se wy ta tt rp, bTab G ta tm bs hi mi si F]) := by
  refine cof (by decide) (Nat.le_of_ble_eq_true rfl) ?_
  intro p e s m args below meth c A ls hx hb hr hml hown hts hlocks hin hA hK hP hD hS hl Q hQ
  have hown : s.vm.findClass RX8 = some m.cls := hown
  have hl : lv_has ls 1 [(0, .ref x)] := hl
  have KH : ∀ (H : Heap) (locs : List Loc), wP G [bBD G x st sv bu di se wy ta tt rp, bTab G ta tm bs hi mi si F] H → wD A [bBD G x st sv bu di se wy ta tt rp, bTab G ta tm bs hi mi si F] → va_S A s.heap H locs → W p l e rmX8_hits s m args below meth c H locs 0 0 Q (F0 m 0 ls []) := by
    intro H locs hP hD hS
    refine lv_aload_n hx hb dX8_hits_0 rfl (lv_at hl 0 rfl) ?_
    refine va_get (ci := 8) (v := .ref ta) (C := RX8) (T := TX8) (N := 9) hx hb hts wfX8 hown hK.1 hP 0 rfl rfl 6 (by decide) (hts _ wm172) (fun _ h9 => h9) rfl dX8_hits_1 ?_
    refine kV ⟨hx, hb, hml, hown, hts⟩ hK hA hS hP hD [] [] (mX0_hitCount l G ta tm bs hi mi si F ) lkX8_196 [1] [0] (br := [bBD G x st sv bu di se wy ta tt rp]) rfl rfl (by decide) 0 0 rfl rfl rfl rfl (Nat.le_of_ble_eq_true rfl) hl.1 dX8_hits_4 ⟨Nat.le_of_ble_eq_true rfl, Nat.le_of_ble_eq_true rfl⟩ ⟨Nat.le_of_ble_eq_true rfl, Nat.le_of_ble_eq_true rfl⟩ (fun u9 H locs hp9 hP hD hS => ?_)
    have hP : wP G [bBD G x st sv bu di se wy ta tt rp, bTab G ta tm bs hi mi si F] H := hP
    have hD : wD A [bBD G x st sv bu di se wy ta tt rp, bTab G ta tm bs hi mi si F] := hD
    show W p l e rmX8_hits s m args below meth c H locs 0 0 Q (F0 m 7 ls [.int (jz hi)])
    exact cret_i hx hb hr hlocks hS hP hD (Nat.le_of_ble_eq_true rfl) (Nat.le_of_ble_eq_true rfl) rfl dX8_hits_7 [0, 1] (by decide) () rfl trivial (congrArg (fun z : Int => some (Value.int (jz z))) (show hi = hi from by first | rfl | omega | (split <;> first | rfl | omega | (exfalso; omega)))) hQ
  exact KH s.heap [] hP hD hS
abbrev rmX8_misses : Room := { frames := 1, cells := 0, slots := 0, locals := 20 }
set_option maxHeartbeats 4000000 in
set_option maxRecDepth 100000 in
theorem mX8_misses (l : Launch) (G : GG) (x : Nat) (st : Nat) (sv : Nat) (bu : Nat) (di : Nat) (se : Nat) (wy : Nat) (ta : Nat) (tt : Nat) (rp : Nat) (ta : Nat) (tm : Nat) (bs : Int) (hi : Int) (mi : Int) (si : Int) (F : Int → Int64)  : Ct l yX8_misses cX8_misses 1 (some .int) rmX8_misses G [.ref x] [bBD G x st sv bu di se wy ta tt rp, bTab G ta tm bs hi mi si F] (fun uo : Unit => some (.int (jz mi))) (fun uo => True) (fun uo => [bBD G x st sv bu di se wy ta tt rp, bTab G ta tm bs hi mi si F]) := by
  refine cof (by decide) (Nat.le_of_ble_eq_true rfl) ?_
  intro p e s m args below meth c A ls hx hb hr hml hown hts hlocks hin hA hK hP hD hS hl Q hQ
  have hown : s.vm.findClass RX8 = some m.cls := hown
  have hl : lv_has ls 1 [(0, .ref x)] := hl
  have KH : ∀ (H : Heap) (locs : List Loc), wP G [bBD G x st sv bu di se wy ta tt rp, bTab G ta tm bs hi mi si F] H → wD A [bBD G x st sv bu di se wy ta tt rp, bTab G ta tm bs hi mi si F] → va_S A s.heap H locs → W p l e rmX8_misses s m args below meth c H locs 0 0 Q (F0 m 0 ls []) := by
    intro H locs hP hD hS
    refine lv_aload_n hx hb dX8_misses_0 rfl (lv_at hl 0 rfl) ?_
    refine va_get (ci := 8) (v := .ref ta) (C := RX8) (T := TX8) (N := 9) hx hb hts wfX8 hown hK.1 hP 0 rfl rfl 6 (by decide) (hts _ wm172) (fun _ h9 => h9) rfl dX8_misses_1 ?_
    refine kV ⟨hx, hb, hml, hown, hts⟩ hK hA hS hP hD [] [] (mX0_missCount l G ta tm bs hi mi si F ) lkX8_199 [1] [0] (br := [bBD G x st sv bu di se wy ta tt rp]) rfl rfl (by decide) 0 0 rfl rfl rfl rfl (Nat.le_of_ble_eq_true rfl) hl.1 dX8_misses_4 ⟨Nat.le_of_ble_eq_true rfl, Nat.le_of_ble_eq_true rfl⟩ ⟨Nat.le_of_ble_eq_true rfl, Nat.le_of_ble_eq_true rfl⟩ (fun u9 H locs hp9 hP hD hS => ?_)
    have hP : wP G [bBD G x st sv bu di se wy ta tt rp, bTab G ta tm bs hi mi si F] H := hP
    have hD : wD A [bBD G x st sv bu di se wy ta tt rp, bTab G ta tm bs hi mi si F] := hD
    show W p l e rmX8_misses s m args below meth c H locs 0 0 Q (F0 m 7 ls [.int (jz mi)])
    exact cret_i hx hb hr hlocks hS hP hD (Nat.le_of_ble_eq_true rfl) (Nat.le_of_ble_eq_true rfl) rfl dX8_misses_7 [0, 1] (by decide) () rfl trivial (congrArg (fun z : Int => some (Value.int (jz z))) (show mi = mi from by first | rfl | omega | (split <;> first | rfl | omega | (exfalso; omega)))) hQ
  exact KH s.heap [] hP hD hS
abbrev rmX8_singleSteps : Room := { frames := 1, cells := 0, slots := 0, locals := 20 }
set_option maxHeartbeats 4000000 in
set_option maxRecDepth 100000 in
theorem mX8_singleSteps (l : Launch) (G : GG) (x : Nat) (st : Nat) (sv : Nat) (bu : Nat) (di : Nat) (se : Nat) (wy : Nat) (ta : Nat) (tt : Nat) (rp : Nat) (ta : Nat) (tm : Nat) (bs : Int) (hi : Int) (mi : Int) (si : Int) (F : Int → Int64)  : Ct l yX8_singleSteps cX8_singleSteps 1 (some .int) rmX8_singleSteps G [.ref x] [bBD G x st sv bu di se wy ta tt rp, bTab G ta tm bs hi mi si F] (fun uo : Unit => some (.int (jz si))) (fun uo => True) (fun uo => [bBD G x st sv bu di se wy ta tt rp, bTab G ta tm bs hi mi si F]) := by
  refine cof (by decide) (Nat.le_of_ble_eq_true rfl) ?_
  intro p e s m args below meth c A ls hx hb hr hml hown hts hlocks hin hA hK hP hD hS hl Q hQ
  have hown : s.vm.findClass RX8 = some m.cls := hown
  have hl : lv_has ls 1 [(0, .ref x)] := hl
  have KH : ∀ (H : Heap) (locs : List Loc), wP G [bBD G x st sv bu di se wy ta tt rp, bTab G ta tm bs hi mi si F] H → wD A [bBD G x st sv bu di se wy ta tt rp, bTab G ta tm bs hi mi si F] → va_S A s.heap H locs → W p l e rmX8_singleSteps s m args below meth c H locs 0 0 Q (F0 m 0 ls []) := by
    intro H locs hP hD hS
    refine lv_aload_n hx hb dX8_singleSteps_0 rfl (lv_at hl 0 rfl) ?_
    refine va_get (ci := 8) (v := .ref ta) (C := RX8) (T := TX8) (N := 9) hx hb hts wfX8 hown hK.1 hP 0 rfl rfl 6 (by decide) (hts _ wm172) (fun _ h9 => h9) rfl dX8_singleSteps_1 ?_
    refine kV ⟨hx, hb, hml, hown, hts⟩ hK hA hS hP hD [] [] (mX0_singleCount l G ta tm bs hi mi si F ) lkX8_202 [1] [0] (br := [bBD G x st sv bu di se wy ta tt rp]) rfl rfl (by decide) 0 0 rfl rfl rfl rfl (Nat.le_of_ble_eq_true rfl) hl.1 dX8_singleSteps_4 ⟨Nat.le_of_ble_eq_true rfl, Nat.le_of_ble_eq_true rfl⟩ ⟨Nat.le_of_ble_eq_true rfl, Nat.le_of_ble_eq_true rfl⟩ (fun u9 H locs hp9 hP hD hS => ?_)
    have hP : wP G [bBD G x st sv bu di se wy ta tt rp, bTab G ta tm bs hi mi si F] H := hP
    have hD : wD A [bBD G x st sv bu di se wy ta tt rp, bTab G ta tm bs hi mi si F] := hD
    show W p l e rmX8_singleSteps s m args below meth c H locs 0 0 Q (F0 m 7 ls [.int (jz si)])
    exact cret_i hx hb hr hlocks hS hP hD (Nat.le_of_ble_eq_true rfl) (Nat.le_of_ble_eq_true rfl) rfl dX8_singleSteps_7 [0, 1] (by decide) () rfl trivial (congrArg (fun z : Int => some (Value.int (jz z))) (show si = si from by first | rfl | omega | (split <;> first | rfl | omega | (exfalso; omega)))) hQ
  exact KH s.heap [] hP hD hS
abbrev rmX8_setBlock : Room := { frames := 6, cells := 1, slots := 6, locals := 100 }
set_option maxHeartbeats 4000000 in
set_option maxRecDepth 100000 in
theorem mX8_setBlock (l : Launch) (hl0 : l.stackTraces = false) (G : GG) (x : Nat) (st : Nat) (sv : Nat) (bu : Nat) (di : Nat) (se : Nat) (wy : Nat) (ta : Nat) (tt : Nat) (rp : Nat) (ta : Nat) (tm : Nat) (bs : Int) (hi : Int) (mi : Int) (si : Int) (F : Int → Int64) (z : Int) (hz : jr z) : Xt l yX8_setBlock cX8_setBlock 3 (some .int) rmX8_setBlock G [.ref x, .int (jz z)] [bBD G x st sv bu di se wy ta tt rp, bTab G ta tm bs hi mi si F] (fun uo : (Int → Int64) => some (.int (jz bs))) (fun uo => (1 ≤ z ∧ z ≤ 2) ∧ (∀ w : Int, 0 ≤ w → w < 324 → uo w = 0)) (fun uo => [bBD G x st sv bu di se wy ta tt rp, bTab G ta tm z 0 0 0 uo]) (fun E => E = "java/lang/IllegalArgumentException" ∧ ¬ (1 ≤ z ∧ z ≤ 2)) := by
  refine xof (by decide) (Nat.le_of_ble_eq_true rfl) ?_
  intro p e s m args below meth c A ls hx hb hr hml hown hts hlocks hin hA hK hP hD hS hl hX hout Q hQ
  have hown : s.vm.findClass RX8 = some m.cls := hown
  have hl : lv_has ls 3 [(0, .ref x), (1, .int (jz z))] := hl
  have KH : ∀ (H : Heap) (locs : List Loc), wP G [bBD G x st sv bu di se wy ta tt rp, bTab G ta tm bs hi mi si F] H → wD A [bBD G x st sv bu di se wy ta tt rp, bTab G ta tm bs hi mi si F] → va_S A s.heap H locs → W p l e rmX8_setBlock s m args below meth c H locs 0 0 Q (F0 m 0 ls []) := by
    intro H locs hP hD hS
    refine lv_iload_n hx hb dX8_setBlock_0 rfl (lv_at hl 1 rfl) ?_
    refine jv_iconst hx hb dX8_setBlock_1 ?_
    refine jv_icmp_lt (tgt := 10) hx hb dX8_setBlock_2 (by decide) (by omega) (by omega) (fun c_1 => ?_) (fun c_1 => ?_)
    · obtain ⟨sa9, hstr9⟩ := hK.2.2.2.1 (184, "a block size is 1 or 2") (by decide +kernel)
      rw [hQ]
      exact vx_throwS (A := A) (cls := "java/lang/IllegalArgumentException") (names := ["java/lang/RuntimeException", "java/lang/Exception"]) hx hb hl0 hown (by decide +kernel) (by decide +kernel) (hts _ wm287) (hts _ wm24) hstr9 (xat hK hts xa_80) xg_80 hX.1 hX.2 hS (hl.1.trans hml.symm) dX8_setBlock_10 dX8_setBlock_13 dX8_setBlock_14 dX8_setBlock_16 dX8_setBlock_19 (fun x9 hx9 => (hout x9 hx9).elim) (Nat.lt_of_lt_of_le (Nat.lt_succ_self 5) (Nat.le_of_ble_eq_true rfl)) (Nat.le_of_ble_eq_true rfl) (Nat.le_of_ble_eq_true rfl) (Nat.le_of_ble_eq_true rfl) hlocks (xthrow hS hP hD [0, 1] (by decide) rfl (by first | exact ⟨rfl, by omega⟩ | rfl)) hS.2.2 (Nat.le_of_ble_eq_true rfl) (Nat.le_of_ble_eq_true rfl)
    · refine lv_iload_n hx hb dX8_setBlock_5 rfl (lv_at hl 1 rfl) ?_
      refine jv_iconst hx hb dX8_setBlock_6 ?_
      refine jv_icmp_le (tgt := 20) hx hb dX8_setBlock_7 (by decide) (by omega) (by omega) (fun c_2 => ?_) (fun c_2 => ?_)
      · refine lv_aload_n hx hb dX8_setBlock_20 rfl (lv_at hl 0 rfl) ?_
        refine va_get (ci := 8) (v := .ref ta) (C := RX8) (T := TX8) (N := 9) hx hb hts wfX8 hown hK.1 hP 0 rfl rfl 6 (by decide) (hts _ wm172) (fun _ h9 => h9) rfl dX8_setBlock_21 ?_
        refine kV ⟨hx, hb, hml, hown, hts⟩ hK hA hS hP hD [] [] (mX0_blockSize l G ta tm bs hi mi si F ) lkX8_186 [1] [0] (br := [bBD G x st sv bu di se wy ta tt rp]) rfl rfl (by decide) 0 0 rfl rfl rfl rfl (Nat.le_of_ble_eq_true rfl) hl.1 dX8_setBlock_24 ⟨Nat.le_of_ble_eq_true rfl, Nat.le_of_ble_eq_true rfl⟩ ⟨Nat.le_of_ble_eq_true rfl, Nat.le_of_ble_eq_true rfl⟩ (fun u9 H locs hp9 hP hD hS => ?_)
        have hP : wP G [bBD G x st sv bu di se wy ta tt rp, bTab G ta tm bs hi mi si F] H := hP
        have hD : wD A [bBD G x st sv bu di se wy ta tt rp, bTab G ta tm bs hi mi si F] := hD
        show W p l e rmX8_setBlock s m args below meth c H locs 0 0 Q (F0 m 27 ls [.int (jz bs)])
        refine lv_istore_n (lv' := [(2, .int (jz bs)), (0, .ref x), (1, .int (jz z))]) hx hb dX8_setBlock_27 rfl hl (by decide) rfl (fun ls hl => ?_)
        refine lv_aload_n hx hb dX8_setBlock_28 rfl (lv_at hl 1 rfl) ?_
        refine va_get (ci := 8) (v := .ref ta) (C := RX8) (T := TX8) (N := 9) hx hb hts wfX8 hown hK.1 hP 0 rfl rfl 6 (by decide) (hts _ wm172) (fun _ h9 => h9) rfl dX8_setBlock_29 ?_
        refine lv_iload_n hx hb dX8_setBlock_32 rfl (lv_at hl 2 rfl) ?_
        refine kV ⟨hx, hb, hml, hown, hts⟩ hK hA hS hP hD [.int (jz z)] [] (mX0_startAnew l G ta tm bs hi mi si F z ) lkX8_189 [1] [0] (br := [bBD G x st sv bu di se wy ta tt rp]) rfl rfl (by decide) 0 0 rfl rfl rfl rfl (Nat.le_of_ble_eq_true rfl) hl.1 dX8_setBlock_33 ⟨Nat.le_of_ble_eq_true rfl, Nat.le_of_ble_eq_true rfl⟩ ⟨Nat.le_of_ble_eq_true rfl, Nat.le_of_ble_eq_true rfl⟩ (fun u9 H locs hp9 hP hD hS => ?_)
        obtain ⟨u_4, rfl⟩ : ∃ z, z = u9 := ⟨_, rfl⟩
        have hc_5 : ∀ w : Int, 0 ≤ w → w < 324 → u_4 w = 0 := hp9
        have hP : wP G [bBD G x st sv bu di se wy ta tt rp, bTab G ta tm z 0 0 0 u_4] H := hP
        have hD : wD A [bBD G x st sv bu di se wy ta tt rp, bTab G ta tm z 0 0 0 u_4] := hD
        show W p l e rmX8_setBlock s m args below meth c H locs 0 0 Q (F0 m 36 ls [])
        have hc1 := hc_5
        refine lv_iload_n hx hb dX8_setBlock_36 rfl (lv_at hl 0 rfl) ?_
        rw [hQ]
        exact vx_ret (cret_i hx hb hr hlocks hS hP hD (Nat.le_of_ble_eq_true rfl) (Nat.le_of_ble_eq_true rfl) rfl dX8_setBlock_37 [0, 1] (by decide) u_4 rfl ⟨(show 1 ≤ z ∧ z ≤ 2 from by omega), (show ∀ w : Int, 0 ≤ w → w < 324 → u_4 w = 0 from hc1)⟩ (congrArg (fun z : Int => some (Value.int (jz z))) (show bs = bs from by first | rfl | omega | (split <;> first | rfl | omega | (exfalso; omega)))) rfl)
      · obtain ⟨sa9, hstr9⟩ := hK.2.2.2.1 (184, "a block size is 1 or 2") (by decide +kernel)
        rw [hQ]
        exact vx_throwS (A := A) (cls := "java/lang/IllegalArgumentException") (names := ["java/lang/RuntimeException", "java/lang/Exception"]) hx hb hl0 hown (by decide +kernel) (by decide +kernel) (hts _ wm287) (hts _ wm24) hstr9 (xat hK hts xa_80) xg_80 hX.1 hX.2 hS (hl.1.trans hml.symm) dX8_setBlock_10 dX8_setBlock_13 dX8_setBlock_14 dX8_setBlock_16 dX8_setBlock_19 (fun x9 hx9 => (hout x9 hx9).elim) (Nat.lt_of_lt_of_le (Nat.lt_succ_self 5) (Nat.le_of_ble_eq_true rfl)) (Nat.le_of_ble_eq_true rfl) (Nat.le_of_ble_eq_true rfl) (Nat.le_of_ble_eq_true rfl) hlocks (xthrow hS hP hD [0, 1] (by decide) rfl (by first | exact ⟨rfl, by omega⟩ | rfl)) hS.2.2 (Nat.le_of_ble_eq_true rfl) (Nat.le_of_ble_eq_true rfl)
  exact KH s.heap [] hP hD hS
abbrev rmX8_measure : Room := { frames := 5, cells := 0, slots := 0, locals := 123 }
set_option maxHeartbeats 4000000 in
set_option maxRecDepth 100000 in
theorem mX8_measure (l : Launch) (G : GG) (x : Nat) (st : Nat) (sv : Nat) (bu : Nat) (di : Nat) (se : Nat) (wy : Nat) (ta : Nat) (tt : Nat) (rp : Nat) (t0 : Nat) (t1 : Nat) (al : Int) (a0 : Nat) (n0 : Int) (g0 : Int → Int) (a1 : Nat) (n1 : Int) (g1 : Int → Int) (db : Nat) (dh : Int → Int) (ta : Nat) (tm : Nat) (bs : Int) (hi : Int) (mi : Int) (si : Int) (F : Int → Int64) (M : Int → Bool) (hn0 : 0 ≤ n0 ∧ n0 ≤ 20) (hn1 : 0 ≤ n1 ∧ n1 ≤ 20) (hg0 : ∀ j : Int, 0 ≤ j → j < n0 → 0 ≤ g0 j ∧ g0 j < 4) (hg1 : ∀ j : Int, 0 ≤ j → j < n1 → 0 ≤ g1 j ∧ g1 j < 4) (hbs : bs = 1 ∨ bs = 2) (hM : rM F M) : Ct l yX8_measure cX8_measure 1 (some .int) rmX8_measure G [.ref x] [bBD G x st sv bu di se wy ta tt rp, bState G st t0 t1 al, bText G t0 a0 n0 g0, bText G t1 a1 n1 g1, bGrid G di db dh, bTab G ta tm bs hi mi si F] (fun uo : (Int → Int) × Int × Int × Int × (Int → Int64) × (Int → Bool) => some (.int (jz (D 1 g0 g1 n0 n1)))) (fun uo => ((uo.2.2.2.2.2, uo.2.1, uo.2.2.1, uo.2.2.2.1) = tGo bs g0 g1 n0 n1 (M, hi, mi, si)) ∧ (rM uo.2.2.2.2.1 uo.2.2.2.2.2)) (fun uo => [bBD G x st sv bu di se wy ta tt rp, bState G st t0 t1 al, bText G t0 a0 n0 g0, bText G t1 a1 n1 g1, bGrid G di db uo.1, bTab G ta tm bs uo.2.1 uo.2.2.1 uo.2.2.2.1 uo.2.2.2.2.1]) := by
  refine cof (by decide) (Nat.le_of_ble_eq_true rfl) ?_
  intro p e s m args below meth c A ls hx hb hr hml hown hts hlocks hin hA hK hP hD hS hl Q hQ
  have hown : s.vm.findClass RX8 = some m.cls := hown
  have hl : lv_has ls 1 [(0, .ref x)] := hl
  have KH : ∀ (H : Heap) (locs : List Loc), wP G [bBD G x st sv bu di se wy ta tt rp, bState G st t0 t1 al, bText G t0 a0 n0 g0, bText G t1 a1 n1 g1, bGrid G di db dh, bTab G ta tm bs hi mi si F] H → wD A [bBD G x st sv bu di se wy ta tt rp, bState G st t0 t1 al, bText G t0 a0 n0 g0, bText G t1 a1 n1 g1, bGrid G di db dh, bTab G ta tm bs hi mi si F] → va_S A s.heap H locs → W p l e rmX8_measure s m args below meth c H locs 0 0 Q (F0 m 0 ls []) := by
    intro H locs hP hD hS
    refine lv_aload_n hx hb dX8_measure_0 rfl (lv_at hl 0 rfl) ?_
    refine va_get (ci := 8) (v := .ref ta) (C := RX8) (T := TX8) (N := 9) hx hb hts wfX8 hown hK.1 hP 0 rfl rfl 6 (by decide) (hts _ wm172) (fun _ h9 => h9) rfl dX8_measure_1 ?_
    refine lv_aload_n hx hb dX8_measure_4 rfl (lv_at hl 0 rfl) ?_
    refine kV ⟨hx, hb, hml, hown, hts⟩ hK hA hS hP hD [] [.ref ta] (mX8_currentDistances l G x st sv bu di se wy ta tt rp t0 t1 al a0 n0 g0 a1 n1 g1 db dh (by omega) (by omega) (by exact hg0) (by exact hg1)) lkX8_146 [0, 1, 2, 3, 4] [5] (br := [bTab G ta tm bs hi mi si F]) rfl rfl (by decide) 0 8 rfl rfl rfl rfl (Nat.le_of_ble_eq_true rfl) hl.1 dX8_measure_5 ⟨Nat.le_of_ble_eq_true rfl, Nat.le_of_ble_eq_true rfl⟩ ⟨Nat.le_of_ble_eq_true rfl, Nat.le_of_ble_eq_true rfl⟩ (fun u9 H locs hp9 hP hD hS => ?_)
    obtain ⟨u_1, rfl⟩ : ∃ z, z = u9 := ⟨_, rfl⟩
    have hc_2 : ∀ x y : Int, 0 ≤ x → x ≤ n0 → 0 ≤ y → y ≤ n1 → u_1 (x * 21 + y) = D 1 g0 g1 x y := hp9
    have hP : wP G [bTab G ta tm bs hi mi si F, bBD G x st sv bu di se wy ta tt rp, bState G st t0 t1 al, bText G t0 a0 n0 g0, bText G t1 a1 n1 g1, bGrid G di db u_1] H := hP
    have hD : wD A [bTab G ta tm bs hi mi si F, bBD G x st sv bu di se wy ta tt rp, bState G st t0 t1 al, bText G t0 a0 n0 g0, bText G t1 a1 n1 g1, bGrid G di db u_1] := hD
    show W p l e rmX8_measure s m args below meth c H locs 0 0 Q (F0 m 8 ls [.ref di, .ref ta])
    have hc1 := hc_2
    refine lv_aload_n hx hb dX8_measure_8 rfl (lv_at hl 0 rfl) ?_
    refine va_get (ci := 8) (v := .ref st) (C := RX8) (T := TX8) (N := 9) hx hb hts wfX8 hown hK.1 hP 2 rfl rfl 0 (by decide) (hts _ wm166) (fun _ h9 => h9) rfl dX8_measure_9 ?_
    refine jv_iconst hx hb dX8_measure_12 ?_
    refine kV ⟨hx, hb, hml, hown, hts⟩ hK hA hS hP hD [.int (jz 0)] [.ref di, .ref ta] (mX5_text_0 l G st t0 t1 al 0 (by omega) (by omega)) lkX8_87 [2] [0, 1, 3, 4, 5] (br := [bTab G ta tm bs hi mi si F, bBD G x st sv bu di se wy ta tt rp, bText G t0 a0 n0 g0, bText G t1 a1 n1 g1, bGrid G di db u_1]) rfl rfl (by decide) 0 5 rfl rfl rfl rfl (Nat.le_of_ble_eq_true rfl) hl.1 dX8_measure_13 ⟨Nat.le_of_ble_eq_true rfl, Nat.le_of_ble_eq_true rfl⟩ ⟨Nat.le_of_ble_eq_true rfl, Nat.le_of_ble_eq_true rfl⟩ (fun u9 H locs hp9 hP hD hS => ?_)
    have hP : wP G [bTab G ta tm bs hi mi si F, bBD G x st sv bu di se wy ta tt rp, bText G t0 a0 n0 g0, bText G t1 a1 n1 g1, bGrid G di db u_1, bState G st t0 t1 al] H := hP
    have hD : wD A [bTab G ta tm bs hi mi si F, bBD G x st sv bu di se wy ta tt rp, bText G t0 a0 n0 g0, bText G t1 a1 n1 g1, bGrid G di db u_1, bState G st t0 t1 al] := hD
    show W p l e rmX8_measure s m args below meth c H locs 0 0 Q (F0 m 16 ls [.ref t0, .ref di, .ref ta])
    refine lv_aload_n hx hb dX8_measure_16 rfl (lv_at hl 0 rfl) ?_
    refine va_get (ci := 8) (v := .ref st) (C := RX8) (T := TX8) (N := 9) hx hb hts wfX8 hown hK.1 hP 2 rfl rfl 0 (by decide) (hts _ wm166) (fun _ h9 => h9) rfl dX8_measure_17 ?_
    refine jv_iconst hx hb dX8_measure_20 ?_
    refine kV ⟨hx, hb, hml, hown, hts⟩ hK hA hS hP hD [.int (jz 1)] [.ref t0, .ref di, .ref ta] (mX5_text_1 l G st t0 t1 al 1 (by omega) (by omega)) lkX8_87 [5] [0, 1, 2, 3, 4] (br := [bTab G ta tm bs hi mi si F, bBD G x st sv bu di se wy ta tt rp, bText G t0 a0 n0 g0, bText G t1 a1 n1 g1, bGrid G di db u_1]) rfl rfl (by decide) 0 5 rfl rfl rfl rfl (Nat.le_of_ble_eq_true rfl) hl.1 dX8_measure_21 ⟨Nat.le_of_ble_eq_true rfl, Nat.le_of_ble_eq_true rfl⟩ ⟨Nat.le_of_ble_eq_true rfl, Nat.le_of_ble_eq_true rfl⟩ (fun u9 H locs hp9 hP hD hS => ?_)
    have hP : wP G [bTab G ta tm bs hi mi si F, bBD G x st sv bu di se wy ta tt rp, bText G t0 a0 n0 g0, bText G t1 a1 n1 g1, bGrid G di db u_1, bState G st t0 t1 al] H := hP
    have hD : wD A [bTab G ta tm bs hi mi si F, bBD G x st sv bu di se wy ta tt rp, bText G t0 a0 n0 g0, bText G t1 a1 n1 g1, bGrid G di db u_1, bState G st t0 t1 al] := hD
    show W p l e rmX8_measure s m args below meth c H locs 0 0 Q (F0 m 24 ls [.ref t1, .ref t0, .ref di, .ref ta])
    refine kV ⟨hx, hb, hml, hown, hts⟩ hK hA hS hP hD [.ref di, .ref t0, .ref t1] [] (mX0_meetBlocks l G ta tm bs hi mi si F di db u_1 t0 a0 n0 g0 t1 a1 n1 g1 M (by omega) (by omega) (by exact hg0) (by exact hg1) (by omega) (by exact hc1) (by exact hM)) lkX8_192 [0, 4, 2, 3] [1, 5] (br := [bBD G x st sv bu di se wy ta tt rp, bState G st t0 t1 al]) rfl rfl (by decide) 0 0 rfl rfl rfl rfl (Nat.le_of_ble_eq_true rfl) hl.1 dX8_measure_24 ⟨Nat.le_of_ble_eq_true rfl, Nat.le_of_ble_eq_true rfl⟩ ⟨Nat.le_of_ble_eq_true rfl, Nat.le_of_ble_eq_true rfl⟩ (fun u9 H locs hp9 hP hD hS => ?_)
    obtain ⟨u_5, u_6, u_7, u_8, u_9⟩ := u9
    have hc_10 : (u_9, u_5, u_6, u_7) = tGo bs g0 g1 n0 n1 (M, hi, mi, si) := hp9.1
    have hd_11 : rM u_8 u_9 := hp9.2
    have hP : wP G [bBD G x st sv bu di se wy ta tt rp, bState G st t0 t1 al, bTab G ta tm bs u_5 u_6 u_7 u_8, bGrid G di db u_1, bText G t0 a0 n0 g0, bText G t1 a1 n1 g1] H := hP
    have hD : wD A [bBD G x st sv bu di se wy ta tt rp, bState G st t0 t1 al, bTab G ta tm bs u_5 u_6 u_7 u_8, bGrid G di db u_1, bText G t0 a0 n0 g0, bText G t1 a1 n1 g1] := hD
    show W p l e rmX8_measure s m args below meth c H locs 0 0 Q (F0 m 27 ls [])
    have hc2 := hc_10
    have hd2 := hd_11
    refine lv_aload_n hx hb dX8_measure_27 rfl (lv_at hl 0 rfl) ?_
    refine kV ⟨hx, hb, hml, hown, hts⟩ hK hA hS hP hD [] [] (mX8_distance l G x st sv bu di se wy ta tt rp t0 t1 al a0 n0 g0 a1 n1 g1 db u_1 (by omega) (by omega) (by exact hg0) (by exact hg1)) lkX8_173 [0, 1, 4, 5, 3] [2] (br := [bTab G ta tm bs u_5 u_6 u_7 u_8]) rfl rfl (by decide) 0 8 rfl rfl rfl rfl (Nat.le_of_ble_eq_true rfl) hl.1 dX8_measure_28 ⟨Nat.le_of_ble_eq_true rfl, Nat.le_of_ble_eq_true rfl⟩ ⟨Nat.le_of_ble_eq_true rfl, Nat.le_of_ble_eq_true rfl⟩ (fun u9 H locs hp9 hP hD hS => ?_)
    obtain ⟨u_12, rfl⟩ : ∃ z, z = u9 := ⟨_, rfl⟩
    have hP : wP G [bTab G ta tm bs u_5 u_6 u_7 u_8, bBD G x st sv bu di se wy ta tt rp, bState G st t0 t1 al, bText G t0 a0 n0 g0, bText G t1 a1 n1 g1, bGrid G di db u_12] H := hP
    have hD : wD A [bTab G ta tm bs u_5 u_6 u_7 u_8, bBD G x st sv bu di se wy ta tt rp, bState G st t0 t1 al, bText G t0 a0 n0 g0, bText G t1 a1 n1 g1, bGrid G di db u_12] := hD
    show W p l e rmX8_measure s m args below meth c H locs 0 0 Q (F0 m 31 ls [.int (jz (D 1 g0 g1 n0 n1))])
    exact cret_i hx hb hr hlocks hS hP hD (Nat.le_of_ble_eq_true rfl) (Nat.le_of_ble_eq_true rfl) rfl dX8_measure_31 [1, 2, 3, 4, 5, 0] (by decide) ⟨u_12, u_5, u_6, u_7, u_8, u_9⟩ rfl ⟨(show (u_9, u_5, u_6, u_7) = tGo bs g0 g1 n0 n1 (M, hi, mi, si) from hc2), (show rM u_8 u_9 from hd2)⟩ (congrArg (fun z : Int => some (Value.int (jz z))) (show (D 1 g0 g1 n0 n1) = D 1 g0 g1 n0 n1 from by first | rfl | omega | (split <;> first | rfl | omega | (exfalso; omega)))) hQ
  exact KH s.heap [] hP hD hS
abbrev rmX8_missesToCome : Room := { frames := 5, cells := 0, slots := 0, locals := 123 }
set_option maxHeartbeats 4000000 in
set_option maxRecDepth 100000 in
theorem mX8_missesToCome (l : Launch) (G : GG) (x : Nat) (st : Nat) (sv : Nat) (bu : Nat) (di : Nat) (se : Nat) (wy : Nat) (ta : Nat) (tt : Nat) (rp : Nat) (t0 : Nat) (t1 : Nat) (al : Int) (a0 : Nat) (n0 : Int) (g0 : Int → Int) (a1 : Nat) (n1 : Int) (g1 : Int → Int) (db : Nat) (dh : Int → Int) (ta : Nat) (tm : Nat) (bs : Int) (hi : Int) (mi : Int) (si : Int) (F : Int → Int64) (tn : Nat) (bs2 : Int) (hi2 : Int) (mi2 : Int) (si2 : Int) (F9 : Int → Int64) (M : Int → Bool) (hn0 : 0 ≤ n0 ∧ n0 ≤ 20) (hn1 : 0 ≤ n1 ∧ n1 ≤ 20) (hg0 : ∀ j : Int, 0 ≤ j → j < n0 → 0 ≤ g0 j ∧ g0 j < 4) (hg1 : ∀ j : Int, 0 ≤ j → j < n1 → 0 ≤ g1 j ∧ g1 j < 4) (hbs : bs = 1 ∨ bs = 2) (hM : rM F M) : Ct l yX8_missesToCome cX8_missesToCome 1 (some .int) rmX8_missesToCome G [.ref x] [bBD G x st sv bu di se wy ta tt rp, bState G st t0 t1 al, bText G t0 a0 n0 g0, bText G t1 a1 n1 g1, bGrid G di db dh, bTab G ta tm bs hi mi si F, bTab G tt tn bs2 hi2 mi2 si2 F9] (fun uo : (Int → Int) × Int × Int × Int × Int × (Int → Int64) => some (.int (jz ((tGo bs g0 g1 n0 n1 (M, hi, mi, si)).2.2.1 - mi)))) (fun uo => True) (fun uo => [bBD G x st sv bu di se wy ta tt rp, bState G st t0 t1 al, bText G t0 a0 n0 g0, bText G t1 a1 n1 g1, bGrid G di db uo.1, bTab G ta tm bs hi mi si F, bTab G tt tn uo.2.1 uo.2.2.1 uo.2.2.2.1 uo.2.2.2.2.1 uo.2.2.2.2.2]) := by
  refine cof (by decide) (Nat.le_of_ble_eq_true rfl) ?_
  intro p e s m args below meth c A ls hx hb hr hml hown hts hlocks hin hA hK hP hD hS hl Q hQ
  have hown : s.vm.findClass RX8 = some m.cls := hown
  have hl : lv_has ls 1 [(0, .ref x)] := hl
  have KH : ∀ (H : Heap) (locs : List Loc), wP G [bBD G x st sv bu di se wy ta tt rp, bState G st t0 t1 al, bText G t0 a0 n0 g0, bText G t1 a1 n1 g1, bGrid G di db dh, bTab G ta tm bs hi mi si F, bTab G tt tn bs2 hi2 mi2 si2 F9] H → wD A [bBD G x st sv bu di se wy ta tt rp, bState G st t0 t1 al, bText G t0 a0 n0 g0, bText G t1 a1 n1 g1, bGrid G di db dh, bTab G ta tm bs hi mi si F, bTab G tt tn bs2 hi2 mi2 si2 F9] → va_S A s.heap H locs → W p l e rmX8_missesToCome s m args below meth c H locs 0 0 Q (F0 m 0 ls []) := by
    intro H locs hP hD hS
    refine lv_aload_n hx hb dX8_missesToCome_0 rfl (lv_at hl 0 rfl) ?_
    refine va_get (ci := 8) (v := .ref tt) (C := RX8) (T := TX8) (N := 9) hx hb hts wfX8 hown hK.1 hP 0 rfl rfl 7 (by decide) (hts _ wm173) (fun _ h9 => h9) rfl dX8_missesToCome_1 ?_
    refine lv_aload_n hx hb dX8_missesToCome_4 rfl (lv_at hl 0 rfl) ?_
    refine va_get (ci := 8) (v := .ref ta) (C := RX8) (T := TX8) (N := 9) hx hb hts wfX8 hown hK.1 hP 0 rfl rfl 6 (by decide) (hts _ wm172) (fun _ h9 => h9) rfl dX8_missesToCome_5 ?_
    refine kV ⟨hx, hb, hml, hown, hts⟩ hK hA hS hP hD [.ref ta] [] (mX0_copyFrom l G tt tn bs2 hi2 mi2 si2 F9 ta tm bs hi mi si F ) lkX8_221 [6, 5] [0, 1, 2, 3, 4] (br := [bBD G x st sv bu di se wy ta tt rp, bState G st t0 t1 al, bText G t0 a0 n0 g0, bText G t1 a1 n1 g1, bGrid G di db dh]) rfl rfl (by decide) 0 0 rfl rfl rfl rfl (Nat.le_of_ble_eq_true rfl) hl.1 dX8_missesToCome_8 ⟨Nat.le_of_ble_eq_true rfl, Nat.le_of_ble_eq_true rfl⟩ ⟨Nat.le_of_ble_eq_true rfl, Nat.le_of_ble_eq_true rfl⟩ (fun u9 H locs hp9 hP hD hS => ?_)
    obtain ⟨u_1, rfl⟩ : ∃ z, z = u9 := ⟨_, rfl⟩
    have hc_2 : ∀ w : Int, 0 ≤ w → w < 324 → u_1 w = F w := hp9
    have hP : wP G [bBD G x st sv bu di se wy ta tt rp, bState G st t0 t1 al, bText G t0 a0 n0 g0, bText G t1 a1 n1 g1, bGrid G di db dh, bTab G tt tn bs hi mi si u_1, bTab G ta tm bs hi mi si F] H := hP
    have hD : wD A [bBD G x st sv bu di se wy ta tt rp, bState G st t0 t1 al, bText G t0 a0 n0 g0, bText G t1 a1 n1 g1, bGrid G di db dh, bTab G tt tn bs hi mi si u_1, bTab G ta tm bs hi mi si F] := hD
    show W p l e rmX8_missesToCome s m args below meth c H locs 0 0 Q (F0 m 11 ls [])
    have hcF := hc_2
    have hM2 : rM u_1 M := fun w b p1 p2 p3 p4 => by rw [hcF w p1 p2]; exact hM w b p1 p2 p3 p4
    refine lv_aload_n hx hb dX8_missesToCome_11 rfl (lv_at hl 0 rfl) ?_
    refine va_get (ci := 8) (v := .ref tt) (C := RX8) (T := TX8) (N := 9) hx hb hts wfX8 hown hK.1 hP 0 rfl rfl 7 (by decide) (hts _ wm173) (fun _ h9 => h9) rfl dX8_missesToCome_12 ?_
    refine lv_aload_n hx hb dX8_missesToCome_15 rfl (lv_at hl 0 rfl) ?_
    refine kV ⟨hx, hb, hml, hown, hts⟩ hK hA hS hP hD [] [.ref tt] (mX8_currentDistances l G x st sv bu di se wy ta tt rp t0 t1 al a0 n0 g0 a1 n1 g1 db dh (by omega) (by omega) (by exact hg0) (by exact hg1)) lkX8_146 [0, 1, 2, 3, 4] [5, 6] (br := [bTab G tt tn bs hi mi si u_1, bTab G ta tm bs hi mi si F]) rfl rfl (by decide) 0 8 rfl rfl rfl rfl (Nat.le_of_ble_eq_true rfl) hl.1 dX8_missesToCome_16 ⟨Nat.le_of_ble_eq_true rfl, Nat.le_of_ble_eq_true rfl⟩ ⟨Nat.le_of_ble_eq_true rfl, Nat.le_of_ble_eq_true rfl⟩ (fun u9 H locs hp9 hP hD hS => ?_)
    obtain ⟨u_3, rfl⟩ : ∃ z, z = u9 := ⟨_, rfl⟩
    have hc_4 : ∀ x y : Int, 0 ≤ x → x ≤ n0 → 0 ≤ y → y ≤ n1 → u_3 (x * 21 + y) = D 1 g0 g1 x y := hp9
    have hP : wP G [bTab G tt tn bs hi mi si u_1, bTab G ta tm bs hi mi si F, bBD G x st sv bu di se wy ta tt rp, bState G st t0 t1 al, bText G t0 a0 n0 g0, bText G t1 a1 n1 g1, bGrid G di db u_3] H := hP
    have hD : wD A [bTab G tt tn bs hi mi si u_1, bTab G ta tm bs hi mi si F, bBD G x st sv bu di se wy ta tt rp, bState G st t0 t1 al, bText G t0 a0 n0 g0, bText G t1 a1 n1 g1, bGrid G di db u_3] := hD
    show W p l e rmX8_missesToCome s m args below meth c H locs 0 0 Q (F0 m 19 ls [.ref di, .ref tt])
    have hc1 := hc_4
    refine lv_aload_n hx hb dX8_missesToCome_19 rfl (lv_at hl 0 rfl) ?_
    refine va_get (ci := 8) (v := .ref st) (C := RX8) (T := TX8) (N := 9) hx hb hts wfX8 hown hK.1 hP 4 rfl rfl 0 (by decide) (hts _ wm166) (fun _ h9 => h9) rfl dX8_missesToCome_20 ?_
    refine jv_iconst hx hb dX8_missesToCome_23 ?_
    refine kV ⟨hx, hb, hml, hown, hts⟩ hK hA hS hP hD [.int (jz 0)] [.ref di, .ref tt] (mX5_text_0 l G st t0 t1 al 0 (by omega) (by omega)) lkX8_87 [3] [0, 1, 2, 4, 5, 6] (br := [bTab G tt tn bs hi mi si u_1, bTab G ta tm bs hi mi si F, bBD G x st sv bu di se wy ta tt rp, bText G t0 a0 n0 g0, bText G t1 a1 n1 g1, bGrid G di db u_3]) rfl rfl (by decide) 0 5 rfl rfl rfl rfl (Nat.le_of_ble_eq_true rfl) hl.1 dX8_missesToCome_24 ⟨Nat.le_of_ble_eq_true rfl, Nat.le_of_ble_eq_true rfl⟩ ⟨Nat.le_of_ble_eq_true rfl, Nat.le_of_ble_eq_true rfl⟩ (fun u9 H locs hp9 hP hD hS => ?_)
    have hP : wP G [bTab G tt tn bs hi mi si u_1, bTab G ta tm bs hi mi si F, bBD G x st sv bu di se wy ta tt rp, bText G t0 a0 n0 g0, bText G t1 a1 n1 g1, bGrid G di db u_3, bState G st t0 t1 al] H := hP
    have hD : wD A [bTab G tt tn bs hi mi si u_1, bTab G ta tm bs hi mi si F, bBD G x st sv bu di se wy ta tt rp, bText G t0 a0 n0 g0, bText G t1 a1 n1 g1, bGrid G di db u_3, bState G st t0 t1 al] := hD
    show W p l e rmX8_missesToCome s m args below meth c H locs 0 0 Q (F0 m 27 ls [.ref t0, .ref di, .ref tt])
    refine lv_aload_n hx hb dX8_missesToCome_27 rfl (lv_at hl 0 rfl) ?_
    refine va_get (ci := 8) (v := .ref st) (C := RX8) (T := TX8) (N := 9) hx hb hts wfX8 hown hK.1 hP 4 rfl rfl 0 (by decide) (hts _ wm166) (fun _ h9 => h9) rfl dX8_missesToCome_28 ?_
    refine jv_iconst hx hb dX8_missesToCome_31 ?_
    refine kV ⟨hx, hb, hml, hown, hts⟩ hK hA hS hP hD [.int (jz 1)] [.ref t0, .ref di, .ref tt] (mX5_text_1 l G st t0 t1 al 1 (by omega) (by omega)) lkX8_87 [6] [0, 1, 2, 3, 4, 5] (br := [bTab G tt tn bs hi mi si u_1, bTab G ta tm bs hi mi si F, bBD G x st sv bu di se wy ta tt rp, bText G t0 a0 n0 g0, bText G t1 a1 n1 g1, bGrid G di db u_3]) rfl rfl (by decide) 0 5 rfl rfl rfl rfl (Nat.le_of_ble_eq_true rfl) hl.1 dX8_missesToCome_32 ⟨Nat.le_of_ble_eq_true rfl, Nat.le_of_ble_eq_true rfl⟩ ⟨Nat.le_of_ble_eq_true rfl, Nat.le_of_ble_eq_true rfl⟩ (fun u9 H locs hp9 hP hD hS => ?_)
    have hP : wP G [bTab G tt tn bs hi mi si u_1, bTab G ta tm bs hi mi si F, bBD G x st sv bu di se wy ta tt rp, bText G t0 a0 n0 g0, bText G t1 a1 n1 g1, bGrid G di db u_3, bState G st t0 t1 al] H := hP
    have hD : wD A [bTab G tt tn bs hi mi si u_1, bTab G ta tm bs hi mi si F, bBD G x st sv bu di se wy ta tt rp, bText G t0 a0 n0 g0, bText G t1 a1 n1 g1, bGrid G di db u_3, bState G st t0 t1 al] := hD
    show W p l e rmX8_missesToCome s m args below meth c H locs 0 0 Q (F0 m 35 ls [.ref t1, .ref t0, .ref di, .ref tt])
    refine kV ⟨hx, hb, hml, hown, hts⟩ hK hA hS hP hD [.ref di, .ref t0, .ref t1] [] (mX0_meetBlocks l G tt tn bs hi mi si u_1 di db u_3 t0 a0 n0 g0 t1 a1 n1 g1 M (by omega) (by omega) (by exact hg0) (by exact hg1) (by omega) (by exact hc1) (by exact hM2)) lkX8_192 [0, 5, 3, 4] [1, 2, 6] (br := [bTab G ta tm bs hi mi si F, bBD G x st sv bu di se wy ta tt rp, bState G st t0 t1 al]) rfl rfl (by decide) 0 0 rfl rfl rfl rfl (Nat.le_of_ble_eq_true rfl) hl.1 dX8_missesToCome_35 ⟨Nat.le_of_ble_eq_true rfl, Nat.le_of_ble_eq_true rfl⟩ ⟨Nat.le_of_ble_eq_true rfl, Nat.le_of_ble_eq_true rfl⟩ (fun u9 H locs hp9 hP hD hS => ?_)
    obtain ⟨u_7, u_8, u_9, u_10, u_11⟩ := u9
    have hc_12 : (u_11, u_7, u_8, u_9) = tGo bs g0 g1 n0 n1 (M, hi, mi, si) := hp9.1
    have hd_13 : rM u_10 u_11 := hp9.2
    have hP : wP G [bTab G ta tm bs hi mi si F, bBD G x st sv bu di se wy ta tt rp, bState G st t0 t1 al, bTab G tt tn bs u_7 u_8 u_9 u_10, bGrid G di db u_3, bText G t0 a0 n0 g0, bText G t1 a1 n1 g1] H := hP
    have hD : wD A [bTab G ta tm bs hi mi si F, bBD G x st sv bu di se wy ta tt rp, bState G st t0 t1 al, bTab G tt tn bs u_7 u_8 u_9 u_10, bGrid G di db u_3, bText G t0 a0 n0 g0, bText G t1 a1 n1 g1] := hD
    show W p l e rmX8_missesToCome s m args below meth c H locs 0 0 Q (F0 m 38 ls [])
    have hc2 := hc_12
    refine lv_aload_n hx hb dX8_missesToCome_38 rfl (lv_at hl 0 rfl) ?_
    refine va_get (ci := 8) (v := .ref tt) (C := RX8) (T := TX8) (N := 9) hx hb hts wfX8 hown hK.1 hP 2 rfl rfl 7 (by decide) (hts _ wm173) (fun _ h9 => h9) rfl dX8_missesToCome_39 ?_
    refine kV ⟨hx, hb, hml, hown, hts⟩ hK hA hS hP hD [] [] (mX0_missCount l G tt tn bs u_7 u_8 u_9 u_10 ) lkX8_199 [3] [0, 1, 2, 4, 5, 6] (br := [bTab G ta tm bs hi mi si F, bBD G x st sv bu di se wy ta tt rp, bState G st t0 t1 al, bGrid G di db u_3, bText G t0 a0 n0 g0, bText G t1 a1 n1 g1]) rfl rfl (by decide) 0 0 rfl rfl rfl rfl (Nat.le_of_ble_eq_true rfl) hl.1 dX8_missesToCome_42 ⟨Nat.le_of_ble_eq_true rfl, Nat.le_of_ble_eq_true rfl⟩ ⟨Nat.le_of_ble_eq_true rfl, Nat.le_of_ble_eq_true rfl⟩ (fun u9 H locs hp9 hP hD hS => ?_)
    have hP : wP G [bTab G ta tm bs hi mi si F, bBD G x st sv bu di se wy ta tt rp, bState G st t0 t1 al, bGrid G di db u_3, bText G t0 a0 n0 g0, bText G t1 a1 n1 g1, bTab G tt tn bs u_7 u_8 u_9 u_10] H := hP
    have hD : wD A [bTab G ta tm bs hi mi si F, bBD G x st sv bu di se wy ta tt rp, bState G st t0 t1 al, bGrid G di db u_3, bText G t0 a0 n0 g0, bText G t1 a1 n1 g1, bTab G tt tn bs u_7 u_8 u_9 u_10] := hD
    show W p l e rmX8_missesToCome s m args below meth c H locs 0 0 Q (F0 m 45 ls [.int (jz u_8)])
    refine lv_aload_n hx hb dX8_missesToCome_45 rfl (lv_at hl 0 rfl) ?_
    refine va_get (ci := 8) (v := .ref ta) (C := RX8) (T := TX8) (N := 9) hx hb hts wfX8 hown hK.1 hP 2 rfl rfl 6 (by decide) (hts _ wm172) (fun _ h9 => h9) rfl dX8_missesToCome_46 ?_
    refine kV ⟨hx, hb, hml, hown, hts⟩ hK hA hS hP hD [] [.int (jz u_8)] (mX0_missCount l G ta tm bs hi mi si F ) lkX8_199 [0] [1, 2, 3, 4, 5, 6] (br := [bBD G x st sv bu di se wy ta tt rp, bState G st t0 t1 al, bGrid G di db u_3, bText G t0 a0 n0 g0, bText G t1 a1 n1 g1, bTab G tt tn bs u_7 u_8 u_9 u_10]) rfl rfl (by decide) 0 0 rfl rfl rfl rfl (Nat.le_of_ble_eq_true rfl) hl.1 dX8_missesToCome_49 ⟨Nat.le_of_ble_eq_true rfl, Nat.le_of_ble_eq_true rfl⟩ ⟨Nat.le_of_ble_eq_true rfl, Nat.le_of_ble_eq_true rfl⟩ (fun u9 H locs hp9 hP hD hS => ?_)
    have hP : wP G [bBD G x st sv bu di se wy ta tt rp, bState G st t0 t1 al, bGrid G di db u_3, bText G t0 a0 n0 g0, bText G t1 a1 n1 g1, bTab G tt tn bs u_7 u_8 u_9 u_10, bTab G ta tm bs hi mi si F] H := hP
    have hD : wD A [bBD G x st sv bu di se wy ta tt rp, bState G st t0 t1 al, bGrid G di db u_3, bText G t0 a0 n0 g0, bText G t1 a1 n1 g1, bTab G tt tn bs u_7 u_8 u_9 u_10, bTab G ta tm bs hi mi si F] := hD
    show W p l e rmX8_missesToCome s m args below meth c H locs 0 0 Q (F0 m 52 ls [.int (jz mi), .int (jz u_8)])
    refine jv_isub hx hb dX8_missesToCome_52 ?_
    exact cret_i hx hb hr hlocks hS hP hD (Nat.le_of_ble_eq_true rfl) (Nat.le_of_ble_eq_true rfl) rfl dX8_missesToCome_53 [0, 1, 3, 4, 2, 6, 5] (by decide) ⟨u_3, bs, u_7, u_8, u_9, u_10⟩ rfl trivial (congrArg (fun z : Int => some (Value.int (jz z))) (show (u_8 - mi) = (tGo bs g0 g1 n0 n1 (M, hi, mi, si)).2.2.1 - mi from by rw [← hc2])) hQ
  exact KH s.heap [] hP hD hS
abbrev rmX8_foundEnd : Room := { frames := 4, cells := 0, slots := 0, locals := 90 }
set_option maxHeartbeats 4000000 in
set_option maxRecDepth 100000 in
theorem mX8_foundEnd (l : Launch) (G : GG) (x : Nat) (st : Nat) (sv : Nat) (bu : Nat) (di : Nat) (se : Nat) (wy : Nat) (ta : Nat) (tt : Nat) (rp : Nat) (t0 : Nat) (t1 : Nat) (al : Int) (a0 : Nat) (n0 : Int) (g0 : Int → Int) (a1 : Nat) (n1 : Int) (g1 : Int → Int) (sb : Nat) (sh : Int → Int) (hn0 : 0 ≤ n0 ∧ n0 ≤ 20) (hn1 : 0 ≤ n1 ∧ n1 ≤ 20) (hg0 : ∀ j : Int, 0 ≤ j → j < n0 → 0 ≤ g0 j ∧ g0 j < 4) (hg1 : ∀ j : Int, 0 ≤ j → j < n1 → 0 ≤ g1 j ∧ g1 j < 4) : Ct l yX8_foundEnd cX8_foundEnd 6 (some .int) rmX8_foundEnd G [.ref x] [bBD G x st sv bu di se wy ta tt rp, bState G st t0 t1 al, bText G t0 a0 n0 g0, bText G t1 a1 n1 g1, bGrid G se sb sh] (fun uo : (Int → Int) => some (.int (jz (argI (fun i => D 0 g0 g1 i n1) n0)))) (fun uo => True) (fun uo => [bBD G x st sv bu di se wy ta tt rp, bState G st t0 t1 al, bText G t0 a0 n0 g0, bText G t1 a1 n1 g1, bGrid G se sb uo]) := by
  refine cof (by decide) (Nat.le_of_ble_eq_true rfl) ?_
  intro p e s m args below meth c A ls hx hb hr hml hown hts hlocks hin hA hK hP hD hS hl Q hQ
  have hown : s.vm.findClass RX8 = some m.cls := hown
  have hl : lv_has ls 6 [(0, .ref x)] := hl
  have KH : ∀ (H : Heap) (locs : List Loc), wP G [bBD G x st sv bu di se wy ta tt rp, bState G st t0 t1 al, bText G t0 a0 n0 g0, bText G t1 a1 n1 g1, bGrid G se sb sh] H → wD A [bBD G x st sv bu di se wy ta tt rp, bState G st t0 t1 al, bText G t0 a0 n0 g0, bText G t1 a1 n1 g1, bGrid G se sb sh] → va_S A s.heap H locs → W p l e rmX8_foundEnd s m args below meth c H locs 0 0 Q (F0 m 0 ls []) := by
    intro H locs hP hD hS
    refine lv_aload_n hx hb dX8_foundEnd_0 rfl (lv_at hl 0 rfl) ?_
    refine va_get (ci := 8) (v := .ref st) (C := RX8) (T := TX8) (N := 9) hx hb hts wfX8 hown hK.1 hP 0 rfl rfl 0 (by decide) (hts _ wm166) (fun _ h9 => h9) rfl dX8_foundEnd_1 ?_
    refine jv_iconst hx hb dX8_foundEnd_4 ?_
    refine kV ⟨hx, hb, hml, hown, hts⟩ hK hA hS hP hD [.int (jz 0)] [] (mX5_text_0 l G st t0 t1 al 0 (by omega) (by omega)) lkX8_87 [1] [0, 2, 3, 4] (br := [bBD G x st sv bu di se wy ta tt rp, bText G t0 a0 n0 g0, bText G t1 a1 n1 g1, bGrid G se sb sh]) rfl rfl (by decide) 0 5 rfl rfl rfl rfl (Nat.le_of_ble_eq_true rfl) hl.1 dX8_foundEnd_5 ⟨Nat.le_of_ble_eq_true rfl, Nat.le_of_ble_eq_true rfl⟩ ⟨Nat.le_of_ble_eq_true rfl, Nat.le_of_ble_eq_true rfl⟩ (fun u9 H locs hp9 hP hD hS => ?_)
    have hP : wP G [bBD G x st sv bu di se wy ta tt rp, bText G t0 a0 n0 g0, bText G t1 a1 n1 g1, bGrid G se sb sh, bState G st t0 t1 al] H := hP
    have hD : wD A [bBD G x st sv bu di se wy ta tt rp, bText G t0 a0 n0 g0, bText G t1 a1 n1 g1, bGrid G se sb sh, bState G st t0 t1 al] := hD
    show W p l e rmX8_foundEnd s m args below meth c H locs 0 0 Q (F0 m 8 ls [.ref t0])
    refine kV ⟨hx, hb, hml, hown, hts⟩ hK hA hS hP hD [] [] (mX6_size l G t0 a0 n0 g0 ) lkX8_95 [1] [0, 2, 3, 4] (br := [bBD G x st sv bu di se wy ta tt rp, bText G t1 a1 n1 g1, bGrid G se sb sh, bState G st t0 t1 al]) rfl rfl (by decide) 0 6 rfl rfl rfl rfl (Nat.le_of_ble_eq_true rfl) hl.1 dX8_foundEnd_8 ⟨Nat.le_of_ble_eq_true rfl, Nat.le_of_ble_eq_true rfl⟩ ⟨Nat.le_of_ble_eq_true rfl, Nat.le_of_ble_eq_true rfl⟩ (fun u9 H locs hp9 hP hD hS => ?_)
    have hP : wP G [bBD G x st sv bu di se wy ta tt rp, bText G t1 a1 n1 g1, bGrid G se sb sh, bState G st t0 t1 al, bText G t0 a0 n0 g0] H := hP
    have hD : wD A [bBD G x st sv bu di se wy ta tt rp, bText G t1 a1 n1 g1, bGrid G se sb sh, bState G st t0 t1 al, bText G t0 a0 n0 g0] := hD
    show W p l e rmX8_foundEnd s m args below meth c H locs 0 0 Q (F0 m 11 ls [.int (jz n0)])
    refine lv_istore_n (lv' := [(1, .int (jz n0)), (0, .ref x)]) hx hb dX8_foundEnd_11 rfl hl (by decide) rfl (fun ls hl => ?_)
    refine lv_aload_n hx hb dX8_foundEnd_12 rfl (lv_at hl 1 rfl) ?_
    refine va_get (ci := 8) (v := .ref st) (C := RX8) (T := TX8) (N := 9) hx hb hts wfX8 hown hK.1 hP 0 rfl rfl 0 (by decide) (hts _ wm166) (fun _ h9 => h9) rfl dX8_foundEnd_13 ?_
    refine jv_iconst hx hb dX8_foundEnd_16 ?_
    refine kV ⟨hx, hb, hml, hown, hts⟩ hK hA hS hP hD [.int (jz 1)] [] (mX5_text_1 l G st t0 t1 al 1 (by omega) (by omega)) lkX8_87 [3] [0, 1, 2, 4] (br := [bBD G x st sv bu di se wy ta tt rp, bText G t1 a1 n1 g1, bGrid G se sb sh, bText G t0 a0 n0 g0]) rfl rfl (by decide) 0 5 rfl rfl rfl rfl (Nat.le_of_ble_eq_true rfl) hl.1 dX8_foundEnd_17 ⟨Nat.le_of_ble_eq_true rfl, Nat.le_of_ble_eq_true rfl⟩ ⟨Nat.le_of_ble_eq_true rfl, Nat.le_of_ble_eq_true rfl⟩ (fun u9 H locs hp9 hP hD hS => ?_)
    have hP : wP G [bBD G x st sv bu di se wy ta tt rp, bText G t1 a1 n1 g1, bGrid G se sb sh, bText G t0 a0 n0 g0, bState G st t0 t1 al] H := hP
    have hD : wD A [bBD G x st sv bu di se wy ta tt rp, bText G t1 a1 n1 g1, bGrid G se sb sh, bText G t0 a0 n0 g0, bState G st t0 t1 al] := hD
    show W p l e rmX8_foundEnd s m args below meth c H locs 0 0 Q (F0 m 20 ls [.ref t1])
    refine kV ⟨hx, hb, hml, hown, hts⟩ hK hA hS hP hD [] [] (mX6_size l G t1 a1 n1 g1 ) lkX8_95 [1] [0, 2, 3, 4] (br := [bBD G x st sv bu di se wy ta tt rp, bGrid G se sb sh, bText G t0 a0 n0 g0, bState G st t0 t1 al]) rfl rfl (by decide) 0 6 rfl rfl rfl rfl (Nat.le_of_ble_eq_true rfl) hl.1 dX8_foundEnd_20 ⟨Nat.le_of_ble_eq_true rfl, Nat.le_of_ble_eq_true rfl⟩ ⟨Nat.le_of_ble_eq_true rfl, Nat.le_of_ble_eq_true rfl⟩ (fun u9 H locs hp9 hP hD hS => ?_)
    have hP : wP G [bBD G x st sv bu di se wy ta tt rp, bGrid G se sb sh, bText G t0 a0 n0 g0, bState G st t0 t1 al, bText G t1 a1 n1 g1] H := hP
    have hD : wD A [bBD G x st sv bu di se wy ta tt rp, bGrid G se sb sh, bText G t0 a0 n0 g0, bState G st t0 t1 al, bText G t1 a1 n1 g1] := hD
    show W p l e rmX8_foundEnd s m args below meth c H locs 0 0 Q (F0 m 23 ls [.int (jz n1)])
    refine lv_istore_n (lv' := [(2, .int (jz n1)), (1, .int (jz n0)), (0, .ref x)]) hx hb dX8_foundEnd_23 rfl hl (by decide) rfl (fun ls hl => ?_)
    refine lv_aload_n hx hb dX8_foundEnd_24 rfl (lv_at hl 2 rfl) ?_
    refine kV ⟨hx, hb, hml, hown, hts⟩ hK hA hS hP hD [] [] (mX8_currentSearch l G x st sv bu di se wy ta tt rp t0 t1 al a0 n0 g0 a1 n1 g1 sb sh (by omega) (by omega) (by exact hg0) (by exact hg1)) lkX8_211 [0, 3, 2, 4, 1] [] (br := []) rfl rfl (by decide) 0 8 rfl rfl rfl rfl (Nat.le_of_ble_eq_true rfl) hl.1 dX8_foundEnd_25 ⟨Nat.le_of_ble_eq_true rfl, Nat.le_of_ble_eq_true rfl⟩ ⟨Nat.le_of_ble_eq_true rfl, Nat.le_of_ble_eq_true rfl⟩ (fun u9 H locs hp9 hP hD hS => ?_)
    obtain ⟨u_5, rfl⟩ : ∃ z, z = u9 := ⟨_, rfl⟩
    have hc_6 : ∀ x y : Int, 0 ≤ x → x ≤ n0 → 0 ≤ y → y ≤ n1 → u_5 (x * 21 + y) = D 0 g0 g1 x y := hp9
    have hP : wP G [bBD G x st sv bu di se wy ta tt rp, bState G st t0 t1 al, bText G t0 a0 n0 g0, bText G t1 a1 n1 g1, bGrid G se sb u_5] H := hP
    have hD : wD A [bBD G x st sv bu di se wy ta tt rp, bState G st t0 t1 al, bText G t0 a0 n0 g0, bText G t1 a1 n1 g1, bGrid G se sb u_5] := hD
    show W p l e rmX8_foundEnd s m args below meth c H locs 0 0 Q (F0 m 28 ls [.ref se])
    have hc1 := hc_6
    refine lv_astore_n (lv' := [(3, .ref se), (2, .int (jz n1)), (1, .int (jz n0)), (0, .ref x)]) hx hb dX8_foundEnd_28 rfl hl (by decide) rfl (fun ls hl => ?_)
    refine jv_iconst hx hb dX8_foundEnd_29 ?_
    refine lv_istore (lv' := [(4, .int (jz 0)), (3, .ref se), (2, .int (jz n1)), (1, .int (jz n0)), (0, .ref x)]) hx hb dX8_foundEnd_30 hl (by decide) rfl (fun ls hl => ?_)
    refine jv_iconst hx hb dX8_foundEnd_32 ?_
    refine lv_istore (lv' := [(5, .int (jz 1)), (4, .int (jz 0)), (3, .ref se), (2, .int (jz n1)), (1, .int (jz n0)), (0, .ref x)]) hx hb dX8_foundEnd_33 hl (by decide) rfl (fun ls hl => ?_)
    have K35 : ∀ (n9 : Nat) (v : Int) (k : Int) , ((n0 + 1 - k).toNat) < n9 → (1 ≤ k ∧ k ≤ n0 + 1) → (v = argI (fun i => D 0 g0 g1 i n1) (k - 1)) → (0 ≤ v ∧ v ≤ n0) → ∀ (H : Heap) (locs : List Loc) (ls : Array Slot), wP G [bBD G x st sv bu di se wy ta tt rp, bState G st t0 t1 al, bText G t0 a0 n0 g0, bText G t1 a1 n1 g1, bGrid G se sb u_5] H → wD A [bBD G x st sv bu di se wy ta tt rp, bState G st t0 t1 al, bText G t0 a0 n0 g0, bText G t1 a1 n1 g1, bGrid G se sb u_5] → va_S A s.heap H locs → lv_has ls 6 [(0, .ref x), (1, .int (jz n0)), (2, .int (jz n1)), (3, .ref se), (4, .int (jz v)), (5, .int (jz k))] → W p l e rmX8_foundEnd s m args below meth c H locs 0 0 Q (F0 m 35 ls []) := by
      intro n9
      induction n9 with
      | zero => intro v k hm9; exact absurd hm9 (Nat.not_lt_zero _)
      | succ n9 ih35 =>
        intro v k hm9 hk hv hvb H locs ls hP hD hS hl
        refine lv_iload hx hb dX8_foundEnd_35 (lv_at hl 5 rfl) ?_
        refine lv_iload_n hx hb dX8_foundEnd_37 rfl (lv_at hl 1 rfl) ?_
        refine jv_icmp_gt (tgt := 68) hx hb dX8_foundEnd_38 (by decide) (by omega) (by omega) (fun c_7 => ?_) (fun c_7 => ?_)
        · refine lv_iload hx hb dX8_foundEnd_68 (lv_at hl 4 rfl) ?_
          exact cret_i hx hb hr hlocks hS hP hD (Nat.le_of_ble_eq_true rfl) (Nat.le_of_ble_eq_true rfl) rfl dX8_foundEnd_70 [0, 1, 2, 3, 4] (by decide) u_5 rfl trivial (congrArg (fun z : Int => some (Value.int (jz z))) (show v = argI (fun i => D 0 g0 g1 i n1) n0 from by rw [hv, show k - 1 = n0 by omega])) hQ
        · refine lv_aload_n hx hb dX8_foundEnd_41 rfl (lv_at hl 3 rfl) ?_
          refine lv_iload hx hb dX8_foundEnd_42 (lv_at hl 5 rfl) ?_
          refine lv_iload_n hx hb dX8_foundEnd_44 rfl (lv_at hl 2 rfl) ?_
          refine kV ⟨hx, hb, hml, hown, hts⟩ hK hA hS hP hD [.int (jz k), .int (jz n1)] [] (mX1_at l G se sb u_5 k n1 (by omega) (by omega)) lkX8_150 [4] [0, 1, 2, 3] (br := [bBD G x st sv bu di se wy ta tt rp, bState G st t0 t1 al, bText G t0 a0 n0 g0, bText G t1 a1 n1 g1]) rfl rfl (by decide) 0 1 rfl rfl rfl rfl (Nat.le_of_ble_eq_true rfl) hl.1 dX8_foundEnd_45 ⟨Nat.le_of_ble_eq_true rfl, Nat.le_of_ble_eq_true rfl⟩ ⟨Nat.le_of_ble_eq_true rfl, Nat.le_of_ble_eq_true rfl⟩ (fun u9 H locs hp9 hP hD hS => ?_)
          have hP : wP G [bBD G x st sv bu di se wy ta tt rp, bState G st t0 t1 al, bText G t0 a0 n0 g0, bText G t1 a1 n1 g1, bGrid G se sb u_5] H := hP
          have hD : wD A [bBD G x st sv bu di se wy ta tt rp, bState G st t0 t1 al, bText G t0 a0 n0 g0, bText G t1 a1 n1 g1, bGrid G se sb u_5] := hD
          show W p l e rmX8_foundEnd s m args below meth c H locs 0 0 Q (F0 m 48 ls [.int (jz (u_5 (k * 21 + n1)))])
          have q1 := hc1 k n1 (by omega) (by omega) (by omega) (by omega)
          have b1 := D_bd (c := 0) (Or.inl rfl) g0 g1 (i := k) (j := n1) (by omega) (by omega)
          refine lv_aload_n hx hb dX8_foundEnd_48 rfl (lv_at hl 3 rfl) ?_
          refine lv_iload hx hb dX8_foundEnd_49 (lv_at hl 4 rfl) ?_
          refine lv_iload_n hx hb dX8_foundEnd_51 rfl (lv_at hl 2 rfl) ?_
          refine kV ⟨hx, hb, hml, hown, hts⟩ hK hA hS hP hD [.int (jz v), .int (jz n1)] [.int (jz (u_5 (k * 21 + n1)))] (mX1_at l G se sb u_5 v n1 (by omega) (by omega)) lkX8_150 [4] [0, 1, 2, 3] (br := [bBD G x st sv bu di se wy ta tt rp, bState G st t0 t1 al, bText G t0 a0 n0 g0, bText G t1 a1 n1 g1]) rfl rfl (by decide) 0 1 rfl rfl rfl rfl (Nat.le_of_ble_eq_true rfl) hl.1 dX8_foundEnd_52 ⟨Nat.le_of_ble_eq_true rfl, Nat.le_of_ble_eq_true rfl⟩ ⟨Nat.le_of_ble_eq_true rfl, Nat.le_of_ble_eq_true rfl⟩ (fun u9 H locs hp9 hP hD hS => ?_)
          have hP : wP G [bBD G x st sv bu di se wy ta tt rp, bState G st t0 t1 al, bText G t0 a0 n0 g0, bText G t1 a1 n1 g1, bGrid G se sb u_5] H := hP
          have hD : wD A [bBD G x st sv bu di se wy ta tt rp, bState G st t0 t1 al, bText G t0 a0 n0 g0, bText G t1 a1 n1 g1, bGrid G se sb u_5] := hD
          show W p l e rmX8_foundEnd s m args below meth c H locs 0 0 Q (F0 m 55 ls [.int (jz (u_5 (v * 21 + n1))), .int (jz (u_5 (k * 21 + n1)))])
          have q2 := hc1 v n1 (by omega) (by omega) (by omega) (by omega)
          have b2 := D_bd (c := 0) (Or.inl rfl) g0 g1 (i := v) (j := n1) (by omega) (by omega)
          refine jv_icmp_ge (tgt := 62) hx hb dX8_foundEnd_55 (by decide) (by omega) (by omega) (fun c_10 => ?_) (fun c_10 => ?_)
          · refine jv_iinc (lv' := [(5, .int (jz (k + 1))), (0, .ref x), (1, .int (jz n0)), (2, .int (jz n1)), (3, .ref se), (4, .int (jz v))]) (k := 5) hx hb dX8_foundEnd_62 hl rfl (by decide) rfl (fun ls hl => ?_)
            refine lv_goto (tgt := 35) hx hb dX8_foundEnd_65 (by decide) ?_
            exact ih35 v (k + 1) (by omega) (by omega) (by first | (rw [show k + 1 - 1 = k - 1 + 1 by omega, argI_s _ (by omega), ← hv, if_pos (by show D 0 g0 g1 (k - 1 + 1) n1 < D 0 g0 g1 v n1; rw [show k - 1 + 1 = k by omega]; omega)]; omega) | (rw [show k + 1 - 1 = k - 1 + 1 by omega, argI_s _ (by omega), ← hv, if_neg (by show ¬ D 0 g0 g1 (k - 1 + 1) n1 < D 0 g0 g1 v n1; rw [show k - 1 + 1 = k by omega]; omega)])) (by omega) H _ _ hP hD hS (lv_sub hl [1, 2, 3, 4, 5, 0] rfl)
          · refine lv_iload hx hb dX8_foundEnd_58 (lv_at hl 5 rfl) ?_
            refine lv_istore (lv' := [(4, .int (jz k)), (0, .ref x), (1, .int (jz n0)), (2, .int (jz n1)), (3, .ref se), (5, .int (jz k))]) hx hb dX8_foundEnd_60 hl (by decide) rfl (fun ls hl => ?_)
            refine jv_iinc (lv' := [(5, .int (jz (k + 1))), (4, .int (jz k)), (0, .ref x), (1, .int (jz n0)), (2, .int (jz n1)), (3, .ref se)]) (k := 5) hx hb dX8_foundEnd_62 hl rfl (by decide) rfl (fun ls hl => ?_)
            refine lv_goto (tgt := 35) hx hb dX8_foundEnd_65 (by decide) ?_
            exact ih35 k (k + 1) (by omega) (by omega) (by first | (rw [show k + 1 - 1 = k - 1 + 1 by omega, argI_s _ (by omega), ← hv, if_pos (by show D 0 g0 g1 (k - 1 + 1) n1 < D 0 g0 g1 v n1; rw [show k - 1 + 1 = k by omega]; omega)]; omega) | (rw [show k + 1 - 1 = k - 1 + 1 by omega, argI_s _ (by omega), ← hv, if_neg (by show ¬ D 0 g0 g1 (k - 1 + 1) n1 < D 0 g0 g1 v n1; rw [show k - 1 + 1 = k by omega]; omega)])) (by omega) H _ _ hP hD hS (lv_sub hl [2, 3, 4, 5, 1, 0] rfl)
    exact K35 (((n0 + 1 - 1).toNat) + 1) 0 1 (Nat.lt_succ_self _) (by omega) (by rfl) (by omega) H _ _ hP hD hS (lv_sub hl [5, 4, 3, 2, 1, 0] rfl)
  exact KH s.heap [] hP hD hS
abbrev rmX8_foundDistance : Room := { frames := 5, cells := 0, slots := 0, locals := 115 }
set_option maxHeartbeats 4000000 in
set_option maxRecDepth 100000 in
theorem mX8_foundDistance (l : Launch) (G : GG) (x : Nat) (st : Nat) (sv : Nat) (bu : Nat) (di : Nat) (se : Nat) (wy : Nat) (ta : Nat) (tt : Nat) (rp : Nat) (t0 : Nat) (t1 : Nat) (al : Int) (a0 : Nat) (n0 : Int) (g0 : Int → Int) (a1 : Nat) (n1 : Int) (g1 : Int → Int) (sb : Nat) (sh : Int → Int) (hn0 : 0 ≤ n0 ∧ n0 ≤ 20) (hn1 : 0 ≤ n1 ∧ n1 ≤ 20) (hg0 : ∀ j : Int, 0 ≤ j → j < n0 → 0 ≤ g0 j ∧ g0 j < 4) (hg1 : ∀ j : Int, 0 ≤ j → j < n1 → 0 ≤ g1 j ∧ g1 j < 4) : Ct l yX8_foundDistance cX8_foundDistance 2 (some .int) rmX8_foundDistance G [.ref x] [bBD G x st sv bu di se wy ta tt rp, bState G st t0 t1 al, bText G t0 a0 n0 g0, bText G t1 a1 n1 g1, bGrid G se sb sh] (fun uo : (Int → Int) => some (.int (jz (D 0 g0 g1 (argI (fun i => D 0 g0 g1 i n1) n0) n1)))) (fun uo => True) (fun uo => [bBD G x st sv bu di se wy ta tt rp, bState G st t0 t1 al, bText G t0 a0 n0 g0, bText G t1 a1 n1 g1, bGrid G se sb uo]) := by
  refine cof (by decide) (Nat.le_of_ble_eq_true rfl) ?_
  intro p e s m args below meth c A ls hx hb hr hml hown hts hlocks hin hA hK hP hD hS hl Q hQ
  have hown : s.vm.findClass RX8 = some m.cls := hown
  have hl : lv_has ls 2 [(0, .ref x)] := hl
  have KH : ∀ (H : Heap) (locs : List Loc), wP G [bBD G x st sv bu di se wy ta tt rp, bState G st t0 t1 al, bText G t0 a0 n0 g0, bText G t1 a1 n1 g1, bGrid G se sb sh] H → wD A [bBD G x st sv bu di se wy ta tt rp, bState G st t0 t1 al, bText G t0 a0 n0 g0, bText G t1 a1 n1 g1, bGrid G se sb sh] → va_S A s.heap H locs → W p l e rmX8_foundDistance s m args below meth c H locs 0 0 Q (F0 m 0 ls []) := by
    intro H locs hP hD hS
    have hab := argI_bd (fun i => D 0 g0 g1 i n1) hn0.1
    refine lv_aload_n hx hb dX8_foundDistance_0 rfl (lv_at hl 0 rfl) ?_
    refine kV ⟨hx, hb, hml, hown, hts⟩ hK hA hS hP hD [] [] (mX8_foundEnd l G x st sv bu di se wy ta tt rp t0 t1 al a0 n0 g0 a1 n1 g1 sb sh (by omega) (by omega) (by exact hg0) (by exact hg1)) lkX8_208 [0, 1, 2, 3, 4] [] (br := []) rfl rfl (by decide) 0 8 rfl rfl rfl rfl (Nat.le_of_ble_eq_true rfl) hl.1 dX8_foundDistance_1 ⟨Nat.le_of_ble_eq_true rfl, Nat.le_of_ble_eq_true rfl⟩ ⟨Nat.le_of_ble_eq_true rfl, Nat.le_of_ble_eq_true rfl⟩ (fun u9 H locs hp9 hP hD hS => ?_)
    obtain ⟨u_1, rfl⟩ : ∃ z, z = u9 := ⟨_, rfl⟩
    have hP : wP G [bBD G x st sv bu di se wy ta tt rp, bState G st t0 t1 al, bText G t0 a0 n0 g0, bText G t1 a1 n1 g1, bGrid G se sb u_1] H := hP
    have hD : wD A [bBD G x st sv bu di se wy ta tt rp, bState G st t0 t1 al, bText G t0 a0 n0 g0, bText G t1 a1 n1 g1, bGrid G se sb u_1] := hD
    show W p l e rmX8_foundDistance s m args below meth c H locs 0 0 Q (F0 m 4 ls [.int (jz (argI (fun i => D 0 g0 g1 i n1) n0))])
    refine lv_istore_n (lv' := [(1, .int (jz (argI (fun i => D 0 g0 g1 i n1) n0))), (0, .ref x)]) hx hb dX8_foundDistance_4 rfl hl (by decide) rfl (fun ls hl => ?_)
    refine lv_aload_n hx hb dX8_foundDistance_5 rfl (lv_at hl 1 rfl) ?_
    refine kV ⟨hx, hb, hml, hown, hts⟩ hK hA hS hP hD [] [] (mX8_currentSearch l G x st sv bu di se wy ta tt rp t0 t1 al a0 n0 g0 a1 n1 g1 sb u_1 (by omega) (by omega) (by exact hg0) (by exact hg1)) lkX8_211 [0, 1, 2, 3, 4] [] (br := []) rfl rfl (by decide) 0 8 rfl rfl rfl rfl (Nat.le_of_ble_eq_true rfl) hl.1 dX8_foundDistance_6 ⟨Nat.le_of_ble_eq_true rfl, Nat.le_of_ble_eq_true rfl⟩ ⟨Nat.le_of_ble_eq_true rfl, Nat.le_of_ble_eq_true rfl⟩ (fun u9 H locs hp9 hP hD hS => ?_)
    obtain ⟨u_2, rfl⟩ : ∃ z, z = u9 := ⟨_, rfl⟩
    have hc_3 : ∀ x y : Int, 0 ≤ x → x ≤ n0 → 0 ≤ y → y ≤ n1 → u_2 (x * 21 + y) = D 0 g0 g1 x y := hp9
    have hP : wP G [bBD G x st sv bu di se wy ta tt rp, bState G st t0 t1 al, bText G t0 a0 n0 g0, bText G t1 a1 n1 g1, bGrid G se sb u_2] H := hP
    have hD : wD A [bBD G x st sv bu di se wy ta tt rp, bState G st t0 t1 al, bText G t0 a0 n0 g0, bText G t1 a1 n1 g1, bGrid G se sb u_2] := hD
    show W p l e rmX8_foundDistance s m args below meth c H locs 0 0 Q (F0 m 9 ls [.ref se])
    have hc1 := hc_3
    refine lv_iload_n hx hb dX8_foundDistance_9 rfl (lv_at hl 0 rfl) ?_
    refine lv_aload_n hx hb dX8_foundDistance_10 rfl (lv_at hl 1 rfl) ?_
    refine va_get (ci := 8) (v := .ref st) (C := RX8) (T := TX8) (N := 9) hx hb hts wfX8 hown hK.1 hP 0 rfl rfl 0 (by decide) (hts _ wm166) (fun _ h9 => h9) rfl dX8_foundDistance_11 ?_
    refine jv_iconst hx hb dX8_foundDistance_14 ?_
    refine kV ⟨hx, hb, hml, hown, hts⟩ hK hA hS hP hD [.int (jz 1)] [.int (jz (argI (fun i => D 0 g0 g1 i n1) n0)), .ref se] (mX5_text_1 l G st t0 t1 al 1 (by omega) (by omega)) lkX8_87 [1] [0, 2, 3, 4] (br := [bBD G x st sv bu di se wy ta tt rp, bText G t0 a0 n0 g0, bText G t1 a1 n1 g1, bGrid G se sb u_2]) rfl rfl (by decide) 0 5 rfl rfl rfl rfl (Nat.le_of_ble_eq_true rfl) hl.1 dX8_foundDistance_15 ⟨Nat.le_of_ble_eq_true rfl, Nat.le_of_ble_eq_true rfl⟩ ⟨Nat.le_of_ble_eq_true rfl, Nat.le_of_ble_eq_true rfl⟩ (fun u9 H locs hp9 hP hD hS => ?_)
    have hP : wP G [bBD G x st sv bu di se wy ta tt rp, bText G t0 a0 n0 g0, bText G t1 a1 n1 g1, bGrid G se sb u_2, bState G st t0 t1 al] H := hP
    have hD : wD A [bBD G x st sv bu di se wy ta tt rp, bText G t0 a0 n0 g0, bText G t1 a1 n1 g1, bGrid G se sb u_2, bState G st t0 t1 al] := hD
    show W p l e rmX8_foundDistance s m args below meth c H locs 0 0 Q (F0 m 18 ls [.ref t1, .int (jz (argI (fun i => D 0 g0 g1 i n1) n0)), .ref se])
    refine kV ⟨hx, hb, hml, hown, hts⟩ hK hA hS hP hD [] [.int (jz (argI (fun i => D 0 g0 g1 i n1) n0)), .ref se] (mX6_size l G t1 a1 n1 g1 ) lkX8_95 [2] [0, 1, 3, 4] (br := [bBD G x st sv bu di se wy ta tt rp, bText G t0 a0 n0 g0, bGrid G se sb u_2, bState G st t0 t1 al]) rfl rfl (by decide) 0 6 rfl rfl rfl rfl (Nat.le_of_ble_eq_true rfl) hl.1 dX8_foundDistance_18 ⟨Nat.le_of_ble_eq_true rfl, Nat.le_of_ble_eq_true rfl⟩ ⟨Nat.le_of_ble_eq_true rfl, Nat.le_of_ble_eq_true rfl⟩ (fun u9 H locs hp9 hP hD hS => ?_)
    have hP : wP G [bBD G x st sv bu di se wy ta tt rp, bText G t0 a0 n0 g0, bGrid G se sb u_2, bState G st t0 t1 al, bText G t1 a1 n1 g1] H := hP
    have hD : wD A [bBD G x st sv bu di se wy ta tt rp, bText G t0 a0 n0 g0, bGrid G se sb u_2, bState G st t0 t1 al, bText G t1 a1 n1 g1] := hD
    show W p l e rmX8_foundDistance s m args below meth c H locs 0 0 Q (F0 m 21 ls [.int (jz n1), .int (jz (argI (fun i => D 0 g0 g1 i n1) n0)), .ref se])
    refine kV ⟨hx, hb, hml, hown, hts⟩ hK hA hS hP hD [.int (jz (argI (fun i => D 0 g0 g1 i n1) n0)), .int (jz n1)] [] (mX1_at l G se sb u_2 (argI (fun i => D 0 g0 g1 i n1) n0) n1 (by omega) (by omega)) lkX8_150 [2] [0, 1, 3, 4] (br := [bBD G x st sv bu di se wy ta tt rp, bText G t0 a0 n0 g0, bState G st t0 t1 al, bText G t1 a1 n1 g1]) rfl rfl (by decide) 0 1 rfl rfl rfl rfl (Nat.le_of_ble_eq_true rfl) hl.1 dX8_foundDistance_21 ⟨Nat.le_of_ble_eq_true rfl, Nat.le_of_ble_eq_true rfl⟩ ⟨Nat.le_of_ble_eq_true rfl, Nat.le_of_ble_eq_true rfl⟩ (fun u9 H locs hp9 hP hD hS => ?_)
    have hP : wP G [bBD G x st sv bu di se wy ta tt rp, bText G t0 a0 n0 g0, bState G st t0 t1 al, bText G t1 a1 n1 g1, bGrid G se sb u_2] H := hP
    have hD : wD A [bBD G x st sv bu di se wy ta tt rp, bText G t0 a0 n0 g0, bState G st t0 t1 al, bText G t1 a1 n1 g1, bGrid G se sb u_2] := hD
    show W p l e rmX8_foundDistance s m args below meth c H locs 0 0 Q (F0 m 24 ls [.int (jz (u_2 ((argI (fun i => D 0 g0 g1 i n1) n0) * 21 + n1)))])
    exact cret_i hx hb hr hlocks hS hP hD (Nat.le_of_ble_eq_true rfl) (Nat.le_of_ble_eq_true rfl) rfl dX8_foundDistance_24 [0, 2, 1, 3, 4] (by decide) u_2 rfl trivial (congrArg (fun z : Int => some (Value.int (jz z))) (show (u_2 ((argI (fun i => D 0 g0 g1 i n1) n0) * 21 + n1)) = D 0 g0 g1 (argI (fun i => D 0 g0 g1 i n1) n0) n1 from by exact hc1 _ n1 (by omega) (by omega) (by omega) (by omega))) hQ
  exact KH s.heap [] hP hD hS
abbrev rmX8_savedStates : Room := { frames := 1, cells := 0, slots := 0, locals := 20 }
set_option maxHeartbeats 4000000 in
set_option maxRecDepth 100000 in
theorem mX8_savedStates (l : Launch) (G : GG) (x : Nat) (st : Nat) (sv : Nat) (bu : Nat) (di : Nat) (se : Nat) (wy : Nat) (ta : Nat) (tt : Nat) (rp : Nat) (sa : Nat) (od : Int) (sz : Int) (f : Int → Option Nat)  : Ct l yX8_savedStates cX8_savedStates 1 (some .int) rmX8_savedStates G [.ref x] [bBD G x st sv bu di se wy ta tt rp, bSaved G sv sa od sz f] (fun uo : Unit => some (.int (jz sz))) (fun uo => True) (fun uo => [bBD G x st sv bu di se wy ta tt rp, bSaved G sv sa od sz f]) := by
  refine cof (by decide) (Nat.le_of_ble_eq_true rfl) ?_
  intro p e s m args below meth c A ls hx hb hr hml hown hts hlocks hin hA hK hP hD hS hl Q hQ
  have hown : s.vm.findClass RX8 = some m.cls := hown
  have hl : lv_has ls 1 [(0, .ref x)] := hl
  have KH : ∀ (H : Heap) (locs : List Loc), wP G [bBD G x st sv bu di se wy ta tt rp, bSaved G sv sa od sz f] H → wD A [bBD G x st sv bu di se wy ta tt rp, bSaved G sv sa od sz f] → va_S A s.heap H locs → W p l e rmX8_savedStates s m args below meth c H locs 0 0 Q (F0 m 0 ls []) := by
    intro H locs hP hD hS
    refine lv_aload_n hx hb dX8_savedStates_0 rfl (lv_at hl 0 rfl) ?_
    refine va_get (ci := 8) (v := .ref sv) (C := RX8) (T := TX8) (N := 9) hx hb hts wfX8 hown hK.1 hP 0 rfl rfl 1 (by decide) (hts _ wm167) (fun _ h9 => h9) rfl dX8_savedStates_1 ?_
    refine kV ⟨hx, hb, hml, hown, hts⟩ hK hA hS hP hD [] [] (mX4_size l G sv sa od sz f ) lkX8_239 [1] [0] (br := [bBD G x st sv bu di se wy ta tt rp]) rfl rfl (by decide) 0 4 rfl rfl rfl rfl (Nat.le_of_ble_eq_true rfl) hl.1 dX8_savedStates_4 ⟨Nat.le_of_ble_eq_true rfl, Nat.le_of_ble_eq_true rfl⟩ ⟨Nat.le_of_ble_eq_true rfl, Nat.le_of_ble_eq_true rfl⟩ (fun u9 H locs hp9 hP hD hS => ?_)
    have hP : wP G [bBD G x st sv bu di se wy ta tt rp, bSaved G sv sa od sz f] H := hP
    have hD : wD A [bBD G x st sv bu di se wy ta tt rp, bSaved G sv sa od sz f] := hD
    show W p l e rmX8_savedStates s m args below meth c H locs 0 0 Q (F0 m 7 ls [.int (jz sz)])
    exact cret_i hx hb hr hlocks hS hP hD (Nat.le_of_ble_eq_true rfl) (Nat.le_of_ble_eq_true rfl) rfl dX8_savedStates_7 [0, 1] (by decide) () rfl trivial (congrArg (fun z : Int => some (Value.int (jz z))) (show sz = sz from by first | rfl | omega | (split <;> first | rfl | omega | (exfalso; omega)))) hQ
  exact KH s.heap [] hP hD hS
abbrev rmX8_length_0 : Room := { frames := 2, cells := 0, slots := 0, locals := 42 }
set_option maxHeartbeats 4000000 in
set_option maxRecDepth 100000 in
theorem mX8_length_0 (l : Launch) (G : GG) (x : Nat) (st : Nat) (sv : Nat) (bu : Nat) (di : Nat) (se : Nat) (wy : Nat) (ta : Nat) (tt : Nat) (rp : Nat) (t0 : Nat) (t1 : Nat) (al : Int) (a0 : Nat) (n0 : Int) (g0 : Int → Int) (a1 : Nat) (n1 : Int) (g1 : Int → Int) (z : Int) (hz : z = 0) : Ct l yX8_length cX8_length 2 (some .int) rmX8_length_0 G [.ref x, .int (jz z)] [bBD G x st sv bu di se wy ta tt rp, bState G st t0 t1 al, bText G t0 a0 n0 g0, bText G t1 a1 n1 g1] (fun uo : Unit => some (.int (jz n0))) (fun uo => True) (fun uo => [bBD G x st sv bu di se wy ta tt rp, bState G st t0 t1 al, bText G t0 a0 n0 g0, bText G t1 a1 n1 g1]) := by
  refine cof (by decide) (Nat.le_of_ble_eq_true rfl) ?_
  intro p e s m args below meth c A ls hx hb hr hml hown hts hlocks hin hA hK hP hD hS hl Q hQ
  have hown : s.vm.findClass RX8 = some m.cls := hown
  have hl : lv_has ls 2 [(0, .ref x), (1, .int (jz z))] := hl
  have KH : ∀ (H : Heap) (locs : List Loc), wP G [bBD G x st sv bu di se wy ta tt rp, bState G st t0 t1 al, bText G t0 a0 n0 g0, bText G t1 a1 n1 g1] H → wD A [bBD G x st sv bu di se wy ta tt rp, bState G st t0 t1 al, bText G t0 a0 n0 g0, bText G t1 a1 n1 g1] → va_S A s.heap H locs → W p l e rmX8_length_0 s m args below meth c H locs 0 0 Q (F0 m 0 ls []) := by
    intro H locs hP hD hS
    refine lv_aload_n hx hb dX8_length_0 rfl (lv_at hl 0 rfl) ?_
    refine lv_iload_n hx hb dX8_length_1 rfl (lv_at hl 1 rfl) ?_
    refine kV ⟨hx, hb, hml, hown, hts⟩ hK hA hS hP hD [.int (jz z)] [] (mX8_textOf_0 l G x st sv bu di se wy ta tt rp t0 t1 al z (by omega)) lkX8_100 [0, 1] [2, 3] (br := [bText G t0 a0 n0 g0, bText G t1 a1 n1 g1]) rfl rfl (by decide) 0 8 rfl rfl rfl rfl (Nat.le_of_ble_eq_true rfl) hl.1 dX8_length_2 ⟨Nat.le_of_ble_eq_true rfl, Nat.le_of_ble_eq_true rfl⟩ ⟨Nat.le_of_ble_eq_true rfl, Nat.le_of_ble_eq_true rfl⟩ (fun u9 H locs hp9 hP hD hS => ?_)
    have hP : wP G [bText G t0 a0 n0 g0, bText G t1 a1 n1 g1, bBD G x st sv bu di se wy ta tt rp, bState G st t0 t1 al] H := hP
    have hD : wD A [bText G t0 a0 n0 g0, bText G t1 a1 n1 g1, bBD G x st sv bu di se wy ta tt rp, bState G st t0 t1 al] := hD
    show W p l e rmX8_length_0 s m args below meth c H locs 0 0 Q (F0 m 5 ls [.ref t0])
    refine kV ⟨hx, hb, hml, hown, hts⟩ hK hA hS hP hD [] [] (mX6_size l G t0 a0 n0 g0 ) lkX8_95 [0] [1, 2, 3] (br := [bText G t1 a1 n1 g1, bBD G x st sv bu di se wy ta tt rp, bState G st t0 t1 al]) rfl rfl (by decide) 0 6 rfl rfl rfl rfl (Nat.le_of_ble_eq_true rfl) hl.1 dX8_length_5 ⟨Nat.le_of_ble_eq_true rfl, Nat.le_of_ble_eq_true rfl⟩ ⟨Nat.le_of_ble_eq_true rfl, Nat.le_of_ble_eq_true rfl⟩ (fun u9 H locs hp9 hP hD hS => ?_)
    have hP : wP G [bText G t1 a1 n1 g1, bBD G x st sv bu di se wy ta tt rp, bState G st t0 t1 al, bText G t0 a0 n0 g0] H := hP
    have hD : wD A [bText G t1 a1 n1 g1, bBD G x st sv bu di se wy ta tt rp, bState G st t0 t1 al, bText G t0 a0 n0 g0] := hD
    show W p l e rmX8_length_0 s m args below meth c H locs 0 0 Q (F0 m 8 ls [.int (jz n0)])
    exact cret_i hx hb hr hlocks hS hP hD (Nat.le_of_ble_eq_true rfl) (Nat.le_of_ble_eq_true rfl) rfl dX8_length_8 [1, 2, 3, 0] (by decide) () rfl trivial (congrArg (fun z : Int => some (Value.int (jz z))) (show n0 = n0 from by first | rfl | omega | (split <;> first | rfl | omega | (exfalso; omega)))) hQ
  exact KH s.heap [] hP hD hS
abbrev rmX8_letter_0 : Room := { frames := 7, cells := 1, slots := 6, locals := 121 }
set_option maxHeartbeats 4000000 in
set_option maxRecDepth 100000 in
theorem mX8_letter_0 (l : Launch) (hl0 : l.stackTraces = false) (G : GG) (x : Nat) (st : Nat) (sv : Nat) (bu : Nat) (di : Nat) (se : Nat) (wy : Nat) (ta : Nat) (tt : Nat) (rp : Nat) (t0 : Nat) (t1 : Nat) (al : Int) (a0 : Nat) (n0 : Int) (g0 : Int → Int) (a1 : Nat) (n1 : Int) (g1 : Int → Int) (z : Int) (i : Int) (hn0 : 0 ≤ n0 ∧ n0 ≤ 20) (hn1 : 0 ≤ n1 ∧ n1 ≤ 20) (hz : z = 0) (hi : jr i) : Xt l yX8_letter cX8_letter 4 (some .int) rmX8_letter_0 G [.ref x, .int (jz z), .int (jz i)] [bBD G x st sv bu di se wy ta tt rp, bState G st t0 t1 al, bText G t0 a0 n0 g0, bText G t1 a1 n1 g1] (fun uo : Unit => some (.int (jz (g0 i)))) (fun uo => (0 ≤ i ∧ i < n0)) (fun uo => [bBD G x st sv bu di se wy ta tt rp, bState G st t0 t1 al, bText G t0 a0 n0 g0, bText G t1 a1 n1 g1]) (fun E => E = "java/lang/IndexOutOfBoundsException" ∧ ¬ (0 ≤ i ∧ i < n0)) := by
  refine xof (by decide) (Nat.le_of_ble_eq_true rfl) ?_
  intro p e s m args below meth c A ls hx hb hr hml hown hts hlocks hin hA hK hP hD hS hl hX hout Q hQ
  have hown : s.vm.findClass RX8 = some m.cls := hown
  have hl : lv_has ls 4 [(0, .ref x), (1, .int (jz z)), (2, .int (jz i))] := hl
  have KH : ∀ (H : Heap) (locs : List Loc), wP G [bBD G x st sv bu di se wy ta tt rp, bState G st t0 t1 al, bText G t0 a0 n0 g0, bText G t1 a1 n1 g1] H → wD A [bBD G x st sv bu di se wy ta tt rp, bState G st t0 t1 al, bText G t0 a0 n0 g0, bText G t1 a1 n1 g1] → va_S A s.heap H locs → W p l e rmX8_letter_0 s m args below meth c H locs 0 0 Q (F0 m 0 ls []) := by
    intro H locs hP hD hS
    refine lv_aload_n hx hb dX8_letter_0 rfl (lv_at hl 0 rfl) ?_
    refine lv_iload_n hx hb dX8_letter_1 rfl (lv_at hl 1 rfl) ?_
    refine kV ⟨hx, hb, hml, hown, hts⟩ hK hA hS hP hD [.int (jz z)] [] (mX8_textOf_0 l G x st sv bu di se wy ta tt rp t0 t1 al z (by omega)) lkX8_100 [0, 1] [2, 3] (br := [bText G t0 a0 n0 g0, bText G t1 a1 n1 g1]) rfl rfl (by decide) 0 8 rfl rfl rfl rfl (Nat.le_of_ble_eq_true rfl) hl.1 dX8_letter_2 ⟨Nat.le_of_ble_eq_true rfl, Nat.le_of_ble_eq_true rfl⟩ ⟨Nat.le_of_ble_eq_true rfl, Nat.le_of_ble_eq_true rfl⟩ (fun u9 H locs hp9 hP hD hS => ?_)
    have hP : wP G [bText G t0 a0 n0 g0, bText G t1 a1 n1 g1, bBD G x st sv bu di se wy ta tt rp, bState G st t0 t1 al] H := hP
    have hD : wD A [bText G t0 a0 n0 g0, bText G t1 a1 n1 g1, bBD G x st sv bu di se wy ta tt rp, bState G st t0 t1 al] := hD
    show W p l e rmX8_letter_0 s m args below meth c H locs 0 0 Q (F0 m 5 ls [.ref t0])
    refine lv_astore_n (lv' := [(3, .ref t0), (0, .ref x), (1, .int (jz z)), (2, .int (jz i))]) hx hb dX8_letter_5 rfl hl (by decide) rfl (fun ls hl => ?_)
    refine lv_aload_n hx hb dX8_letter_6 rfl (lv_at hl 0 rfl) ?_
    refine lv_iload_n hx hb dX8_letter_7 rfl (lv_at hl 3 rfl) ?_
    refine xkS ⟨hx, hb, hml, hown, hts⟩ hK hA hS hP hD [.ref t0, .int (jz i)] [] (mX8_checkPlace l hl0 G t0 a0 n0 g0 i (by omega) (by omega)) lkX8_121 [0] [1, 2, 3] (br := [bText G t1 a1 n1 g1, bBD G x st sv bu di se wy ta tt rp, bState G st t0 t1 al]) rfl rfl (by decide) rfl rfl (Nat.le_of_ble_eq_true rfl) hl.1 dX8_letter_8 ⟨Nat.le_of_ble_eq_true rfl, Nat.le_of_ble_eq_true rfl⟩ ⟨Nat.le_of_ble_eq_true rfl, Nat.le_of_ble_eq_true rfl⟩ hX (fun E ce q9 H locs hE hP hD hS hce hcv hcl => xout hout hlocks hce hcv hcl hS hP hD [1, 2, 3, 0] (by decide) rfl (by exact hE) (Nat.le_of_ble_eq_true rfl) (Nat.le_of_ble_eq_true rfl) hQ) (fun u9 H locs hp9 hP hD hS => ?_)
    have hc_3 : 0 ≤ i ∧ i < n0 := hp9
    have hP : wP G [bText G t1 a1 n1 g1, bBD G x st sv bu di se wy ta tt rp, bState G st t0 t1 al, bText G t0 a0 n0 g0] H := hP
    have hD : wD A [bText G t1 a1 n1 g1, bBD G x st sv bu di se wy ta tt rp, bState G st t0 t1 al, bText G t0 a0 n0 g0] := hD
    show W p l e rmX8_letter_0 s m args below meth c H locs 1 6 Q (F0 m 11 ls [])
    have hc1 := hc_3
    refine lv_aload_n hx hb dX8_letter_11 rfl (lv_at hl 0 rfl) ?_
    refine lv_iload_n hx hb dX8_letter_12 rfl (lv_at hl 3 rfl) ?_
    refine kV ⟨hx, hb, hml, hown, hts⟩ hK hA hS hP hD [.int (jz i)] [] (mX6_at_in l G t0 a0 n0 g0 i (by omega) (by omega)) lkX8_125 [3] [0, 1, 2] (br := [bText G t1 a1 n1 g1, bBD G x st sv bu di se wy ta tt rp, bState G st t0 t1 al]) rfl rfl (by decide) 0 6 rfl rfl rfl rfl (Nat.le_of_ble_eq_true rfl) hl.1 dX8_letter_13 ⟨Nat.le_of_ble_eq_true rfl, Nat.le_of_ble_eq_true rfl⟩ ⟨Nat.le_of_ble_eq_true rfl, Nat.le_of_ble_eq_true rfl⟩ (fun u9 H locs hp9 hP hD hS => ?_)
    have hP : wP G [bText G t1 a1 n1 g1, bBD G x st sv bu di se wy ta tt rp, bState G st t0 t1 al, bText G t0 a0 n0 g0] H := hP
    have hD : wD A [bText G t1 a1 n1 g1, bBD G x st sv bu di se wy ta tt rp, bState G st t0 t1 al, bText G t0 a0 n0 g0] := hD
    show W p l e rmX8_letter_0 s m args below meth c H locs 1 6 Q (F0 m 16 ls [.int (jz (g0 i))])
    rw [hQ]
    exact vx_ret (cret_i hx hb hr hlocks hS hP hD (Nat.le_of_ble_eq_true rfl) (Nat.le_of_ble_eq_true rfl) rfl dX8_letter_16 [1, 2, 3, 0] (by decide) () rfl (show 0 ≤ i ∧ i < n0 from by omega) (congrArg (fun z : Int => some (Value.int (jz z))) (show (g0 i) = g0 i from by first | rfl | omega | (split <;> first | rfl | omega | (exfalso; omega)))) rfl)
  exact KH s.heap [] hP hD hS
abbrev rmX8_length_1 : Room := { frames := 2, cells := 0, slots := 0, locals := 42 }
set_option maxHeartbeats 4000000 in
set_option maxRecDepth 100000 in
theorem mX8_length_1 (l : Launch) (G : GG) (x : Nat) (st : Nat) (sv : Nat) (bu : Nat) (di : Nat) (se : Nat) (wy : Nat) (ta : Nat) (tt : Nat) (rp : Nat) (t0 : Nat) (t1 : Nat) (al : Int) (a0 : Nat) (n0 : Int) (g0 : Int → Int) (a1 : Nat) (n1 : Int) (g1 : Int → Int) (z : Int) (hz : z = 1) : Ct l yX8_length cX8_length 2 (some .int) rmX8_length_1 G [.ref x, .int (jz z)] [bBD G x st sv bu di se wy ta tt rp, bState G st t0 t1 al, bText G t0 a0 n0 g0, bText G t1 a1 n1 g1] (fun uo : Unit => some (.int (jz n1))) (fun uo => True) (fun uo => [bBD G x st sv bu di se wy ta tt rp, bState G st t0 t1 al, bText G t0 a0 n0 g0, bText G t1 a1 n1 g1]) := by
  refine cof (by decide) (Nat.le_of_ble_eq_true rfl) ?_
  intro p e s m args below meth c A ls hx hb hr hml hown hts hlocks hin hA hK hP hD hS hl Q hQ
  have hown : s.vm.findClass RX8 = some m.cls := hown
  have hl : lv_has ls 2 [(0, .ref x), (1, .int (jz z))] := hl
  have KH : ∀ (H : Heap) (locs : List Loc), wP G [bBD G x st sv bu di se wy ta tt rp, bState G st t0 t1 al, bText G t0 a0 n0 g0, bText G t1 a1 n1 g1] H → wD A [bBD G x st sv bu di se wy ta tt rp, bState G st t0 t1 al, bText G t0 a0 n0 g0, bText G t1 a1 n1 g1] → va_S A s.heap H locs → W p l e rmX8_length_1 s m args below meth c H locs 0 0 Q (F0 m 0 ls []) := by
    intro H locs hP hD hS
    refine lv_aload_n hx hb dX8_length_0 rfl (lv_at hl 0 rfl) ?_
    refine lv_iload_n hx hb dX8_length_1 rfl (lv_at hl 1 rfl) ?_
    refine kV ⟨hx, hb, hml, hown, hts⟩ hK hA hS hP hD [.int (jz z)] [] (mX8_textOf_1 l G x st sv bu di se wy ta tt rp t0 t1 al z (by omega)) lkX8_100 [0, 1] [2, 3] (br := [bText G t0 a0 n0 g0, bText G t1 a1 n1 g1]) rfl rfl (by decide) 0 8 rfl rfl rfl rfl (Nat.le_of_ble_eq_true rfl) hl.1 dX8_length_2 ⟨Nat.le_of_ble_eq_true rfl, Nat.le_of_ble_eq_true rfl⟩ ⟨Nat.le_of_ble_eq_true rfl, Nat.le_of_ble_eq_true rfl⟩ (fun u9 H locs hp9 hP hD hS => ?_)
    have hP : wP G [bText G t0 a0 n0 g0, bText G t1 a1 n1 g1, bBD G x st sv bu di se wy ta tt rp, bState G st t0 t1 al] H := hP
    have hD : wD A [bText G t0 a0 n0 g0, bText G t1 a1 n1 g1, bBD G x st sv bu di se wy ta tt rp, bState G st t0 t1 al] := hD
    show W p l e rmX8_length_1 s m args below meth c H locs 0 0 Q (F0 m 5 ls [.ref t1])
    refine kV ⟨hx, hb, hml, hown, hts⟩ hK hA hS hP hD [] [] (mX6_size l G t1 a1 n1 g1 ) lkX8_95 [1] [0, 2, 3] (br := [bText G t0 a0 n0 g0, bBD G x st sv bu di se wy ta tt rp, bState G st t0 t1 al]) rfl rfl (by decide) 0 6 rfl rfl rfl rfl (Nat.le_of_ble_eq_true rfl) hl.1 dX8_length_5 ⟨Nat.le_of_ble_eq_true rfl, Nat.le_of_ble_eq_true rfl⟩ ⟨Nat.le_of_ble_eq_true rfl, Nat.le_of_ble_eq_true rfl⟩ (fun u9 H locs hp9 hP hD hS => ?_)
    have hP : wP G [bText G t0 a0 n0 g0, bBD G x st sv bu di se wy ta tt rp, bState G st t0 t1 al, bText G t1 a1 n1 g1] H := hP
    have hD : wD A [bText G t0 a0 n0 g0, bBD G x st sv bu di se wy ta tt rp, bState G st t0 t1 al, bText G t1 a1 n1 g1] := hD
    show W p l e rmX8_length_1 s m args below meth c H locs 0 0 Q (F0 m 8 ls [.int (jz n1)])
    exact cret_i hx hb hr hlocks hS hP hD (Nat.le_of_ble_eq_true rfl) (Nat.le_of_ble_eq_true rfl) rfl dX8_length_8 [1, 2, 0, 3] (by decide) () rfl trivial (congrArg (fun z : Int => some (Value.int (jz z))) (show n1 = n1 from by first | rfl | omega | (split <;> first | rfl | omega | (exfalso; omega)))) hQ
  exact KH s.heap [] hP hD hS
abbrev rmX8_letter_1 : Room := { frames := 7, cells := 1, slots := 6, locals := 121 }
set_option maxHeartbeats 4000000 in
set_option maxRecDepth 100000 in
theorem mX8_letter_1 (l : Launch) (hl0 : l.stackTraces = false) (G : GG) (x : Nat) (st : Nat) (sv : Nat) (bu : Nat) (di : Nat) (se : Nat) (wy : Nat) (ta : Nat) (tt : Nat) (rp : Nat) (t0 : Nat) (t1 : Nat) (al : Int) (a0 : Nat) (n0 : Int) (g0 : Int → Int) (a1 : Nat) (n1 : Int) (g1 : Int → Int) (z : Int) (i : Int) (hn0 : 0 ≤ n0 ∧ n0 ≤ 20) (hn1 : 0 ≤ n1 ∧ n1 ≤ 20) (hz : z = 1) (hi : jr i) : Xt l yX8_letter cX8_letter 4 (some .int) rmX8_letter_1 G [.ref x, .int (jz z), .int (jz i)] [bBD G x st sv bu di se wy ta tt rp, bState G st t0 t1 al, bText G t0 a0 n0 g0, bText G t1 a1 n1 g1] (fun uo : Unit => some (.int (jz (g1 i)))) (fun uo => (0 ≤ i ∧ i < n1)) (fun uo => [bBD G x st sv bu di se wy ta tt rp, bState G st t0 t1 al, bText G t0 a0 n0 g0, bText G t1 a1 n1 g1]) (fun E => E = "java/lang/IndexOutOfBoundsException" ∧ ¬ (0 ≤ i ∧ i < n1)) := by
  refine xof (by decide) (Nat.le_of_ble_eq_true rfl) ?_
  intro p e s m args below meth c A ls hx hb hr hml hown hts hlocks hin hA hK hP hD hS hl hX hout Q hQ
  have hown : s.vm.findClass RX8 = some m.cls := hown
  have hl : lv_has ls 4 [(0, .ref x), (1, .int (jz z)), (2, .int (jz i))] := hl
  have KH : ∀ (H : Heap) (locs : List Loc), wP G [bBD G x st sv bu di se wy ta tt rp, bState G st t0 t1 al, bText G t0 a0 n0 g0, bText G t1 a1 n1 g1] H → wD A [bBD G x st sv bu di se wy ta tt rp, bState G st t0 t1 al, bText G t0 a0 n0 g0, bText G t1 a1 n1 g1] → va_S A s.heap H locs → W p l e rmX8_letter_1 s m args below meth c H locs 0 0 Q (F0 m 0 ls []) := by
    intro H locs hP hD hS
    refine lv_aload_n hx hb dX8_letter_0 rfl (lv_at hl 0 rfl) ?_
    refine lv_iload_n hx hb dX8_letter_1 rfl (lv_at hl 1 rfl) ?_
    refine kV ⟨hx, hb, hml, hown, hts⟩ hK hA hS hP hD [.int (jz z)] [] (mX8_textOf_1 l G x st sv bu di se wy ta tt rp t0 t1 al z (by omega)) lkX8_100 [0, 1] [2, 3] (br := [bText G t0 a0 n0 g0, bText G t1 a1 n1 g1]) rfl rfl (by decide) 0 8 rfl rfl rfl rfl (Nat.le_of_ble_eq_true rfl) hl.1 dX8_letter_2 ⟨Nat.le_of_ble_eq_true rfl, Nat.le_of_ble_eq_true rfl⟩ ⟨Nat.le_of_ble_eq_true rfl, Nat.le_of_ble_eq_true rfl⟩ (fun u9 H locs hp9 hP hD hS => ?_)
    have hP : wP G [bText G t0 a0 n0 g0, bText G t1 a1 n1 g1, bBD G x st sv bu di se wy ta tt rp, bState G st t0 t1 al] H := hP
    have hD : wD A [bText G t0 a0 n0 g0, bText G t1 a1 n1 g1, bBD G x st sv bu di se wy ta tt rp, bState G st t0 t1 al] := hD
    show W p l e rmX8_letter_1 s m args below meth c H locs 0 0 Q (F0 m 5 ls [.ref t1])
    refine lv_astore_n (lv' := [(3, .ref t1), (0, .ref x), (1, .int (jz z)), (2, .int (jz i))]) hx hb dX8_letter_5 rfl hl (by decide) rfl (fun ls hl => ?_)
    refine lv_aload_n hx hb dX8_letter_6 rfl (lv_at hl 0 rfl) ?_
    refine lv_iload_n hx hb dX8_letter_7 rfl (lv_at hl 3 rfl) ?_
    refine xkS ⟨hx, hb, hml, hown, hts⟩ hK hA hS hP hD [.ref t1, .int (jz i)] [] (mX8_checkPlace l hl0 G t1 a1 n1 g1 i (by omega) (by omega)) lkX8_121 [1] [0, 2, 3] (br := [bText G t0 a0 n0 g0, bBD G x st sv bu di se wy ta tt rp, bState G st t0 t1 al]) rfl rfl (by decide) rfl rfl (Nat.le_of_ble_eq_true rfl) hl.1 dX8_letter_8 ⟨Nat.le_of_ble_eq_true rfl, Nat.le_of_ble_eq_true rfl⟩ ⟨Nat.le_of_ble_eq_true rfl, Nat.le_of_ble_eq_true rfl⟩ hX (fun E ce q9 H locs hE hP hD hS hce hcv hcl => xout hout hlocks hce hcv hcl hS hP hD [1, 2, 0, 3] (by decide) rfl (by exact hE) (Nat.le_of_ble_eq_true rfl) (Nat.le_of_ble_eq_true rfl) hQ) (fun u9 H locs hp9 hP hD hS => ?_)
    have hc_3 : 0 ≤ i ∧ i < n1 := hp9
    have hP : wP G [bText G t0 a0 n0 g0, bBD G x st sv bu di se wy ta tt rp, bState G st t0 t1 al, bText G t1 a1 n1 g1] H := hP
    have hD : wD A [bText G t0 a0 n0 g0, bBD G x st sv bu di se wy ta tt rp, bState G st t0 t1 al, bText G t1 a1 n1 g1] := hD
    show W p l e rmX8_letter_1 s m args below meth c H locs 1 6 Q (F0 m 11 ls [])
    have hc1 := hc_3
    refine lv_aload_n hx hb dX8_letter_11 rfl (lv_at hl 0 rfl) ?_
    refine lv_iload_n hx hb dX8_letter_12 rfl (lv_at hl 3 rfl) ?_
    refine kV ⟨hx, hb, hml, hown, hts⟩ hK hA hS hP hD [.int (jz i)] [] (mX6_at_in l G t1 a1 n1 g1 i (by omega) (by omega)) lkX8_125 [3] [0, 1, 2] (br := [bText G t0 a0 n0 g0, bBD G x st sv bu di se wy ta tt rp, bState G st t0 t1 al]) rfl rfl (by decide) 0 6 rfl rfl rfl rfl (Nat.le_of_ble_eq_true rfl) hl.1 dX8_letter_13 ⟨Nat.le_of_ble_eq_true rfl, Nat.le_of_ble_eq_true rfl⟩ ⟨Nat.le_of_ble_eq_true rfl, Nat.le_of_ble_eq_true rfl⟩ (fun u9 H locs hp9 hP hD hS => ?_)
    have hP : wP G [bText G t0 a0 n0 g0, bBD G x st sv bu di se wy ta tt rp, bState G st t0 t1 al, bText G t1 a1 n1 g1] H := hP
    have hD : wD A [bText G t0 a0 n0 g0, bBD G x st sv bu di se wy ta tt rp, bState G st t0 t1 al, bText G t1 a1 n1 g1] := hD
    show W p l e rmX8_letter_1 s m args below meth c H locs 1 6 Q (F0 m 16 ls [.int (jz (g1 i))])
    rw [hQ]
    exact vx_ret (cret_i hx hb hr hlocks hS hP hD (Nat.le_of_ble_eq_true rfl) (Nat.le_of_ble_eq_true rfl) rfl dX8_letter_16 [1, 2, 0, 3] (by decide) () rfl (show 0 ≤ i ∧ i < n1 from by omega) (congrArg (fun z : Int => some (Value.int (jz z))) (show (g1 i) = g1 i from by first | rfl | omega | (split <;> first | rfl | omega | (exfalso; omega)))) rfl)
  exact KH s.heap [] hP hD hS
