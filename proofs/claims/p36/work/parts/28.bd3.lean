abbrev rmX8_insert_0 : Room := { frames := 7, cells := 6, slots := 53, locals := 121 }
set_option maxHeartbeats 4000000 in
set_option maxRecDepth 100000 in
theorem mX8_insert_0 (l : Launch) (hl0 : l.stackTraces = false) (G : GG) (x : Nat) (st : Nat) (sv : Nat) (bu : Nat) (di : Nat) (se : Nat) (wy : Nat) (ta : Nat) (tt : Nat) (rp : Nat) (t0 : Nat) (t1 : Nat) (al : Int) (a0 : Nat) (n0 : Int) (g0 : Int → Int) (a1 : Nat) (n1 : Int) (g1 : Int → Int) (sa : Nat) (od : Int) (sz : Int) (f : Int → Option Nat) (ph : Nat → SG) (kp : Nat) (z : Int) (i : Int) (v : Int) (hn0 : 0 ≤ n0 ∧ n0 ≤ 20) (hn1 : 0 ≤ n1 ∧ n1 ≤ 20) (hs : 0 ≤ sz ∧ sz ≤ 6) (ho : 0 ≤ od ∧ od < 6) (hk : kp ≤ 6 ∧ sz ≤ kp) (hk2 : od = 0 ∨ kp = 6) (hf : ∀ z : Int, 0 ≤ z → z < 6 → f z = if z < kp then some (ph z.toNat).1.1 else none) (hal : 2 ≤ al ∧ al ≤ 4) (hz : z = 0) (hi : jr i) (hv : jr v) : Xt l yX8_insert cX8_insert 5 (some .int) rmX8_insert_0 G [.ref x, .int (jz z), .int (jz i), .int (jz v)] [bBD G x st sv bu di se wy ta tt rp, bState G st t0 t1 al, bText G t0 a0 n0 g0, bText G t1 a1 n1 g1, bSaved G sv sa od sz f, bPool G ph kp] (fun uo : Int × Int × (Int → Option Nat) × (Nat → SG) × Nat => some (.int (jz (n0 + 1)))) (fun uo => ((0 ≤ i ∧ i ≤ n0) ∧ (0 ≤ v ∧ v < al) ∧ n0 < 20) ∧ ((sz < 6 → uo.1 = od ∧ uo.2.1 = sz + 1) ∧ (sz = 6 → uo.1 = (od + 1) % 6 ∧ uo.2.1 = 6)) ∧ ((uo.2.2.2.2 = kp ∨ uo.2.2.2.2 = kp + 1) ∧ (uo.2.2.2.2 : Int) ≤ 6 ∧ uo.2.1 ≤ uo.2.2.2.2 ∧ (uo.1 = 0 ∨ uo.2.2.2.2 = 6)) ∧ (∀ z : Int, 0 ≤ z → z < 6 → uo.2.2.1 z = if z < uo.2.2.2.2 then some (uo.2.2.2.1 z.toNat).1.1 else none) ∧ (∀ i : Nat, (i : Int) ≠ (uo.1 + (uo.2.1 - 1)) % 6 → i < kp → uo.2.2.2.1 i = ph i) ∧ ((uo.2.2.2.1 ((uo.1 + (uo.2.1 - 1)) % 6).toNat).2.1 = (al, n0, n1)) ∧ (∀ j : Int, 0 ≤ j → j < n0 → (uo.2.2.2.1 ((uo.1 + (uo.2.1 - 1)) % 6).toNat).2.2.1 j = g0 j) ∧ (∀ j : Int, 0 ≤ j → j < n1 → (uo.2.2.2.1 ((uo.1 + (uo.2.1 - 1)) % 6).toNat).2.2.2 j = g1 j)) (fun uo => [bBD G x st sv bu di se wy ta tt rp, bState G st t0 t1 al, bText G t0 a0 (n0 + 1) (insF g0 i n0 v), bText G t1 a1 n1 g1, bSaved G sv sa uo.1 uo.2.1 uo.2.2.1, bPool G uo.2.2.2.1 uo.2.2.2.2]) (fun E => (E = "java/lang/IndexOutOfBoundsException" ∧ ¬ (0 ≤ i ∧ i ≤ n0)) ∨ (E = "java/lang/IllegalArgumentException" ∧ (0 ≤ i ∧ i ≤ n0) ∧ ¬ (0 ≤ v ∧ v < al)) ∨ (E = "java/lang/IllegalStateException" ∧ (0 ≤ i ∧ i ≤ n0) ∧ (0 ≤ v ∧ v < al) ∧ n0 = 20)) := by
  refine xof (by decide) (Nat.le_of_ble_eq_true rfl) ?_
  intro p e s m args below meth c A ls hx hb hr hml hown hts hlocks hin hA hK hP hD hS hl hX hout Q hQ
  have hown : s.vm.findClass RX8 = some m.cls := hown
  have hl : lv_has ls 5 [(0, .ref x), (1, .int (jz z)), (2, .int (jz i)), (3, .int (jz v))] := hl
  have KH : ∀ (H : Heap) (locs : List Loc), wP G [bBD G x st sv bu di se wy ta tt rp, bState G st t0 t1 al, bText G t0 a0 n0 g0, bText G t1 a1 n1 g1, bSaved G sv sa od sz f, bPool G ph kp] H → wD A [bBD G x st sv bu di se wy ta tt rp, bState G st t0 t1 al, bText G t0 a0 n0 g0, bText G t1 a1 n1 g1, bSaved G sv sa od sz f, bPool G ph kp] → va_S A s.heap H locs → W p l e rmX8_insert_0 s m args below meth c H locs 0 0 Q (F0 m 0 ls []) := by
    intro H locs hP hD hS
    refine lv_aload_n hx hb dX8_insert_0 rfl (lv_at hl 0 rfl) ?_
    refine lv_iload_n hx hb dX8_insert_1 rfl (lv_at hl 1 rfl) ?_
    refine kV ⟨hx, hb, hml, hown, hts⟩ hK hA hS hP hD [.int (jz z)] [] (mX8_textOf_0 l G x st sv bu di se wy ta tt rp t0 t1 al z (by omega)) lkX8_100 [0, 1] [2, 3, 4, 5] (br := [bText G t0 a0 n0 g0, bText G t1 a1 n1 g1, bSaved G sv sa od sz f, bPool G ph kp]) rfl rfl (by decide) 0 8 rfl rfl rfl rfl (Nat.le_of_ble_eq_true rfl) hl.1 dX8_insert_2 ⟨Nat.le_of_ble_eq_true rfl, Nat.le_of_ble_eq_true rfl⟩ ⟨Nat.le_of_ble_eq_true rfl, Nat.le_of_ble_eq_true rfl⟩ (fun u9 H locs hp9 hP hD hS => ?_)
    have hP : wP G [bText G t0 a0 n0 g0, bText G t1 a1 n1 g1, bSaved G sv sa od sz f, bPool G ph kp, bBD G x st sv bu di se wy ta tt rp, bState G st t0 t1 al] H := hP
    have hD : wD A [bText G t0 a0 n0 g0, bText G t1 a1 n1 g1, bSaved G sv sa od sz f, bPool G ph kp, bBD G x st sv bu di se wy ta tt rp, bState G st t0 t1 al] := hD
    have hP : wP G [bText G t0 a0 n0 g0, bText G t1 a1 n1 g1, bSaved G sv sa od sz f, bBD G x st sv bu di se wy ta tt rp, bState G st t0 t1 al, bPool G ph kp] H := wP_sub hP [0, 1, 2, 4, 5, 3] rfl
    have hD : wD A [bText G t0 a0 n0 g0, bText G t1 a1 n1 g1, bSaved G sv sa od sz f, bBD G x st sv bu di se wy ta tt rp, bState G st t0 t1 al, bPool G ph kp] := wD_sub hD [0, 1, 2, 4, 5, 3] (by decide) rfl
    show W p l e rmX8_insert_0 s m args below meth c H locs 0 0 Q (F0 m 5 ls [.ref t0])
    refine lv_astore (lv' := [(4, .ref t0), (0, .ref x), (1, .int (jz z)), (2, .int (jz i)), (3, .int (jz v))]) hx hb dX8_insert_5 hl (by decide) rfl (fun ls hl => ?_)
    refine lv_iload_n hx hb dX8_insert_7 rfl (lv_at hl 3 rfl) ?_
    refine jv_if_lt (tgt := 20) hx hb dX8_insert_8 (by decide) (by omega) (fun c_2 => ?_) (fun c_2 => ?_)
    · obtain ⟨sa9, hstr9⟩ := hK.2.2.2.1 (105, "no such place in the text") (by decide +kernel)
      rw [hQ]
      exact vx_throwS (A := A) (cls := "java/lang/IndexOutOfBoundsException") (names := ["java/lang/RuntimeException", "java/lang/Exception"]) hx hb hl0 hown (by decide +kernel) (by decide +kernel) (hts _ wm202) (hts _ wm23) hstr9 (xat hK hts xa_107) xg_107 hX.1 hX.2 hS (hl.1.trans hml.symm) dX8_insert_20 dX8_insert_23 dX8_insert_24 dX8_insert_26 dX8_insert_29 (fun x9 hx9 => (hout x9 hx9).elim) (Nat.lt_of_lt_of_le (Nat.lt_succ_self 5) (Nat.le_of_ble_eq_true rfl)) (Nat.le_of_ble_eq_true rfl) (Nat.le_of_ble_eq_true rfl) (Nat.le_of_ble_eq_true rfl) hlocks (xthrow hS hP hD [3, 4, 0, 1, 2, 5] (by decide) rfl (by exact Or.inl ⟨rfl, by omega⟩)) hS.2.2 (Nat.le_of_ble_eq_true rfl) (Nat.le_of_ble_eq_true rfl)
    · refine lv_iload_n hx hb dX8_insert_11 rfl (lv_at hl 3 rfl) ?_
      refine lv_aload hx hb dX8_insert_12 (lv_at hl 0 rfl) ?_
      refine kV ⟨hx, hb, hml, hown, hts⟩ hK hA hS hP hD [] [.int (jz i)] (mX6_size l G t0 a0 n0 g0 ) lkX8_95 [0] [1, 2, 3, 4, 5] (br := [bText G t1 a1 n1 g1, bSaved G sv sa od sz f, bBD G x st sv bu di se wy ta tt rp, bState G st t0 t1 al, bPool G ph kp]) rfl rfl (by decide) 0 6 rfl rfl rfl rfl (Nat.le_of_ble_eq_true rfl) hl.1 dX8_insert_14 ⟨Nat.le_of_ble_eq_true rfl, Nat.le_of_ble_eq_true rfl⟩ ⟨Nat.le_of_ble_eq_true rfl, Nat.le_of_ble_eq_true rfl⟩ (fun u9 H locs hp9 hP hD hS => ?_)
      have hP : wP G [bText G t1 a1 n1 g1, bSaved G sv sa od sz f, bBD G x st sv bu di se wy ta tt rp, bState G st t0 t1 al, bPool G ph kp, bText G t0 a0 n0 g0] H := hP
      have hD : wD A [bText G t1 a1 n1 g1, bSaved G sv sa od sz f, bBD G x st sv bu di se wy ta tt rp, bState G st t0 t1 al, bPool G ph kp, bText G t0 a0 n0 g0] := hD
      have hP : wP G [bText G t1 a1 n1 g1, bSaved G sv sa od sz f, bBD G x st sv bu di se wy ta tt rp, bState G st t0 t1 al, bText G t0 a0 n0 g0, bPool G ph kp] H := wP_sub hP [0, 1, 2, 3, 5, 4] rfl
      have hD : wD A [bText G t1 a1 n1 g1, bSaved G sv sa od sz f, bBD G x st sv bu di se wy ta tt rp, bState G st t0 t1 al, bText G t0 a0 n0 g0, bPool G ph kp] := wD_sub hD [0, 1, 2, 3, 5, 4] (by decide) rfl
      show W p l e rmX8_insert_0 s m args below meth c H locs 0 0 Q (F0 m 17 ls [.int (jz n0), .int (jz i)])
      refine jv_icmp_le (tgt := 30) hx hb dX8_insert_17 (by decide) (by omega) (by omega) (fun c_4 => ?_) (fun c_4 => ?_)
      · refine lv_aload_n hx hb dX8_insert_30 rfl (lv_at hl 1 rfl) ?_
        refine lv_iload_n hx hb dX8_insert_31 rfl (lv_at hl 4 rfl) ?_
        refine xkV ⟨hx, hb, hml, hown, hts⟩ hK hA hS hP hD [.int (jz v)] [] (mX8_checkLetter l hl0 G x st sv bu di se wy ta tt rp t0 t1 al v (by omega) (by omega)) lkX8_108 [2, 3] [0, 1, 4, 5] (br := [bText G t1 a1 n1 g1, bSaved G sv sa od sz f, bText G t0 a0 n0 g0, bPool G ph kp]) rfl rfl (by decide) 0 8 rfl rfl rfl rfl (Nat.le_of_ble_eq_true rfl) hl.1 dX8_insert_32 ⟨Nat.le_of_ble_eq_true rfl, Nat.le_of_ble_eq_true rfl⟩ ⟨Nat.le_of_ble_eq_true rfl, Nat.le_of_ble_eq_true rfl⟩ hX (fun E ce q9 H locs hE hP hD hS hce hcv hcl => xout hout hlocks hce hcv hcl hS hP hD [4, 5, 2, 0, 1, 3] (by decide) rfl (by exact Or.inr (Or.inl ⟨hE.1, by omega, hE.2⟩)) (Nat.le_of_ble_eq_true rfl) (Nat.le_of_ble_eq_true rfl) hQ) (fun u9 H locs hp9 hP hD hS => ?_)
        have hc_6 : 0 ≤ v ∧ v < al := hp9
        have hP : wP G [bText G t1 a1 n1 g1, bSaved G sv sa od sz f, bText G t0 a0 n0 g0, bPool G ph kp, bBD G x st sv bu di se wy ta tt rp, bState G st t0 t1 al] H := hP
        have hD : wD A [bText G t1 a1 n1 g1, bSaved G sv sa od sz f, bText G t0 a0 n0 g0, bPool G ph kp, bBD G x st sv bu di se wy ta tt rp, bState G st t0 t1 al] := hD
        have hP : wP G [bText G t1 a1 n1 g1, bSaved G sv sa od sz f, bText G t0 a0 n0 g0, bBD G x st sv bu di se wy ta tt rp, bState G st t0 t1 al, bPool G ph kp] H := wP_sub hP [0, 1, 2, 4, 5, 3] rfl
        have hD : wD A [bText G t1 a1 n1 g1, bSaved G sv sa od sz f, bText G t0 a0 n0 g0, bBD G x st sv bu di se wy ta tt rp, bState G st t0 t1 al, bPool G ph kp] := wD_sub hD [0, 1, 2, 4, 5, 3] (by decide) rfl
        show W p l e rmX8_insert_0 s m args below meth c H locs 1 6 Q (F0 m 35 ls [])
        have hc1 := hc_6
        refine lv_aload hx hb dX8_insert_35 (lv_at hl 0 rfl) ?_
        refine kV ⟨hx, hb, hml, hown, hts⟩ hK hA hS hP hD [] [] (mX6_size l G t0 a0 n0 g0 ) lkX8_95 [2] [0, 1, 3, 4, 5] (br := [bText G t1 a1 n1 g1, bSaved G sv sa od sz f, bBD G x st sv bu di se wy ta tt rp, bState G st t0 t1 al, bPool G ph kp]) rfl rfl (by decide) 0 6 rfl rfl rfl rfl (Nat.le_of_ble_eq_true rfl) hl.1 dX8_insert_37 ⟨Nat.le_of_ble_eq_true rfl, Nat.le_of_ble_eq_true rfl⟩ ⟨Nat.le_of_ble_eq_true rfl, Nat.le_of_ble_eq_true rfl⟩ (fun u9 H locs hp9 hP hD hS => ?_)
        have hP : wP G [bText G t1 a1 n1 g1, bSaved G sv sa od sz f, bBD G x st sv bu di se wy ta tt rp, bState G st t0 t1 al, bPool G ph kp, bText G t0 a0 n0 g0] H := hP
        have hD : wD A [bText G t1 a1 n1 g1, bSaved G sv sa od sz f, bBD G x st sv bu di se wy ta tt rp, bState G st t0 t1 al, bPool G ph kp, bText G t0 a0 n0 g0] := hD
        have hP : wP G [bText G t1 a1 n1 g1, bSaved G sv sa od sz f, bBD G x st sv bu di se wy ta tt rp, bState G st t0 t1 al, bText G t0 a0 n0 g0, bPool G ph kp] H := wP_sub hP [0, 1, 2, 3, 5, 4] rfl
        have hD : wD A [bText G t1 a1 n1 g1, bSaved G sv sa od sz f, bBD G x st sv bu di se wy ta tt rp, bState G st t0 t1 al, bText G t0 a0 n0 g0, bPool G ph kp] := wD_sub hD [0, 1, 2, 3, 5, 4] (by decide) rfl
        show W p l e rmX8_insert_0 s m args below meth c H locs 1 6 Q (F0 m 40 ls [.int (jz n0)])
        refine jv_bipush hx hb dX8_insert_40 (by decide) ?_
        refine jv_icmp_lt (tgt := 55) hx hb dX8_insert_42 (by decide) (by omega) (by omega) (fun c_8 => ?_) (fun c_8 => ?_)
        · refine lv_aload_n hx hb dX8_insert_55 rfl (lv_at hl 1 rfl) ?_
          refine va_get (ci := 8) (v := .ref sv) (C := RX8) (T := TX8) (N := 9) hx hb hts wfX8 hown hK.1 hP 4 rfl rfl 1 (by decide) (hts _ wm167) (fun _ h9 => h9) rfl dX8_insert_56 ?_
          refine lv_aload_n hx hb dX8_insert_59 rfl (lv_at hl 1 rfl) ?_
          refine va_get (ci := 8) (v := .ref st) (C := RX8) (T := TX8) (N := 9) hx hb hts wfX8 hown hK.1 hP 4 rfl rfl 0 (by decide) (hts _ wm166) (fun _ h9 => h9) rfl dX8_insert_60 ?_
          refine kV ⟨hx, hb, hml, hown, hts⟩ hK hA hS hP hD [.ref st] [] (mX4_save l G sv sa od sz f ph kp st t0 t1 al a0 n0 g0 a1 n1 g1 (by omega) (by omega) (by omega) (by omega) (by omega) (by omega) (by exact hf)) lkX8_83 [1, 3, 4, 0, 5] [2] (br := [bBD G x st sv bu di se wy ta tt rp]) rfl rfl (by decide) 0 4 rfl rfl rfl rfl (Nat.le_of_ble_eq_true rfl) hl.1 dX8_insert_63 ⟨Nat.le_of_ble_eq_true rfl, Nat.le_of_ble_eq_true rfl⟩ ⟨Nat.le_of_ble_eq_true rfl, Nat.le_of_ble_eq_true rfl⟩ (fun u9 H locs hp9 hP hD hS => ?_)
          obtain ⟨u_9, u_10, u_11, u_12, u_13⟩ := u9
          have ha_14 : (sz < 6 → u_9 = od ∧ u_10 = sz + 1) ∧ (sz = 6 → u_9 = (od + 1) % 6 ∧ u_10 = 6) := hp9.1
          have hb_15 : (u_13 = kp ∨ u_13 = kp + 1) ∧ (u_13 : Int) ≤ 6 ∧ u_10 ≤ u_13 ∧ (u_9 = 0 ∨ u_13 = 6) := hp9.2.1
          have hf_16 : ∀ z : Int, 0 ≤ z → z < 6 → u_11 z = if z < u_13 then some (u_12 z.toNat).1.1 else none := hp9.2.2.1
          have hp_17 : ∀ i : Nat, (i : Int) ≠ (u_9 + (u_10 - 1)) % 6 → i < kp → u_12 i = ph i := hp9.2.2.2.1
          have hq_18 : (u_12 ((u_9 + (u_10 - 1)) % 6).toNat).2.1 = (al, n0, n1) := hp9.2.2.2.2.1
          have hr_19 : ∀ j : Int, 0 ≤ j → j < n0 → (u_12 ((u_9 + (u_10 - 1)) % 6).toNat).2.2.1 j = g0 j := hp9.2.2.2.2.2.1
          have hs_20 : ∀ j : Int, 0 ≤ j → j < n1 → (u_12 ((u_9 + (u_10 - 1)) % 6).toNat).2.2.2 j = g1 j := hp9.2.2.2.2.2.2
          have hP : wP G [bBD G x st sv bu di se wy ta tt rp, bSaved G sv sa u_9 u_10 u_11, bState G st t0 t1 al, bText G t0 a0 n0 g0, bText G t1 a1 n1 g1, bPool G u_12 u_13] H := hP
          have hD : wD A [bBD G x st sv bu di se wy ta tt rp, bSaved G sv sa u_9 u_10 u_11, bState G st t0 t1 al, bText G t0 a0 n0 g0, bText G t1 a1 n1 g1, bPool G u_12 u_13] := hD
          show W p l e rmX8_insert_0 s m args below meth c H locs 6 53 Q (F0 m 66 ls [])
          refine lv_aload hx hb dX8_insert_66 (lv_at hl 0 rfl) ?_
          refine lv_iload_n hx hb dX8_insert_68 rfl (lv_at hl 3 rfl) ?_
          refine lv_iload_n hx hb dX8_insert_69 rfl (lv_at hl 4 rfl) ?_
          refine kV ⟨hx, hb, hml, hown, hts⟩ hK hA hS hP hD [.int (jz i), .int (jz v)] [] (mX6_putIn l G t0 a0 n0 g0 i v (by omega) (by omega)) lkX8_117 [3] [0, 1, 2, 4, 5] (br := [bBD G x st sv bu di se wy ta tt rp, bSaved G sv sa u_9 u_10 u_11, bState G st t0 t1 al, bText G t1 a1 n1 g1, bPool G u_12 u_13]) rfl rfl (by decide) 0 6 rfl rfl rfl rfl (Nat.le_of_ble_eq_true rfl) hl.1 dX8_insert_70 ⟨Nat.le_of_ble_eq_true rfl, Nat.le_of_ble_eq_true rfl⟩ ⟨Nat.le_of_ble_eq_true rfl, Nat.le_of_ble_eq_true rfl⟩ (fun u9 H locs hp9 hP hD hS => ?_)
          have hP : wP G [bBD G x st sv bu di se wy ta tt rp, bSaved G sv sa u_9 u_10 u_11, bState G st t0 t1 al, bText G t1 a1 n1 g1, bPool G u_12 u_13, bText G t0 a0 (n0 + 1) (insF g0 i n0 v)] H := hP
          have hD : wD A [bBD G x st sv bu di se wy ta tt rp, bSaved G sv sa u_9 u_10 u_11, bState G st t0 t1 al, bText G t1 a1 n1 g1, bPool G u_12 u_13, bText G t0 a0 (n0 + 1) (insF g0 i n0 v)] := hD
          have hP : wP G [bBD G x st sv bu di se wy ta tt rp, bSaved G sv sa u_9 u_10 u_11, bState G st t0 t1 al, bText G t1 a1 n1 g1, bText G t0 a0 (n0 + 1) (insF g0 i n0 v), bPool G u_12 u_13] H := wP_sub hP [0, 1, 2, 3, 5, 4] rfl
          have hD : wD A [bBD G x st sv bu di se wy ta tt rp, bSaved G sv sa u_9 u_10 u_11, bState G st t0 t1 al, bText G t1 a1 n1 g1, bText G t0 a0 (n0 + 1) (insF g0 i n0 v), bPool G u_12 u_13] := wD_sub hD [0, 1, 2, 3, 5, 4] (by decide) rfl
          show W p l e rmX8_insert_0 s m args below meth c H locs 6 53 Q (F0 m 73 ls [])
          refine lv_aload hx hb dX8_insert_73 (lv_at hl 0 rfl) ?_
          refine kV ⟨hx, hb, hml, hown, hts⟩ hK hA hS hP hD [] [] (mX6_size l G t0 a0 (n0 + 1) (insF g0 i n0 v) ) lkX8_95 [4] [0, 1, 2, 3, 5] (br := [bBD G x st sv bu di se wy ta tt rp, bSaved G sv sa u_9 u_10 u_11, bState G st t0 t1 al, bText G t1 a1 n1 g1, bPool G u_12 u_13]) rfl rfl (by decide) 0 6 rfl rfl rfl rfl (Nat.le_of_ble_eq_true rfl) hl.1 dX8_insert_75 ⟨Nat.le_of_ble_eq_true rfl, Nat.le_of_ble_eq_true rfl⟩ ⟨Nat.le_of_ble_eq_true rfl, Nat.le_of_ble_eq_true rfl⟩ (fun u9 H locs hp9 hP hD hS => ?_)
          have hP : wP G [bBD G x st sv bu di se wy ta tt rp, bSaved G sv sa u_9 u_10 u_11, bState G st t0 t1 al, bText G t1 a1 n1 g1, bPool G u_12 u_13, bText G t0 a0 (n0 + 1) (insF g0 i n0 v)] H := hP
          have hD : wD A [bBD G x st sv bu di se wy ta tt rp, bSaved G sv sa u_9 u_10 u_11, bState G st t0 t1 al, bText G t1 a1 n1 g1, bPool G u_12 u_13, bText G t0 a0 (n0 + 1) (insF g0 i n0 v)] := hD
          have hP : wP G [bBD G x st sv bu di se wy ta tt rp, bSaved G sv sa u_9 u_10 u_11, bState G st t0 t1 al, bText G t1 a1 n1 g1, bText G t0 a0 (n0 + 1) (insF g0 i n0 v), bPool G u_12 u_13] H := wP_sub hP [0, 1, 2, 3, 5, 4] rfl
          have hD : wD A [bBD G x st sv bu di se wy ta tt rp, bSaved G sv sa u_9 u_10 u_11, bState G st t0 t1 al, bText G t1 a1 n1 g1, bText G t0 a0 (n0 + 1) (insF g0 i n0 v), bPool G u_12 u_13] := wD_sub hD [0, 1, 2, 3, 5, 4] (by decide) rfl
          show W p l e rmX8_insert_0 s m args below meth c H locs 6 53 Q (F0 m 78 ls [.int (jz (n0 + 1))])
          rw [hQ]
          exact vx_ret (cret_i hx hb hr hlocks hS hP hD (Nat.le_of_ble_eq_true rfl) (Nat.le_of_ble_eq_true rfl) rfl dX8_insert_78 [0, 2, 4, 3, 1, 5] (by decide) ⟨u_9, u_10, u_11, u_12, u_13⟩ rfl ⟨(show (0 ≤ i ∧ i ≤ n0) ∧ (0 ≤ v ∧ v < al) ∧ n0 < 20 from by omega), (show (sz < 6 → u_9 = od ∧ u_10 = sz + 1) ∧ (sz = 6 → u_9 = (od + 1) % 6 ∧ u_10 = 6) from ha_14), (show (u_13 = kp ∨ u_13 = kp + 1) ∧ (u_13 : Int) ≤ 6 ∧ u_10 ≤ u_13 ∧ (u_9 = 0 ∨ u_13 = 6) from hb_15), (show ∀ z : Int, 0 ≤ z → z < 6 → u_11 z = if z < u_13 then some (u_12 z.toNat).1.1 else none from hf_16), (show ∀ i : Nat, (i : Int) ≠ (u_9 + (u_10 - 1)) % 6 → i < kp → u_12 i = ph i from hp_17), (show (u_12 ((u_9 + (u_10 - 1)) % 6).toNat).2.1 = (al, n0, n1) from hq_18), (show ∀ j : Int, 0 ≤ j → j < n0 → (u_12 ((u_9 + (u_10 - 1)) % 6).toNat).2.2.1 j = g0 j from hr_19), (show ∀ j : Int, 0 ≤ j → j < n1 → (u_12 ((u_9 + (u_10 - 1)) % 6).toNat).2.2.2 j = g1 j from hs_20)⟩ (congrArg (fun z : Int => some (Value.int (jz z))) (show (n0 + 1) = n0 + 1 from by first | rfl | omega | (split <;> first | rfl | omega | (exfalso; omega)))) rfl)
        · obtain ⟨sa9, hstr9⟩ := hK.2.2.2.1 (114, "the text has 20 letters") (by decide +kernel)
          rw [hQ]
          exact vx_throwS (A := A) (cls := "java/lang/IllegalStateException") (names := ["java/lang/RuntimeException", "java/lang/Exception"]) hx hb hl0 hown (by decide +kernel) (by decide +kernel) (hts _ wm303) (hts _ wm25) hstr9 (xat hK hts xa_116) xg_116 hX.1 hX.2 hS (hl.1.trans hml.symm) dX8_insert_45 dX8_insert_48 dX8_insert_49 dX8_insert_51 dX8_insert_54 (fun x9 hx9 => (hout x9 hx9).elim) (Nat.lt_of_lt_of_le (Nat.lt_succ_self 5) (Nat.le_of_ble_eq_true rfl)) (Nat.le_of_ble_eq_true rfl) (Nat.le_of_ble_eq_true rfl) (Nat.le_of_ble_eq_true rfl) hlocks (xthrow hS hP hD [2, 3, 4, 0, 1, 5] (by decide) rfl (by exact Or.inr (Or.inr ⟨rfl, by omega, by omega, by omega⟩))) hS.2.2 (Nat.le_of_ble_eq_true rfl) (Nat.le_of_ble_eq_true rfl)
      · obtain ⟨sa9, hstr9⟩ := hK.2.2.2.1 (105, "no such place in the text") (by decide +kernel)
        rw [hQ]
        exact vx_throwS (A := A) (cls := "java/lang/IndexOutOfBoundsException") (names := ["java/lang/RuntimeException", "java/lang/Exception"]) hx hb hl0 hown (by decide +kernel) (by decide +kernel) (hts _ wm202) (hts _ wm23) hstr9 (xat hK hts xa_107) xg_107 hX.1 hX.2 hS (hl.1.trans hml.symm) dX8_insert_20 dX8_insert_23 dX8_insert_24 dX8_insert_26 dX8_insert_29 (fun x9 hx9 => (hout x9 hx9).elim) (Nat.lt_of_lt_of_le (Nat.lt_succ_self 5) (Nat.le_of_ble_eq_true rfl)) (Nat.le_of_ble_eq_true rfl) (Nat.le_of_ble_eq_true rfl) (Nat.le_of_ble_eq_true rfl) hlocks (xthrow hS hP hD [2, 3, 4, 0, 1, 5] (by decide) rfl (by exact Or.inl ⟨rfl, by omega⟩)) hS.2.2 (Nat.le_of_ble_eq_true rfl) (Nat.le_of_ble_eq_true rfl)
  exact KH s.heap [] hP hD hS
abbrev rmX8_remove_0 : Room := { frames := 7, cells := 6, slots := 53, locals := 121 }
set_option maxHeartbeats 4000000 in
set_option maxRecDepth 100000 in
theorem mX8_remove_0 (l : Launch) (hl0 : l.stackTraces = false) (G : GG) (x : Nat) (st : Nat) (sv : Nat) (bu : Nat) (di : Nat) (se : Nat) (wy : Nat) (ta : Nat) (tt : Nat) (rp : Nat) (t0 : Nat) (t1 : Nat) (al : Int) (a0 : Nat) (n0 : Int) (g0 : Int → Int) (a1 : Nat) (n1 : Int) (g1 : Int → Int) (sa : Nat) (od : Int) (sz : Int) (f : Int → Option Nat) (ph : Nat → SG) (kp : Nat) (z : Int) (i : Int) (hn0 : 0 ≤ n0 ∧ n0 ≤ 20) (hn1 : 0 ≤ n1 ∧ n1 ≤ 20) (hs : 0 ≤ sz ∧ sz ≤ 6) (ho : 0 ≤ od ∧ od < 6) (hk : kp ≤ 6 ∧ sz ≤ kp) (hk2 : od = 0 ∨ kp = 6) (hf : ∀ z : Int, 0 ≤ z → z < 6 → f z = if z < kp then some (ph z.toNat).1.1 else none) (hz : z = 0) (hi : jr i) : Xt l yX8_remove cX8_remove 5 (some .int) rmX8_remove_0 G [.ref x, .int (jz z), .int (jz i)] [bBD G x st sv bu di se wy ta tt rp, bState G st t0 t1 al, bText G t0 a0 n0 g0, bText G t1 a1 n1 g1, bSaved G sv sa od sz f, bPool G ph kp] (fun uo : Int × Int × (Int → Option Nat) × (Nat → SG) × Nat => some (.int (jz (g0 i)))) (fun uo => (0 ≤ i ∧ i < n0) ∧ ((sz < 6 → uo.1 = od ∧ uo.2.1 = sz + 1) ∧ (sz = 6 → uo.1 = (od + 1) % 6 ∧ uo.2.1 = 6)) ∧ ((uo.2.2.2.2 = kp ∨ uo.2.2.2.2 = kp + 1) ∧ (uo.2.2.2.2 : Int) ≤ 6 ∧ uo.2.1 ≤ uo.2.2.2.2 ∧ (uo.1 = 0 ∨ uo.2.2.2.2 = 6)) ∧ (∀ z : Int, 0 ≤ z → z < 6 → uo.2.2.1 z = if z < uo.2.2.2.2 then some (uo.2.2.2.1 z.toNat).1.1 else none) ∧ (∀ i : Nat, (i : Int) ≠ (uo.1 + (uo.2.1 - 1)) % 6 → i < kp → uo.2.2.2.1 i = ph i) ∧ ((uo.2.2.2.1 ((uo.1 + (uo.2.1 - 1)) % 6).toNat).2.1 = (al, n0, n1)) ∧ (∀ j : Int, 0 ≤ j → j < n0 → (uo.2.2.2.1 ((uo.1 + (uo.2.1 - 1)) % 6).toNat).2.2.1 j = g0 j) ∧ (∀ j : Int, 0 ≤ j → j < n1 → (uo.2.2.2.1 ((uo.1 + (uo.2.1 - 1)) % 6).toNat).2.2.2 j = g1 j)) (fun uo => [bBD G x st sv bu di se wy ta tt rp, bState G st t0 t1 al, bText G t0 a0 (n0 - 1) (delF g0 i n0), bText G t1 a1 n1 g1, bSaved G sv sa uo.1 uo.2.1 uo.2.2.1, bPool G uo.2.2.2.1 uo.2.2.2.2]) (fun E => E = "java/lang/IndexOutOfBoundsException" ∧ ¬ (0 ≤ i ∧ i < n0)) := by
  refine xof (by decide) (Nat.le_of_ble_eq_true rfl) ?_
  intro p e s m args below meth c A ls hx hb hr hml hown hts hlocks hin hA hK hP hD hS hl hX hout Q hQ
  have hown : s.vm.findClass RX8 = some m.cls := hown
  have hl : lv_has ls 5 [(0, .ref x), (1, .int (jz z)), (2, .int (jz i))] := hl
  have KH : ∀ (H : Heap) (locs : List Loc), wP G [bBD G x st sv bu di se wy ta tt rp, bState G st t0 t1 al, bText G t0 a0 n0 g0, bText G t1 a1 n1 g1, bSaved G sv sa od sz f, bPool G ph kp] H → wD A [bBD G x st sv bu di se wy ta tt rp, bState G st t0 t1 al, bText G t0 a0 n0 g0, bText G t1 a1 n1 g1, bSaved G sv sa od sz f, bPool G ph kp] → va_S A s.heap H locs → W p l e rmX8_remove_0 s m args below meth c H locs 0 0 Q (F0 m 0 ls []) := by
    intro H locs hP hD hS
    refine lv_aload_n hx hb dX8_remove_0 rfl (lv_at hl 0 rfl) ?_
    refine lv_iload_n hx hb dX8_remove_1 rfl (lv_at hl 1 rfl) ?_
    refine kV ⟨hx, hb, hml, hown, hts⟩ hK hA hS hP hD [.int (jz z)] [] (mX8_textOf_0 l G x st sv bu di se wy ta tt rp t0 t1 al z (by omega)) lkX8_100 [0, 1] [2, 3, 4, 5] (br := [bText G t0 a0 n0 g0, bText G t1 a1 n1 g1, bSaved G sv sa od sz f, bPool G ph kp]) rfl rfl (by decide) 0 8 rfl rfl rfl rfl (Nat.le_of_ble_eq_true rfl) hl.1 dX8_remove_2 ⟨Nat.le_of_ble_eq_true rfl, Nat.le_of_ble_eq_true rfl⟩ ⟨Nat.le_of_ble_eq_true rfl, Nat.le_of_ble_eq_true rfl⟩ (fun u9 H locs hp9 hP hD hS => ?_)
    have hP : wP G [bText G t0 a0 n0 g0, bText G t1 a1 n1 g1, bSaved G sv sa od sz f, bPool G ph kp, bBD G x st sv bu di se wy ta tt rp, bState G st t0 t1 al] H := hP
    have hD : wD A [bText G t0 a0 n0 g0, bText G t1 a1 n1 g1, bSaved G sv sa od sz f, bPool G ph kp, bBD G x st sv bu di se wy ta tt rp, bState G st t0 t1 al] := hD
    have hP : wP G [bText G t0 a0 n0 g0, bText G t1 a1 n1 g1, bSaved G sv sa od sz f, bBD G x st sv bu di se wy ta tt rp, bState G st t0 t1 al, bPool G ph kp] H := wP_sub hP [0, 1, 2, 4, 5, 3] rfl
    have hD : wD A [bText G t0 a0 n0 g0, bText G t1 a1 n1 g1, bSaved G sv sa od sz f, bBD G x st sv bu di se wy ta tt rp, bState G st t0 t1 al, bPool G ph kp] := wD_sub hD [0, 1, 2, 4, 5, 3] (by decide) rfl
    show W p l e rmX8_remove_0 s m args below meth c H locs 0 0 Q (F0 m 5 ls [.ref t0])
    refine lv_astore_n (lv' := [(3, .ref t0), (0, .ref x), (1, .int (jz z)), (2, .int (jz i))]) hx hb dX8_remove_5 rfl hl (by decide) rfl (fun ls hl => ?_)
    refine lv_aload_n hx hb dX8_remove_6 rfl (lv_at hl 0 rfl) ?_
    refine lv_iload_n hx hb dX8_remove_7 rfl (lv_at hl 3 rfl) ?_
    refine xkS ⟨hx, hb, hml, hown, hts⟩ hK hA hS hP hD [.ref t0, .int (jz i)] [] (mX8_checkPlace l hl0 G t0 a0 n0 g0 i (by omega) (by omega)) lkX8_121 [0] [1, 2, 3, 4, 5] (br := [bText G t1 a1 n1 g1, bSaved G sv sa od sz f, bBD G x st sv bu di se wy ta tt rp, bState G st t0 t1 al, bPool G ph kp]) rfl rfl (by decide) rfl rfl (Nat.le_of_ble_eq_true rfl) hl.1 dX8_remove_8 ⟨Nat.le_of_ble_eq_true rfl, Nat.le_of_ble_eq_true rfl⟩ ⟨Nat.le_of_ble_eq_true rfl, Nat.le_of_ble_eq_true rfl⟩ hX (fun E ce q9 H locs hE hP hD hS hce hcv hcl => xout hout hlocks hce hcv hcl hS hP hD [2, 3, 5, 0, 1, 4] (by decide) rfl (by exact hE) (Nat.le_of_ble_eq_true rfl) (Nat.le_of_ble_eq_true rfl) hQ) (fun u9 H locs hp9 hP hD hS => ?_)
    have hc_3 : 0 ≤ i ∧ i < n0 := hp9
    have hP : wP G [bText G t1 a1 n1 g1, bSaved G sv sa od sz f, bBD G x st sv bu di se wy ta tt rp, bState G st t0 t1 al, bPool G ph kp, bText G t0 a0 n0 g0] H := hP
    have hD : wD A [bText G t1 a1 n1 g1, bSaved G sv sa od sz f, bBD G x st sv bu di se wy ta tt rp, bState G st t0 t1 al, bPool G ph kp, bText G t0 a0 n0 g0] := hD
    have hP : wP G [bText G t1 a1 n1 g1, bSaved G sv sa od sz f, bBD G x st sv bu di se wy ta tt rp, bState G st t0 t1 al, bText G t0 a0 n0 g0, bPool G ph kp] H := wP_sub hP [0, 1, 2, 3, 5, 4] rfl
    have hD : wD A [bText G t1 a1 n1 g1, bSaved G sv sa od sz f, bBD G x st sv bu di se wy ta tt rp, bState G st t0 t1 al, bText G t0 a0 n0 g0, bPool G ph kp] := wD_sub hD [0, 1, 2, 3, 5, 4] (by decide) rfl
    show W p l e rmX8_remove_0 s m args below meth c H locs 1 6 Q (F0 m 11 ls [])
    have hc1 := hc_3
    refine lv_aload_n hx hb dX8_remove_11 rfl (lv_at hl 1 rfl) ?_
    refine va_get (ci := 8) (v := .ref sv) (C := RX8) (T := TX8) (N := 9) hx hb hts wfX8 hown hK.1 hP 4 rfl rfl 1 (by decide) (hts _ wm167) (fun _ h9 => h9) rfl dX8_remove_12 ?_
    refine lv_aload_n hx hb dX8_remove_15 rfl (lv_at hl 1 rfl) ?_
    refine va_get (ci := 8) (v := .ref st) (C := RX8) (T := TX8) (N := 9) hx hb hts wfX8 hown hK.1 hP 4 rfl rfl 0 (by decide) (hts _ wm166) (fun _ h9 => h9) rfl dX8_remove_16 ?_
    refine kV ⟨hx, hb, hml, hown, hts⟩ hK hA hS hP hD [.ref st] [] (mX4_save l G sv sa od sz f ph kp st t0 t1 al a0 n0 g0 a1 n1 g1 (by omega) (by omega) (by omega) (by omega) (by omega) (by omega) (by exact hf)) lkX8_83 [1, 3, 4, 0, 5] [2] (br := [bBD G x st sv bu di se wy ta tt rp]) rfl rfl (by decide) 0 4 rfl rfl rfl rfl (Nat.le_of_ble_eq_true rfl) hl.1 dX8_remove_19 ⟨Nat.le_of_ble_eq_true rfl, Nat.le_of_ble_eq_true rfl⟩ ⟨Nat.le_of_ble_eq_true rfl, Nat.le_of_ble_eq_true rfl⟩ (fun u9 H locs hp9 hP hD hS => ?_)
    obtain ⟨u_4, u_5, u_6, u_7, u_8⟩ := u9
    have ha_9 : (sz < 6 → u_4 = od ∧ u_5 = sz + 1) ∧ (sz = 6 → u_4 = (od + 1) % 6 ∧ u_5 = 6) := hp9.1
    have hb_10 : (u_8 = kp ∨ u_8 = kp + 1) ∧ (u_8 : Int) ≤ 6 ∧ u_5 ≤ u_8 ∧ (u_4 = 0 ∨ u_8 = 6) := hp9.2.1
    have hf_11 : ∀ z : Int, 0 ≤ z → z < 6 → u_6 z = if z < u_8 then some (u_7 z.toNat).1.1 else none := hp9.2.2.1
    have hp_12 : ∀ i : Nat, (i : Int) ≠ (u_4 + (u_5 - 1)) % 6 → i < kp → u_7 i = ph i := hp9.2.2.2.1
    have hq_13 : (u_7 ((u_4 + (u_5 - 1)) % 6).toNat).2.1 = (al, n0, n1) := hp9.2.2.2.2.1
    have hr_14 : ∀ j : Int, 0 ≤ j → j < n0 → (u_7 ((u_4 + (u_5 - 1)) % 6).toNat).2.2.1 j = g0 j := hp9.2.2.2.2.2.1
    have hs_15 : ∀ j : Int, 0 ≤ j → j < n1 → (u_7 ((u_4 + (u_5 - 1)) % 6).toNat).2.2.2 j = g1 j := hp9.2.2.2.2.2.2
    have hP : wP G [bBD G x st sv bu di se wy ta tt rp, bSaved G sv sa u_4 u_5 u_6, bState G st t0 t1 al, bText G t0 a0 n0 g0, bText G t1 a1 n1 g1, bPool G u_7 u_8] H := hP
    have hD : wD A [bBD G x st sv bu di se wy ta tt rp, bSaved G sv sa u_4 u_5 u_6, bState G st t0 t1 al, bText G t0 a0 n0 g0, bText G t1 a1 n1 g1, bPool G u_7 u_8] := hD
    show W p l e rmX8_remove_0 s m args below meth c H locs 6 53 Q (F0 m 22 ls [])
    refine lv_aload_n hx hb dX8_remove_22 rfl (lv_at hl 0 rfl) ?_
    refine lv_iload_n hx hb dX8_remove_23 rfl (lv_at hl 3 rfl) ?_
    refine kV ⟨hx, hb, hml, hown, hts⟩ hK hA hS hP hD [.int (jz i)] [] (mX6_at_in l G t0 a0 n0 g0 i (by omega) (by omega)) lkX8_125 [3] [0, 1, 2, 4, 5] (br := [bBD G x st sv bu di se wy ta tt rp, bSaved G sv sa u_4 u_5 u_6, bState G st t0 t1 al, bText G t1 a1 n1 g1, bPool G u_7 u_8]) rfl rfl (by decide) 0 6 rfl rfl rfl rfl (Nat.le_of_ble_eq_true rfl) hl.1 dX8_remove_24 ⟨Nat.le_of_ble_eq_true rfl, Nat.le_of_ble_eq_true rfl⟩ ⟨Nat.le_of_ble_eq_true rfl, Nat.le_of_ble_eq_true rfl⟩ (fun u9 H locs hp9 hP hD hS => ?_)
    have hP : wP G [bBD G x st sv bu di se wy ta tt rp, bSaved G sv sa u_4 u_5 u_6, bState G st t0 t1 al, bText G t1 a1 n1 g1, bPool G u_7 u_8, bText G t0 a0 n0 g0] H := hP
    have hD : wD A [bBD G x st sv bu di se wy ta tt rp, bSaved G sv sa u_4 u_5 u_6, bState G st t0 t1 al, bText G t1 a1 n1 g1, bPool G u_7 u_8, bText G t0 a0 n0 g0] := hD
    have hP : wP G [bBD G x st sv bu di se wy ta tt rp, bSaved G sv sa u_4 u_5 u_6, bState G st t0 t1 al, bText G t1 a1 n1 g1, bText G t0 a0 n0 g0, bPool G u_7 u_8] H := wP_sub hP [0, 1, 2, 3, 5, 4] rfl
    have hD : wD A [bBD G x st sv bu di se wy ta tt rp, bSaved G sv sa u_4 u_5 u_6, bState G st t0 t1 al, bText G t1 a1 n1 g1, bText G t0 a0 n0 g0, bPool G u_7 u_8] := wD_sub hD [0, 1, 2, 3, 5, 4] (by decide) rfl
    show W p l e rmX8_remove_0 s m args below meth c H locs 6 53 Q (F0 m 27 ls [.int (jz (g0 i))])
    refine lv_istore (lv' := [(4, .int (jz (g0 i))), (3, .ref t0), (0, .ref x), (1, .int (jz z)), (2, .int (jz i))]) hx hb dX8_remove_27 hl (by decide) rfl (fun ls hl => ?_)
    refine lv_aload_n hx hb dX8_remove_29 rfl (lv_at hl 1 rfl) ?_
    refine lv_iload_n hx hb dX8_remove_30 rfl (lv_at hl 4 rfl) ?_
    refine kV ⟨hx, hb, hml, hown, hts⟩ hK hA hS hP hD [.int (jz i)] [] (mX6_takeOut l G t0 a0 n0 g0 i (by omega) (by omega)) lkX8_129 [4] [0, 1, 2, 3, 5] (br := [bBD G x st sv bu di se wy ta tt rp, bSaved G sv sa u_4 u_5 u_6, bState G st t0 t1 al, bText G t1 a1 n1 g1, bPool G u_7 u_8]) rfl rfl (by decide) 0 6 rfl rfl rfl rfl (Nat.le_of_ble_eq_true rfl) hl.1 dX8_remove_31 ⟨Nat.le_of_ble_eq_true rfl, Nat.le_of_ble_eq_true rfl⟩ ⟨Nat.le_of_ble_eq_true rfl, Nat.le_of_ble_eq_true rfl⟩ (fun u9 H locs hp9 hP hD hS => ?_)
    have hP : wP G [bBD G x st sv bu di se wy ta tt rp, bSaved G sv sa u_4 u_5 u_6, bState G st t0 t1 al, bText G t1 a1 n1 g1, bPool G u_7 u_8, bText G t0 a0 (n0 - 1) (delF g0 i n0)] H := hP
    have hD : wD A [bBD G x st sv bu di se wy ta tt rp, bSaved G sv sa u_4 u_5 u_6, bState G st t0 t1 al, bText G t1 a1 n1 g1, bPool G u_7 u_8, bText G t0 a0 (n0 - 1) (delF g0 i n0)] := hD
    have hP : wP G [bBD G x st sv bu di se wy ta tt rp, bSaved G sv sa u_4 u_5 u_6, bState G st t0 t1 al, bText G t1 a1 n1 g1, bText G t0 a0 (n0 - 1) (delF g0 i n0), bPool G u_7 u_8] H := wP_sub hP [0, 1, 2, 3, 5, 4] rfl
    have hD : wD A [bBD G x st sv bu di se wy ta tt rp, bSaved G sv sa u_4 u_5 u_6, bState G st t0 t1 al, bText G t1 a1 n1 g1, bText G t0 a0 (n0 - 1) (delF g0 i n0), bPool G u_7 u_8] := wD_sub hD [0, 1, 2, 3, 5, 4] (by decide) rfl
    show W p l e rmX8_remove_0 s m args below meth c H locs 6 53 Q (F0 m 34 ls [])
    refine lv_iload hx hb dX8_remove_34 (lv_at hl 0 rfl) ?_
    rw [hQ]
    exact vx_ret (cret_i hx hb hr hlocks hS hP hD (Nat.le_of_ble_eq_true rfl) (Nat.le_of_ble_eq_true rfl) rfl dX8_remove_36 [0, 2, 4, 3, 1, 5] (by decide) ⟨u_4, u_5, u_6, u_7, u_8⟩ rfl ⟨(show 0 ≤ i ∧ i < n0 from by omega), (show (sz < 6 → u_4 = od ∧ u_5 = sz + 1) ∧ (sz = 6 → u_4 = (od + 1) % 6 ∧ u_5 = 6) from ha_9), (show (u_8 = kp ∨ u_8 = kp + 1) ∧ (u_8 : Int) ≤ 6 ∧ u_5 ≤ u_8 ∧ (u_4 = 0 ∨ u_8 = 6) from hb_10), (show ∀ z : Int, 0 ≤ z → z < 6 → u_6 z = if z < u_8 then some (u_7 z.toNat).1.1 else none from hf_11), (show ∀ i : Nat, (i : Int) ≠ (u_4 + (u_5 - 1)) % 6 → i < kp → u_7 i = ph i from hp_12), (show (u_7 ((u_4 + (u_5 - 1)) % 6).toNat).2.1 = (al, n0, n1) from hq_13), (show ∀ j : Int, 0 ≤ j → j < n0 → (u_7 ((u_4 + (u_5 - 1)) % 6).toNat).2.2.1 j = g0 j from hr_14), (show ∀ j : Int, 0 ≤ j → j < n1 → (u_7 ((u_4 + (u_5 - 1)) % 6).toNat).2.2.2 j = g1 j from hs_15)⟩ (congrArg (fun z : Int => some (Value.int (jz z))) (show (g0 i) = g0 i from by first | rfl | omega | (split <;> first | rfl | omega | (exfalso; omega)))) rfl)
  exact KH s.heap [] hP hD hS
abbrev rmX8_replace_0 : Room := { frames := 7, cells := 7, slots := 59, locals := 121 }
set_option maxHeartbeats 4000000 in
set_option maxRecDepth 100000 in
theorem mX8_replace_0 (l : Launch) (hl0 : l.stackTraces = false) (G : GG) (x : Nat) (st : Nat) (sv : Nat) (bu : Nat) (di : Nat) (se : Nat) (wy : Nat) (ta : Nat) (tt : Nat) (rp : Nat) (t0 : Nat) (t1 : Nat) (al : Int) (a0 : Nat) (n0 : Int) (g0 : Int → Int) (a1 : Nat) (n1 : Int) (g1 : Int → Int) (sa : Nat) (od : Int) (sz : Int) (f : Int → Option Nat) (ph : Nat → SG) (kp : Nat) (z : Int) (i : Int) (v : Int) (hn0 : 0 ≤ n0 ∧ n0 ≤ 20) (hn1 : 0 ≤ n1 ∧ n1 ≤ 20) (hs : 0 ≤ sz ∧ sz ≤ 6) (ho : 0 ≤ od ∧ od < 6) (hk : kp ≤ 6 ∧ sz ≤ kp) (hk2 : od = 0 ∨ kp = 6) (hf : ∀ z : Int, 0 ≤ z → z < 6 → f z = if z < kp then some (ph z.toNat).1.1 else none) (hal : 2 ≤ al ∧ al ≤ 4) (hz : z = 0) (hi : jr i) (hv : jr v) : Xt l yX8_replace cX8_replace 6 (some .int) rmX8_replace_0 G [.ref x, .int (jz z), .int (jz i), .int (jz v)] [bBD G x st sv bu di se wy ta tt rp, bState G st t0 t1 al, bText G t0 a0 n0 g0, bText G t1 a1 n1 g1, bSaved G sv sa od sz f, bPool G ph kp] (fun uo : Int × Int × (Int → Option Nat) × (Nat → SG) × Nat => some (.int (jz (g0 i)))) (fun uo => ((0 ≤ i ∧ i < n0) ∧ (0 ≤ v ∧ v < al)) ∧ ((sz < 6 → uo.1 = od ∧ uo.2.1 = sz + 1) ∧ (sz = 6 → uo.1 = (od + 1) % 6 ∧ uo.2.1 = 6)) ∧ ((uo.2.2.2.2 = kp ∨ uo.2.2.2.2 = kp + 1) ∧ (uo.2.2.2.2 : Int) ≤ 6 ∧ uo.2.1 ≤ uo.2.2.2.2 ∧ (uo.1 = 0 ∨ uo.2.2.2.2 = 6)) ∧ (∀ z : Int, 0 ≤ z → z < 6 → uo.2.2.1 z = if z < uo.2.2.2.2 then some (uo.2.2.2.1 z.toNat).1.1 else none) ∧ (∀ i : Nat, (i : Int) ≠ (uo.1 + (uo.2.1 - 1)) % 6 → i < kp → uo.2.2.2.1 i = ph i) ∧ ((uo.2.2.2.1 ((uo.1 + (uo.2.1 - 1)) % 6).toNat).2.1 = (al, n0, n1)) ∧ (∀ j : Int, 0 ≤ j → j < n0 → (uo.2.2.2.1 ((uo.1 + (uo.2.1 - 1)) % 6).toNat).2.2.1 j = g0 j) ∧ (∀ j : Int, 0 ≤ j → j < n1 → (uo.2.2.2.1 ((uo.1 + (uo.2.1 - 1)) % 6).toNat).2.2.2 j = g1 j)) (fun uo => [bBD G x st sv bu di se wy ta tt rp, bState G st t0 t1 al, bText G t0 a0 n0 (up g0 i v), bText G t1 a1 n1 g1, bSaved G sv sa uo.1 uo.2.1 uo.2.2.1, bPool G uo.2.2.2.1 uo.2.2.2.2]) (fun E => (E = "java/lang/IndexOutOfBoundsException" ∧ ¬ (0 ≤ i ∧ i < n0)) ∨ (E = "java/lang/IllegalArgumentException" ∧ (0 ≤ i ∧ i < n0) ∧ ¬ (0 ≤ v ∧ v < al))) := by
  refine xof (by decide) (Nat.le_of_ble_eq_true rfl) ?_
  intro p e s m args below meth c A ls hx hb hr hml hown hts hlocks hin hA hK hP hD hS hl hX hout Q hQ
  have hown : s.vm.findClass RX8 = some m.cls := hown
  have hl : lv_has ls 6 [(0, .ref x), (1, .int (jz z)), (2, .int (jz i)), (3, .int (jz v))] := hl
  have KH : ∀ (H : Heap) (locs : List Loc), wP G [bBD G x st sv bu di se wy ta tt rp, bState G st t0 t1 al, bText G t0 a0 n0 g0, bText G t1 a1 n1 g1, bSaved G sv sa od sz f, bPool G ph kp] H → wD A [bBD G x st sv bu di se wy ta tt rp, bState G st t0 t1 al, bText G t0 a0 n0 g0, bText G t1 a1 n1 g1, bSaved G sv sa od sz f, bPool G ph kp] → va_S A s.heap H locs → W p l e rmX8_replace_0 s m args below meth c H locs 0 0 Q (F0 m 0 ls []) := by
    intro H locs hP hD hS
    refine lv_aload_n hx hb dX8_replace_0 rfl (lv_at hl 0 rfl) ?_
    refine lv_iload_n hx hb dX8_replace_1 rfl (lv_at hl 1 rfl) ?_
    refine kV ⟨hx, hb, hml, hown, hts⟩ hK hA hS hP hD [.int (jz z)] [] (mX8_textOf_0 l G x st sv bu di se wy ta tt rp t0 t1 al z (by omega)) lkX8_100 [0, 1] [2, 3, 4, 5] (br := [bText G t0 a0 n0 g0, bText G t1 a1 n1 g1, bSaved G sv sa od sz f, bPool G ph kp]) rfl rfl (by decide) 0 8 rfl rfl rfl rfl (Nat.le_of_ble_eq_true rfl) hl.1 dX8_replace_2 ⟨Nat.le_of_ble_eq_true rfl, Nat.le_of_ble_eq_true rfl⟩ ⟨Nat.le_of_ble_eq_true rfl, Nat.le_of_ble_eq_true rfl⟩ (fun u9 H locs hp9 hP hD hS => ?_)
    have hP : wP G [bText G t0 a0 n0 g0, bText G t1 a1 n1 g1, bSaved G sv sa od sz f, bPool G ph kp, bBD G x st sv bu di se wy ta tt rp, bState G st t0 t1 al] H := hP
    have hD : wD A [bText G t0 a0 n0 g0, bText G t1 a1 n1 g1, bSaved G sv sa od sz f, bPool G ph kp, bBD G x st sv bu di se wy ta tt rp, bState G st t0 t1 al] := hD
    have hP : wP G [bText G t0 a0 n0 g0, bText G t1 a1 n1 g1, bSaved G sv sa od sz f, bBD G x st sv bu di se wy ta tt rp, bState G st t0 t1 al, bPool G ph kp] H := wP_sub hP [0, 1, 2, 4, 5, 3] rfl
    have hD : wD A [bText G t0 a0 n0 g0, bText G t1 a1 n1 g1, bSaved G sv sa od sz f, bBD G x st sv bu di se wy ta tt rp, bState G st t0 t1 al, bPool G ph kp] := wD_sub hD [0, 1, 2, 4, 5, 3] (by decide) rfl
    show W p l e rmX8_replace_0 s m args below meth c H locs 0 0 Q (F0 m 5 ls [.ref t0])
    refine lv_astore (lv' := [(4, .ref t0), (0, .ref x), (1, .int (jz z)), (2, .int (jz i)), (3, .int (jz v))]) hx hb dX8_replace_5 hl (by decide) rfl (fun ls hl => ?_)
    refine lv_aload hx hb dX8_replace_7 (lv_at hl 0 rfl) ?_
    refine lv_iload_n hx hb dX8_replace_9 rfl (lv_at hl 3 rfl) ?_
    refine xkS ⟨hx, hb, hml, hown, hts⟩ hK hA hS hP hD [.ref t0, .int (jz i)] [] (mX8_checkPlace l hl0 G t0 a0 n0 g0 i (by omega) (by omega)) lkX8_121 [0] [1, 2, 3, 4, 5] (br := [bText G t1 a1 n1 g1, bSaved G sv sa od sz f, bBD G x st sv bu di se wy ta tt rp, bState G st t0 t1 al, bPool G ph kp]) rfl rfl (by decide) rfl rfl (Nat.le_of_ble_eq_true rfl) hl.1 dX8_replace_10 ⟨Nat.le_of_ble_eq_true rfl, Nat.le_of_ble_eq_true rfl⟩ ⟨Nat.le_of_ble_eq_true rfl, Nat.le_of_ble_eq_true rfl⟩ hX (fun E ce q9 H locs hE hP hD hS hce hcv hcl => xout hout hlocks hce hcv hcl hS hP hD [2, 3, 5, 0, 1, 4] (by decide) rfl (by exact Or.inl hE) (Nat.le_of_ble_eq_true rfl) (Nat.le_of_ble_eq_true rfl) hQ) (fun u9 H locs hp9 hP hD hS => ?_)
    have hc_3 : 0 ≤ i ∧ i < n0 := hp9
    have hP : wP G [bText G t1 a1 n1 g1, bSaved G sv sa od sz f, bBD G x st sv bu di se wy ta tt rp, bState G st t0 t1 al, bPool G ph kp, bText G t0 a0 n0 g0] H := hP
    have hD : wD A [bText G t1 a1 n1 g1, bSaved G sv sa od sz f, bBD G x st sv bu di se wy ta tt rp, bState G st t0 t1 al, bPool G ph kp, bText G t0 a0 n0 g0] := hD
    have hP : wP G [bText G t1 a1 n1 g1, bSaved G sv sa od sz f, bBD G x st sv bu di se wy ta tt rp, bState G st t0 t1 al, bText G t0 a0 n0 g0, bPool G ph kp] H := wP_sub hP [0, 1, 2, 3, 5, 4] rfl
    have hD : wD A [bText G t1 a1 n1 g1, bSaved G sv sa od sz f, bBD G x st sv bu di se wy ta tt rp, bState G st t0 t1 al, bText G t0 a0 n0 g0, bPool G ph kp] := wD_sub hD [0, 1, 2, 3, 5, 4] (by decide) rfl
    show W p l e rmX8_replace_0 s m args below meth c H locs 1 6 Q (F0 m 13 ls [])
    have hc1 := hc_3
    refine lv_aload_n hx hb dX8_replace_13 rfl (lv_at hl 1 rfl) ?_
    refine lv_iload_n hx hb dX8_replace_14 rfl (lv_at hl 4 rfl) ?_
    refine xkV ⟨hx, hb, hml, hown, hts⟩ hK hA hS hP hD [.int (jz v)] [] (mX8_checkLetter l hl0 G x st sv bu di se wy ta tt rp t0 t1 al v (by omega) (by omega)) lkX8_108 [2, 3] [0, 1, 4, 5] (br := [bText G t1 a1 n1 g1, bSaved G sv sa od sz f, bText G t0 a0 n0 g0, bPool G ph kp]) rfl rfl (by decide) 0 8 rfl rfl rfl rfl (Nat.le_of_ble_eq_true rfl) hl.1 dX8_replace_15 ⟨Nat.le_of_ble_eq_true rfl, Nat.le_of_ble_eq_true rfl⟩ ⟨Nat.le_of_ble_eq_true rfl, Nat.le_of_ble_eq_true rfl⟩ hX (fun E ce q9 H locs hE hP hD hS hce hcv hcl => xout hout hlocks hce hcv hcl hS hP hD [4, 5, 2, 0, 1, 3] (by decide) rfl (by exact Or.inr ⟨hE.1, by omega, hE.2⟩) (Nat.le_of_ble_eq_true rfl) (Nat.le_of_ble_eq_true rfl) hQ) (fun u9 H locs hp9 hP hD hS => ?_)
    have hc_5 : 0 ≤ v ∧ v < al := hp9
    have hP : wP G [bText G t1 a1 n1 g1, bSaved G sv sa od sz f, bText G t0 a0 n0 g0, bPool G ph kp, bBD G x st sv bu di se wy ta tt rp, bState G st t0 t1 al] H := hP
    have hD : wD A [bText G t1 a1 n1 g1, bSaved G sv sa od sz f, bText G t0 a0 n0 g0, bPool G ph kp, bBD G x st sv bu di se wy ta tt rp, bState G st t0 t1 al] := hD
    have hP : wP G [bText G t1 a1 n1 g1, bSaved G sv sa od sz f, bText G t0 a0 n0 g0, bBD G x st sv bu di se wy ta tt rp, bState G st t0 t1 al, bPool G ph kp] H := wP_sub hP [0, 1, 2, 4, 5, 3] rfl
    have hD : wD A [bText G t1 a1 n1 g1, bSaved G sv sa od sz f, bText G t0 a0 n0 g0, bBD G x st sv bu di se wy ta tt rp, bState G st t0 t1 al, bPool G ph kp] := wD_sub hD [0, 1, 2, 4, 5, 3] (by decide) rfl
    show W p l e rmX8_replace_0 s m args below meth c H locs 2 12 Q (F0 m 18 ls [])
    have hc2 := hc_5
    refine lv_aload_n hx hb dX8_replace_18 rfl (lv_at hl 1 rfl) ?_
    refine va_get (ci := 8) (v := .ref sv) (C := RX8) (T := TX8) (N := 9) hx hb hts wfX8 hown hK.1 hP 6 rfl rfl 1 (by decide) (hts _ wm167) (fun _ h9 => h9) rfl dX8_replace_19 ?_
    refine lv_aload_n hx hb dX8_replace_22 rfl (lv_at hl 1 rfl) ?_
    refine va_get (ci := 8) (v := .ref st) (C := RX8) (T := TX8) (N := 9) hx hb hts wfX8 hown hK.1 hP 6 rfl rfl 0 (by decide) (hts _ wm166) (fun _ h9 => h9) rfl dX8_replace_23 ?_
    refine kV ⟨hx, hb, hml, hown, hts⟩ hK hA hS hP hD [.ref st] [] (mX4_save l G sv sa od sz f ph kp st t0 t1 al a0 n0 g0 a1 n1 g1 (by omega) (by omega) (by omega) (by omega) (by omega) (by omega) (by exact hf)) lkX8_83 [1, 4, 2, 0, 5] [3] (br := [bBD G x st sv bu di se wy ta tt rp]) rfl rfl (by decide) 0 4 rfl rfl rfl rfl (Nat.le_of_ble_eq_true rfl) hl.1 dX8_replace_26 ⟨Nat.le_of_ble_eq_true rfl, Nat.le_of_ble_eq_true rfl⟩ ⟨Nat.le_of_ble_eq_true rfl, Nat.le_of_ble_eq_true rfl⟩ (fun u9 H locs hp9 hP hD hS => ?_)
    obtain ⟨u_6, u_7, u_8, u_9, u_10⟩ := u9
    have ha_11 : (sz < 6 → u_6 = od ∧ u_7 = sz + 1) ∧ (sz = 6 → u_6 = (od + 1) % 6 ∧ u_7 = 6) := hp9.1
    have hb_12 : (u_10 = kp ∨ u_10 = kp + 1) ∧ (u_10 : Int) ≤ 6 ∧ u_7 ≤ u_10 ∧ (u_6 = 0 ∨ u_10 = 6) := hp9.2.1
    have hf_13 : ∀ z : Int, 0 ≤ z → z < 6 → u_8 z = if z < u_10 then some (u_9 z.toNat).1.1 else none := hp9.2.2.1
    have hp_14 : ∀ i : Nat, (i : Int) ≠ (u_6 + (u_7 - 1)) % 6 → i < kp → u_9 i = ph i := hp9.2.2.2.1
    have hq_15 : (u_9 ((u_6 + (u_7 - 1)) % 6).toNat).2.1 = (al, n0, n1) := hp9.2.2.2.2.1
    have hr_16 : ∀ j : Int, 0 ≤ j → j < n0 → (u_9 ((u_6 + (u_7 - 1)) % 6).toNat).2.2.1 j = g0 j := hp9.2.2.2.2.2.1
    have hs_17 : ∀ j : Int, 0 ≤ j → j < n1 → (u_9 ((u_6 + (u_7 - 1)) % 6).toNat).2.2.2 j = g1 j := hp9.2.2.2.2.2.2
    have hP : wP G [bBD G x st sv bu di se wy ta tt rp, bSaved G sv sa u_6 u_7 u_8, bState G st t0 t1 al, bText G t0 a0 n0 g0, bText G t1 a1 n1 g1, bPool G u_9 u_10] H := hP
    have hD : wD A [bBD G x st sv bu di se wy ta tt rp, bSaved G sv sa u_6 u_7 u_8, bState G st t0 t1 al, bText G t0 a0 n0 g0, bText G t1 a1 n1 g1, bPool G u_9 u_10] := hD
    show W p l e rmX8_replace_0 s m args below meth c H locs 7 59 Q (F0 m 29 ls [])
    refine lv_aload hx hb dX8_replace_29 (lv_at hl 0 rfl) ?_
    refine lv_iload_n hx hb dX8_replace_31 rfl (lv_at hl 3 rfl) ?_
    refine kV ⟨hx, hb, hml, hown, hts⟩ hK hA hS hP hD [.int (jz i)] [] (mX6_at_in l G t0 a0 n0 g0 i (by omega) (by omega)) lkX8_125 [3] [0, 1, 2, 4, 5] (br := [bBD G x st sv bu di se wy ta tt rp, bSaved G sv sa u_6 u_7 u_8, bState G st t0 t1 al, bText G t1 a1 n1 g1, bPool G u_9 u_10]) rfl rfl (by decide) 0 6 rfl rfl rfl rfl (Nat.le_of_ble_eq_true rfl) hl.1 dX8_replace_32 ⟨Nat.le_of_ble_eq_true rfl, Nat.le_of_ble_eq_true rfl⟩ ⟨Nat.le_of_ble_eq_true rfl, Nat.le_of_ble_eq_true rfl⟩ (fun u9 H locs hp9 hP hD hS => ?_)
    have hP : wP G [bBD G x st sv bu di se wy ta tt rp, bSaved G sv sa u_6 u_7 u_8, bState G st t0 t1 al, bText G t1 a1 n1 g1, bPool G u_9 u_10, bText G t0 a0 n0 g0] H := hP
    have hD : wD A [bBD G x st sv bu di se wy ta tt rp, bSaved G sv sa u_6 u_7 u_8, bState G st t0 t1 al, bText G t1 a1 n1 g1, bPool G u_9 u_10, bText G t0 a0 n0 g0] := hD
    have hP : wP G [bBD G x st sv bu di se wy ta tt rp, bSaved G sv sa u_6 u_7 u_8, bState G st t0 t1 al, bText G t1 a1 n1 g1, bText G t0 a0 n0 g0, bPool G u_9 u_10] H := wP_sub hP [0, 1, 2, 3, 5, 4] rfl
    have hD : wD A [bBD G x st sv bu di se wy ta tt rp, bSaved G sv sa u_6 u_7 u_8, bState G st t0 t1 al, bText G t1 a1 n1 g1, bText G t0 a0 n0 g0, bPool G u_9 u_10] := wD_sub hD [0, 1, 2, 3, 5, 4] (by decide) rfl
    show W p l e rmX8_replace_0 s m args below meth c H locs 7 59 Q (F0 m 35 ls [.int (jz (g0 i))])
    refine lv_istore (lv' := [(5, .int (jz (g0 i))), (4, .ref t0), (0, .ref x), (1, .int (jz z)), (2, .int (jz i)), (3, .int (jz v))]) hx hb dX8_replace_35 hl (by decide) rfl (fun ls hl => ?_)
    refine lv_aload hx hb dX8_replace_37 (lv_at hl 1 rfl) ?_
    refine lv_iload_n hx hb dX8_replace_39 rfl (lv_at hl 4 rfl) ?_
    refine lv_iload_n hx hb dX8_replace_40 rfl (lv_at hl 5 rfl) ?_
    refine kV ⟨hx, hb, hml, hown, hts⟩ hK hA hS hP hD [.int (jz i), .int (jz v)] [] (mX6_set l G t0 a0 n0 g0 i v (by omega) (by omega)) lkX8_132 [4] [0, 1, 2, 3, 5] (br := [bBD G x st sv bu di se wy ta tt rp, bSaved G sv sa u_6 u_7 u_8, bState G st t0 t1 al, bText G t1 a1 n1 g1, bPool G u_9 u_10]) rfl rfl (by decide) 0 6 rfl rfl rfl rfl (Nat.le_of_ble_eq_true rfl) hl.1 dX8_replace_41 ⟨Nat.le_of_ble_eq_true rfl, Nat.le_of_ble_eq_true rfl⟩ ⟨Nat.le_of_ble_eq_true rfl, Nat.le_of_ble_eq_true rfl⟩ (fun u9 H locs hp9 hP hD hS => ?_)
    have hP : wP G [bBD G x st sv bu di se wy ta tt rp, bSaved G sv sa u_6 u_7 u_8, bState G st t0 t1 al, bText G t1 a1 n1 g1, bPool G u_9 u_10, bText G t0 a0 n0 (up g0 i v)] H := hP
    have hD : wD A [bBD G x st sv bu di se wy ta tt rp, bSaved G sv sa u_6 u_7 u_8, bState G st t0 t1 al, bText G t1 a1 n1 g1, bPool G u_9 u_10, bText G t0 a0 n0 (up g0 i v)] := hD
    have hP : wP G [bBD G x st sv bu di se wy ta tt rp, bSaved G sv sa u_6 u_7 u_8, bState G st t0 t1 al, bText G t1 a1 n1 g1, bText G t0 a0 n0 (up g0 i v), bPool G u_9 u_10] H := wP_sub hP [0, 1, 2, 3, 5, 4] rfl
    have hD : wD A [bBD G x st sv bu di se wy ta tt rp, bSaved G sv sa u_6 u_7 u_8, bState G st t0 t1 al, bText G t1 a1 n1 g1, bText G t0 a0 n0 (up g0 i v), bPool G u_9 u_10] := wD_sub hD [0, 1, 2, 3, 5, 4] (by decide) rfl
    show W p l e rmX8_replace_0 s m args below meth c H locs 7 59 Q (F0 m 44 ls [])
    refine lv_iload hx hb dX8_replace_44 (lv_at hl 0 rfl) ?_
    rw [hQ]
    exact vx_ret (cret_i hx hb hr hlocks hS hP hD (Nat.le_of_ble_eq_true rfl) (Nat.le_of_ble_eq_true rfl) rfl dX8_replace_46 [0, 2, 4, 3, 1, 5] (by decide) ⟨u_6, u_7, u_8, u_9, u_10⟩ rfl ⟨(show (0 ≤ i ∧ i < n0) ∧ (0 ≤ v ∧ v < al) from by omega), (show (sz < 6 → u_6 = od ∧ u_7 = sz + 1) ∧ (sz = 6 → u_6 = (od + 1) % 6 ∧ u_7 = 6) from ha_11), (show (u_10 = kp ∨ u_10 = kp + 1) ∧ (u_10 : Int) ≤ 6 ∧ u_7 ≤ u_10 ∧ (u_6 = 0 ∨ u_10 = 6) from hb_12), (show ∀ z : Int, 0 ≤ z → z < 6 → u_8 z = if z < u_10 then some (u_9 z.toNat).1.1 else none from hf_13), (show ∀ i : Nat, (i : Int) ≠ (u_6 + (u_7 - 1)) % 6 → i < kp → u_9 i = ph i from hp_14), (show (u_9 ((u_6 + (u_7 - 1)) % 6).toNat).2.1 = (al, n0, n1) from hq_15), (show ∀ j : Int, 0 ≤ j → j < n0 → (u_9 ((u_6 + (u_7 - 1)) % 6).toNat).2.2.1 j = g0 j from hr_16), (show ∀ j : Int, 0 ≤ j → j < n1 → (u_9 ((u_6 + (u_7 - 1)) % 6).toNat).2.2.2 j = g1 j from hs_17)⟩ (congrArg (fun z : Int => some (Value.int (jz z))) (show (g0 i) = g0 i from by first | rfl | omega | (split <;> first | rfl | omega | (exfalso; omega)))) rfl)
  exact KH s.heap [] hP hD hS
abbrev rmX8_insert_1 : Room := { frames := 7, cells := 6, slots := 53, locals := 121 }
set_option maxHeartbeats 4000000 in
set_option maxRecDepth 100000 in
theorem mX8_insert_1 (l : Launch) (hl0 : l.stackTraces = false) (G : GG) (x : Nat) (st : Nat) (sv : Nat) (bu : Nat) (di : Nat) (se : Nat) (wy : Nat) (ta : Nat) (tt : Nat) (rp : Nat) (t0 : Nat) (t1 : Nat) (al : Int) (a0 : Nat) (n0 : Int) (g0 : Int → Int) (a1 : Nat) (n1 : Int) (g1 : Int → Int) (sa : Nat) (od : Int) (sz : Int) (f : Int → Option Nat) (ph : Nat → SG) (kp : Nat) (z : Int) (i : Int) (v : Int) (hn0 : 0 ≤ n0 ∧ n0 ≤ 20) (hn1 : 0 ≤ n1 ∧ n1 ≤ 20) (hs : 0 ≤ sz ∧ sz ≤ 6) (ho : 0 ≤ od ∧ od < 6) (hk : kp ≤ 6 ∧ sz ≤ kp) (hk2 : od = 0 ∨ kp = 6) (hf : ∀ z : Int, 0 ≤ z → z < 6 → f z = if z < kp then some (ph z.toNat).1.1 else none) (hal : 2 ≤ al ∧ al ≤ 4) (hz : z = 1) (hi : jr i) (hv : jr v) : Xt l yX8_insert cX8_insert 5 (some .int) rmX8_insert_1 G [.ref x, .int (jz z), .int (jz i), .int (jz v)] [bBD G x st sv bu di se wy ta tt rp, bState G st t0 t1 al, bText G t0 a0 n0 g0, bText G t1 a1 n1 g1, bSaved G sv sa od sz f, bPool G ph kp] (fun uo : Int × Int × (Int → Option Nat) × (Nat → SG) × Nat => some (.int (jz (n1 + 1)))) (fun uo => ((0 ≤ i ∧ i ≤ n1) ∧ (0 ≤ v ∧ v < al) ∧ n1 < 20) ∧ ((sz < 6 → uo.1 = od ∧ uo.2.1 = sz + 1) ∧ (sz = 6 → uo.1 = (od + 1) % 6 ∧ uo.2.1 = 6)) ∧ ((uo.2.2.2.2 = kp ∨ uo.2.2.2.2 = kp + 1) ∧ (uo.2.2.2.2 : Int) ≤ 6 ∧ uo.2.1 ≤ uo.2.2.2.2 ∧ (uo.1 = 0 ∨ uo.2.2.2.2 = 6)) ∧ (∀ z : Int, 0 ≤ z → z < 6 → uo.2.2.1 z = if z < uo.2.2.2.2 then some (uo.2.2.2.1 z.toNat).1.1 else none) ∧ (∀ i : Nat, (i : Int) ≠ (uo.1 + (uo.2.1 - 1)) % 6 → i < kp → uo.2.2.2.1 i = ph i) ∧ ((uo.2.2.2.1 ((uo.1 + (uo.2.1 - 1)) % 6).toNat).2.1 = (al, n0, n1)) ∧ (∀ j : Int, 0 ≤ j → j < n0 → (uo.2.2.2.1 ((uo.1 + (uo.2.1 - 1)) % 6).toNat).2.2.1 j = g0 j) ∧ (∀ j : Int, 0 ≤ j → j < n1 → (uo.2.2.2.1 ((uo.1 + (uo.2.1 - 1)) % 6).toNat).2.2.2 j = g1 j)) (fun uo => [bBD G x st sv bu di se wy ta tt rp, bState G st t0 t1 al, bText G t0 a0 n0 g0, bText G t1 a1 (n1 + 1) (insF g1 i n1 v), bSaved G sv sa uo.1 uo.2.1 uo.2.2.1, bPool G uo.2.2.2.1 uo.2.2.2.2]) (fun E => (E = "java/lang/IndexOutOfBoundsException" ∧ ¬ (0 ≤ i ∧ i ≤ n1)) ∨ (E = "java/lang/IllegalArgumentException" ∧ (0 ≤ i ∧ i ≤ n1) ∧ ¬ (0 ≤ v ∧ v < al)) ∨ (E = "java/lang/IllegalStateException" ∧ (0 ≤ i ∧ i ≤ n1) ∧ (0 ≤ v ∧ v < al) ∧ n1 = 20)) := by
  refine xof (by decide) (Nat.le_of_ble_eq_true rfl) ?_
  intro p e s m args below meth c A ls hx hb hr hml hown hts hlocks hin hA hK hP hD hS hl hX hout Q hQ
  have hown : s.vm.findClass RX8 = some m.cls := hown
  have hl : lv_has ls 5 [(0, .ref x), (1, .int (jz z)), (2, .int (jz i)), (3, .int (jz v))] := hl
  have KH : ∀ (H : Heap) (locs : List Loc), wP G [bBD G x st sv bu di se wy ta tt rp, bState G st t0 t1 al, bText G t0 a0 n0 g0, bText G t1 a1 n1 g1, bSaved G sv sa od sz f, bPool G ph kp] H → wD A [bBD G x st sv bu di se wy ta tt rp, bState G st t0 t1 al, bText G t0 a0 n0 g0, bText G t1 a1 n1 g1, bSaved G sv sa od sz f, bPool G ph kp] → va_S A s.heap H locs → W p l e rmX8_insert_1 s m args below meth c H locs 0 0 Q (F0 m 0 ls []) := by
    intro H locs hP hD hS
    refine lv_aload_n hx hb dX8_insert_0 rfl (lv_at hl 0 rfl) ?_
    refine lv_iload_n hx hb dX8_insert_1 rfl (lv_at hl 1 rfl) ?_
    refine kV ⟨hx, hb, hml, hown, hts⟩ hK hA hS hP hD [.int (jz z)] [] (mX8_textOf_1 l G x st sv bu di se wy ta tt rp t0 t1 al z (by omega)) lkX8_100 [0, 1] [2, 3, 4, 5] (br := [bText G t0 a0 n0 g0, bText G t1 a1 n1 g1, bSaved G sv sa od sz f, bPool G ph kp]) rfl rfl (by decide) 0 8 rfl rfl rfl rfl (Nat.le_of_ble_eq_true rfl) hl.1 dX8_insert_2 ⟨Nat.le_of_ble_eq_true rfl, Nat.le_of_ble_eq_true rfl⟩ ⟨Nat.le_of_ble_eq_true rfl, Nat.le_of_ble_eq_true rfl⟩ (fun u9 H locs hp9 hP hD hS => ?_)
    have hP : wP G [bText G t0 a0 n0 g0, bText G t1 a1 n1 g1, bSaved G sv sa od sz f, bPool G ph kp, bBD G x st sv bu di se wy ta tt rp, bState G st t0 t1 al] H := hP
    have hD : wD A [bText G t0 a0 n0 g0, bText G t1 a1 n1 g1, bSaved G sv sa od sz f, bPool G ph kp, bBD G x st sv bu di se wy ta tt rp, bState G st t0 t1 al] := hD
    have hP : wP G [bText G t0 a0 n0 g0, bText G t1 a1 n1 g1, bSaved G sv sa od sz f, bBD G x st sv bu di se wy ta tt rp, bState G st t0 t1 al, bPool G ph kp] H := wP_sub hP [0, 1, 2, 4, 5, 3] rfl
    have hD : wD A [bText G t0 a0 n0 g0, bText G t1 a1 n1 g1, bSaved G sv sa od sz f, bBD G x st sv bu di se wy ta tt rp, bState G st t0 t1 al, bPool G ph kp] := wD_sub hD [0, 1, 2, 4, 5, 3] (by decide) rfl
    show W p l e rmX8_insert_1 s m args below meth c H locs 0 0 Q (F0 m 5 ls [.ref t1])
    refine lv_astore (lv' := [(4, .ref t1), (0, .ref x), (1, .int (jz z)), (2, .int (jz i)), (3, .int (jz v))]) hx hb dX8_insert_5 hl (by decide) rfl (fun ls hl => ?_)
    refine lv_iload_n hx hb dX8_insert_7 rfl (lv_at hl 3 rfl) ?_
    refine jv_if_lt (tgt := 20) hx hb dX8_insert_8 (by decide) (by omega) (fun c_2 => ?_) (fun c_2 => ?_)
    · obtain ⟨sa9, hstr9⟩ := hK.2.2.2.1 (105, "no such place in the text") (by decide +kernel)
      rw [hQ]
      exact vx_throwS (A := A) (cls := "java/lang/IndexOutOfBoundsException") (names := ["java/lang/RuntimeException", "java/lang/Exception"]) hx hb hl0 hown (by decide +kernel) (by decide +kernel) (hts _ wm202) (hts _ wm23) hstr9 (xat hK hts xa_107) xg_107 hX.1 hX.2 hS (hl.1.trans hml.symm) dX8_insert_20 dX8_insert_23 dX8_insert_24 dX8_insert_26 dX8_insert_29 (fun x9 hx9 => (hout x9 hx9).elim) (Nat.lt_of_lt_of_le (Nat.lt_succ_self 5) (Nat.le_of_ble_eq_true rfl)) (Nat.le_of_ble_eq_true rfl) (Nat.le_of_ble_eq_true rfl) (Nat.le_of_ble_eq_true rfl) hlocks (xthrow hS hP hD [3, 4, 0, 1, 2, 5] (by decide) rfl (by exact Or.inl ⟨rfl, by omega⟩)) hS.2.2 (Nat.le_of_ble_eq_true rfl) (Nat.le_of_ble_eq_true rfl)
    · refine lv_iload_n hx hb dX8_insert_11 rfl (lv_at hl 3 rfl) ?_
      refine lv_aload hx hb dX8_insert_12 (lv_at hl 0 rfl) ?_
      refine kV ⟨hx, hb, hml, hown, hts⟩ hK hA hS hP hD [] [.int (jz i)] (mX6_size l G t1 a1 n1 g1 ) lkX8_95 [1] [0, 2, 3, 4, 5] (br := [bText G t0 a0 n0 g0, bSaved G sv sa od sz f, bBD G x st sv bu di se wy ta tt rp, bState G st t0 t1 al, bPool G ph kp]) rfl rfl (by decide) 0 6 rfl rfl rfl rfl (Nat.le_of_ble_eq_true rfl) hl.1 dX8_insert_14 ⟨Nat.le_of_ble_eq_true rfl, Nat.le_of_ble_eq_true rfl⟩ ⟨Nat.le_of_ble_eq_true rfl, Nat.le_of_ble_eq_true rfl⟩ (fun u9 H locs hp9 hP hD hS => ?_)
      have hP : wP G [bText G t0 a0 n0 g0, bSaved G sv sa od sz f, bBD G x st sv bu di se wy ta tt rp, bState G st t0 t1 al, bPool G ph kp, bText G t1 a1 n1 g1] H := hP
      have hD : wD A [bText G t0 a0 n0 g0, bSaved G sv sa od sz f, bBD G x st sv bu di se wy ta tt rp, bState G st t0 t1 al, bPool G ph kp, bText G t1 a1 n1 g1] := hD
      have hP : wP G [bText G t0 a0 n0 g0, bSaved G sv sa od sz f, bBD G x st sv bu di se wy ta tt rp, bState G st t0 t1 al, bText G t1 a1 n1 g1, bPool G ph kp] H := wP_sub hP [0, 1, 2, 3, 5, 4] rfl
      have hD : wD A [bText G t0 a0 n0 g0, bSaved G sv sa od sz f, bBD G x st sv bu di se wy ta tt rp, bState G st t0 t1 al, bText G t1 a1 n1 g1, bPool G ph kp] := wD_sub hD [0, 1, 2, 3, 5, 4] (by decide) rfl
      show W p l e rmX8_insert_1 s m args below meth c H locs 0 0 Q (F0 m 17 ls [.int (jz n1), .int (jz i)])
      refine jv_icmp_le (tgt := 30) hx hb dX8_insert_17 (by decide) (by omega) (by omega) (fun c_4 => ?_) (fun c_4 => ?_)
      · refine lv_aload_n hx hb dX8_insert_30 rfl (lv_at hl 1 rfl) ?_
        refine lv_iload_n hx hb dX8_insert_31 rfl (lv_at hl 4 rfl) ?_
        refine xkV ⟨hx, hb, hml, hown, hts⟩ hK hA hS hP hD [.int (jz v)] [] (mX8_checkLetter l hl0 G x st sv bu di se wy ta tt rp t0 t1 al v (by omega) (by omega)) lkX8_108 [2, 3] [0, 1, 4, 5] (br := [bText G t0 a0 n0 g0, bSaved G sv sa od sz f, bText G t1 a1 n1 g1, bPool G ph kp]) rfl rfl (by decide) 0 8 rfl rfl rfl rfl (Nat.le_of_ble_eq_true rfl) hl.1 dX8_insert_32 ⟨Nat.le_of_ble_eq_true rfl, Nat.le_of_ble_eq_true rfl⟩ ⟨Nat.le_of_ble_eq_true rfl, Nat.le_of_ble_eq_true rfl⟩ hX (fun E ce q9 H locs hE hP hD hS hce hcv hcl => xout hout hlocks hce hcv hcl hS hP hD [4, 5, 0, 2, 1, 3] (by decide) rfl (by exact Or.inr (Or.inl ⟨hE.1, by omega, hE.2⟩)) (Nat.le_of_ble_eq_true rfl) (Nat.le_of_ble_eq_true rfl) hQ) (fun u9 H locs hp9 hP hD hS => ?_)
        have hc_6 : 0 ≤ v ∧ v < al := hp9
        have hP : wP G [bText G t0 a0 n0 g0, bSaved G sv sa od sz f, bText G t1 a1 n1 g1, bPool G ph kp, bBD G x st sv bu di se wy ta tt rp, bState G st t0 t1 al] H := hP
        have hD : wD A [bText G t0 a0 n0 g0, bSaved G sv sa od sz f, bText G t1 a1 n1 g1, bPool G ph kp, bBD G x st sv bu di se wy ta tt rp, bState G st t0 t1 al] := hD
        have hP : wP G [bText G t0 a0 n0 g0, bSaved G sv sa od sz f, bText G t1 a1 n1 g1, bBD G x st sv bu di se wy ta tt rp, bState G st t0 t1 al, bPool G ph kp] H := wP_sub hP [0, 1, 2, 4, 5, 3] rfl
        have hD : wD A [bText G t0 a0 n0 g0, bSaved G sv sa od sz f, bText G t1 a1 n1 g1, bBD G x st sv bu di se wy ta tt rp, bState G st t0 t1 al, bPool G ph kp] := wD_sub hD [0, 1, 2, 4, 5, 3] (by decide) rfl
        show W p l e rmX8_insert_1 s m args below meth c H locs 1 6 Q (F0 m 35 ls [])
        have hc1 := hc_6
        refine lv_aload hx hb dX8_insert_35 (lv_at hl 0 rfl) ?_
        refine kV ⟨hx, hb, hml, hown, hts⟩ hK hA hS hP hD [] [] (mX6_size l G t1 a1 n1 g1 ) lkX8_95 [2] [0, 1, 3, 4, 5] (br := [bText G t0 a0 n0 g0, bSaved G sv sa od sz f, bBD G x st sv bu di se wy ta tt rp, bState G st t0 t1 al, bPool G ph kp]) rfl rfl (by decide) 0 6 rfl rfl rfl rfl (Nat.le_of_ble_eq_true rfl) hl.1 dX8_insert_37 ⟨Nat.le_of_ble_eq_true rfl, Nat.le_of_ble_eq_true rfl⟩ ⟨Nat.le_of_ble_eq_true rfl, Nat.le_of_ble_eq_true rfl⟩ (fun u9 H locs hp9 hP hD hS => ?_)
        have hP : wP G [bText G t0 a0 n0 g0, bSaved G sv sa od sz f, bBD G x st sv bu di se wy ta tt rp, bState G st t0 t1 al, bPool G ph kp, bText G t1 a1 n1 g1] H := hP
        have hD : wD A [bText G t0 a0 n0 g0, bSaved G sv sa od sz f, bBD G x st sv bu di se wy ta tt rp, bState G st t0 t1 al, bPool G ph kp, bText G t1 a1 n1 g1] := hD
        have hP : wP G [bText G t0 a0 n0 g0, bSaved G sv sa od sz f, bBD G x st sv bu di se wy ta tt rp, bState G st t0 t1 al, bText G t1 a1 n1 g1, bPool G ph kp] H := wP_sub hP [0, 1, 2, 3, 5, 4] rfl
        have hD : wD A [bText G t0 a0 n0 g0, bSaved G sv sa od sz f, bBD G x st sv bu di se wy ta tt rp, bState G st t0 t1 al, bText G t1 a1 n1 g1, bPool G ph kp] := wD_sub hD [0, 1, 2, 3, 5, 4] (by decide) rfl
        show W p l e rmX8_insert_1 s m args below meth c H locs 1 6 Q (F0 m 40 ls [.int (jz n1)])
        refine jv_bipush hx hb dX8_insert_40 (by decide) ?_
        refine jv_icmp_lt (tgt := 55) hx hb dX8_insert_42 (by decide) (by omega) (by omega) (fun c_8 => ?_) (fun c_8 => ?_)
        · refine lv_aload_n hx hb dX8_insert_55 rfl (lv_at hl 1 rfl) ?_
          refine va_get (ci := 8) (v := .ref sv) (C := RX8) (T := TX8) (N := 9) hx hb hts wfX8 hown hK.1 hP 4 rfl rfl 1 (by decide) (hts _ wm167) (fun _ h9 => h9) rfl dX8_insert_56 ?_
          refine lv_aload_n hx hb dX8_insert_59 rfl (lv_at hl 1 rfl) ?_
          refine va_get (ci := 8) (v := .ref st) (C := RX8) (T := TX8) (N := 9) hx hb hts wfX8 hown hK.1 hP 4 rfl rfl 0 (by decide) (hts _ wm166) (fun _ h9 => h9) rfl dX8_insert_60 ?_
          refine kV ⟨hx, hb, hml, hown, hts⟩ hK hA hS hP hD [.ref st] [] (mX4_save l G sv sa od sz f ph kp st t0 t1 al a0 n0 g0 a1 n1 g1 (by omega) (by omega) (by omega) (by omega) (by omega) (by omega) (by exact hf)) lkX8_83 [1, 3, 0, 4, 5] [2] (br := [bBD G x st sv bu di se wy ta tt rp]) rfl rfl (by decide) 0 4 rfl rfl rfl rfl (Nat.le_of_ble_eq_true rfl) hl.1 dX8_insert_63 ⟨Nat.le_of_ble_eq_true rfl, Nat.le_of_ble_eq_true rfl⟩ ⟨Nat.le_of_ble_eq_true rfl, Nat.le_of_ble_eq_true rfl⟩ (fun u9 H locs hp9 hP hD hS => ?_)
          obtain ⟨u_9, u_10, u_11, u_12, u_13⟩ := u9
          have ha_14 : (sz < 6 → u_9 = od ∧ u_10 = sz + 1) ∧ (sz = 6 → u_9 = (od + 1) % 6 ∧ u_10 = 6) := hp9.1
          have hb_15 : (u_13 = kp ∨ u_13 = kp + 1) ∧ (u_13 : Int) ≤ 6 ∧ u_10 ≤ u_13 ∧ (u_9 = 0 ∨ u_13 = 6) := hp9.2.1
          have hf_16 : ∀ z : Int, 0 ≤ z → z < 6 → u_11 z = if z < u_13 then some (u_12 z.toNat).1.1 else none := hp9.2.2.1
          have hp_17 : ∀ i : Nat, (i : Int) ≠ (u_9 + (u_10 - 1)) % 6 → i < kp → u_12 i = ph i := hp9.2.2.2.1
          have hq_18 : (u_12 ((u_9 + (u_10 - 1)) % 6).toNat).2.1 = (al, n0, n1) := hp9.2.2.2.2.1
          have hr_19 : ∀ j : Int, 0 ≤ j → j < n0 → (u_12 ((u_9 + (u_10 - 1)) % 6).toNat).2.2.1 j = g0 j := hp9.2.2.2.2.2.1
          have hs_20 : ∀ j : Int, 0 ≤ j → j < n1 → (u_12 ((u_9 + (u_10 - 1)) % 6).toNat).2.2.2 j = g1 j := hp9.2.2.2.2.2.2
          have hP : wP G [bBD G x st sv bu di se wy ta tt rp, bSaved G sv sa u_9 u_10 u_11, bState G st t0 t1 al, bText G t0 a0 n0 g0, bText G t1 a1 n1 g1, bPool G u_12 u_13] H := hP
          have hD : wD A [bBD G x st sv bu di se wy ta tt rp, bSaved G sv sa u_9 u_10 u_11, bState G st t0 t1 al, bText G t0 a0 n0 g0, bText G t1 a1 n1 g1, bPool G u_12 u_13] := hD
          show W p l e rmX8_insert_1 s m args below meth c H locs 6 53 Q (F0 m 66 ls [])
          refine lv_aload hx hb dX8_insert_66 (lv_at hl 0 rfl) ?_
          refine lv_iload_n hx hb dX8_insert_68 rfl (lv_at hl 3 rfl) ?_
          refine lv_iload_n hx hb dX8_insert_69 rfl (lv_at hl 4 rfl) ?_
          refine kV ⟨hx, hb, hml, hown, hts⟩ hK hA hS hP hD [.int (jz i), .int (jz v)] [] (mX6_putIn l G t1 a1 n1 g1 i v (by omega) (by omega)) lkX8_117 [4] [0, 1, 2, 3, 5] (br := [bBD G x st sv bu di se wy ta tt rp, bSaved G sv sa u_9 u_10 u_11, bState G st t0 t1 al, bText G t0 a0 n0 g0, bPool G u_12 u_13]) rfl rfl (by decide) 0 6 rfl rfl rfl rfl (Nat.le_of_ble_eq_true rfl) hl.1 dX8_insert_70 ⟨Nat.le_of_ble_eq_true rfl, Nat.le_of_ble_eq_true rfl⟩ ⟨Nat.le_of_ble_eq_true rfl, Nat.le_of_ble_eq_true rfl⟩ (fun u9 H locs hp9 hP hD hS => ?_)
          have hP : wP G [bBD G x st sv bu di se wy ta tt rp, bSaved G sv sa u_9 u_10 u_11, bState G st t0 t1 al, bText G t0 a0 n0 g0, bPool G u_12 u_13, bText G t1 a1 (n1 + 1) (insF g1 i n1 v)] H := hP
          have hD : wD A [bBD G x st sv bu di se wy ta tt rp, bSaved G sv sa u_9 u_10 u_11, bState G st t0 t1 al, bText G t0 a0 n0 g0, bPool G u_12 u_13, bText G t1 a1 (n1 + 1) (insF g1 i n1 v)] := hD
          have hP : wP G [bBD G x st sv bu di se wy ta tt rp, bSaved G sv sa u_9 u_10 u_11, bState G st t0 t1 al, bText G t0 a0 n0 g0, bText G t1 a1 (n1 + 1) (insF g1 i n1 v), bPool G u_12 u_13] H := wP_sub hP [0, 1, 2, 3, 5, 4] rfl
          have hD : wD A [bBD G x st sv bu di se wy ta tt rp, bSaved G sv sa u_9 u_10 u_11, bState G st t0 t1 al, bText G t0 a0 n0 g0, bText G t1 a1 (n1 + 1) (insF g1 i n1 v), bPool G u_12 u_13] := wD_sub hD [0, 1, 2, 3, 5, 4] (by decide) rfl
          show W p l e rmX8_insert_1 s m args below meth c H locs 6 53 Q (F0 m 73 ls [])
          refine lv_aload hx hb dX8_insert_73 (lv_at hl 0 rfl) ?_
          refine kV ⟨hx, hb, hml, hown, hts⟩ hK hA hS hP hD [] [] (mX6_size l G t1 a1 (n1 + 1) (insF g1 i n1 v) ) lkX8_95 [4] [0, 1, 2, 3, 5] (br := [bBD G x st sv bu di se wy ta tt rp, bSaved G sv sa u_9 u_10 u_11, bState G st t0 t1 al, bText G t0 a0 n0 g0, bPool G u_12 u_13]) rfl rfl (by decide) 0 6 rfl rfl rfl rfl (Nat.le_of_ble_eq_true rfl) hl.1 dX8_insert_75 ⟨Nat.le_of_ble_eq_true rfl, Nat.le_of_ble_eq_true rfl⟩ ⟨Nat.le_of_ble_eq_true rfl, Nat.le_of_ble_eq_true rfl⟩ (fun u9 H locs hp9 hP hD hS => ?_)
          have hP : wP G [bBD G x st sv bu di se wy ta tt rp, bSaved G sv sa u_9 u_10 u_11, bState G st t0 t1 al, bText G t0 a0 n0 g0, bPool G u_12 u_13, bText G t1 a1 (n1 + 1) (insF g1 i n1 v)] H := hP
          have hD : wD A [bBD G x st sv bu di se wy ta tt rp, bSaved G sv sa u_9 u_10 u_11, bState G st t0 t1 al, bText G t0 a0 n0 g0, bPool G u_12 u_13, bText G t1 a1 (n1 + 1) (insF g1 i n1 v)] := hD
          have hP : wP G [bBD G x st sv bu di se wy ta tt rp, bSaved G sv sa u_9 u_10 u_11, bState G st t0 t1 al, bText G t0 a0 n0 g0, bText G t1 a1 (n1 + 1) (insF g1 i n1 v), bPool G u_12 u_13] H := wP_sub hP [0, 1, 2, 3, 5, 4] rfl
          have hD : wD A [bBD G x st sv bu di se wy ta tt rp, bSaved G sv sa u_9 u_10 u_11, bState G st t0 t1 al, bText G t0 a0 n0 g0, bText G t1 a1 (n1 + 1) (insF g1 i n1 v), bPool G u_12 u_13] := wD_sub hD [0, 1, 2, 3, 5, 4] (by decide) rfl
          show W p l e rmX8_insert_1 s m args below meth c H locs 6 53 Q (F0 m 78 ls [.int (jz (n1 + 1))])
          rw [hQ]
          exact vx_ret (cret_i hx hb hr hlocks hS hP hD (Nat.le_of_ble_eq_true rfl) (Nat.le_of_ble_eq_true rfl) rfl dX8_insert_78 [0, 2, 3, 4, 1, 5] (by decide) ⟨u_9, u_10, u_11, u_12, u_13⟩ rfl ⟨(show (0 ≤ i ∧ i ≤ n1) ∧ (0 ≤ v ∧ v < al) ∧ n1 < 20 from by omega), (show (sz < 6 → u_9 = od ∧ u_10 = sz + 1) ∧ (sz = 6 → u_9 = (od + 1) % 6 ∧ u_10 = 6) from ha_14), (show (u_13 = kp ∨ u_13 = kp + 1) ∧ (u_13 : Int) ≤ 6 ∧ u_10 ≤ u_13 ∧ (u_9 = 0 ∨ u_13 = 6) from hb_15), (show ∀ z : Int, 0 ≤ z → z < 6 → u_11 z = if z < u_13 then some (u_12 z.toNat).1.1 else none from hf_16), (show ∀ i : Nat, (i : Int) ≠ (u_9 + (u_10 - 1)) % 6 → i < kp → u_12 i = ph i from hp_17), (show (u_12 ((u_9 + (u_10 - 1)) % 6).toNat).2.1 = (al, n0, n1) from hq_18), (show ∀ j : Int, 0 ≤ j → j < n0 → (u_12 ((u_9 + (u_10 - 1)) % 6).toNat).2.2.1 j = g0 j from hr_19), (show ∀ j : Int, 0 ≤ j → j < n1 → (u_12 ((u_9 + (u_10 - 1)) % 6).toNat).2.2.2 j = g1 j from hs_20)⟩ (congrArg (fun z : Int => some (Value.int (jz z))) (show (n1 + 1) = n1 + 1 from by first | rfl | omega | (split <;> first | rfl | omega | (exfalso; omega)))) rfl)
        · obtain ⟨sa9, hstr9⟩ := hK.2.2.2.1 (114, "the text has 20 letters") (by decide +kernel)
          rw [hQ]
          exact vx_throwS (A := A) (cls := "java/lang/IllegalStateException") (names := ["java/lang/RuntimeException", "java/lang/Exception"]) hx hb hl0 hown (by decide +kernel) (by decide +kernel) (hts _ wm303) (hts _ wm25) hstr9 (xat hK hts xa_116) xg_116 hX.1 hX.2 hS (hl.1.trans hml.symm) dX8_insert_45 dX8_insert_48 dX8_insert_49 dX8_insert_51 dX8_insert_54 (fun x9 hx9 => (hout x9 hx9).elim) (Nat.lt_of_lt_of_le (Nat.lt_succ_self 5) (Nat.le_of_ble_eq_true rfl)) (Nat.le_of_ble_eq_true rfl) (Nat.le_of_ble_eq_true rfl) (Nat.le_of_ble_eq_true rfl) hlocks (xthrow hS hP hD [2, 3, 0, 4, 1, 5] (by decide) rfl (by exact Or.inr (Or.inr ⟨rfl, by omega, by omega, by omega⟩))) hS.2.2 (Nat.le_of_ble_eq_true rfl) (Nat.le_of_ble_eq_true rfl)
      · obtain ⟨sa9, hstr9⟩ := hK.2.2.2.1 (105, "no such place in the text") (by decide +kernel)
        rw [hQ]
        exact vx_throwS (A := A) (cls := "java/lang/IndexOutOfBoundsException") (names := ["java/lang/RuntimeException", "java/lang/Exception"]) hx hb hl0 hown (by decide +kernel) (by decide +kernel) (hts _ wm202) (hts _ wm23) hstr9 (xat hK hts xa_107) xg_107 hX.1 hX.2 hS (hl.1.trans hml.symm) dX8_insert_20 dX8_insert_23 dX8_insert_24 dX8_insert_26 dX8_insert_29 (fun x9 hx9 => (hout x9 hx9).elim) (Nat.lt_of_lt_of_le (Nat.lt_succ_self 5) (Nat.le_of_ble_eq_true rfl)) (Nat.le_of_ble_eq_true rfl) (Nat.le_of_ble_eq_true rfl) (Nat.le_of_ble_eq_true rfl) hlocks (xthrow hS hP hD [2, 3, 0, 4, 1, 5] (by decide) rfl (by exact Or.inl ⟨rfl, by omega⟩)) hS.2.2 (Nat.le_of_ble_eq_true rfl) (Nat.le_of_ble_eq_true rfl)
  exact KH s.heap [] hP hD hS
abbrev rmX8_remove_1 : Room := { frames := 7, cells := 6, slots := 53, locals := 121 }
set_option maxHeartbeats 4000000 in
set_option maxRecDepth 100000 in
theorem mX8_remove_1 (l : Launch) (hl0 : l.stackTraces = false) (G : GG) (x : Nat) (st : Nat) (sv : Nat) (bu : Nat) (di : Nat) (se : Nat) (wy : Nat) (ta : Nat) (tt : Nat) (rp : Nat) (t0 : Nat) (t1 : Nat) (al : Int) (a0 : Nat) (n0 : Int) (g0 : Int → Int) (a1 : Nat) (n1 : Int) (g1 : Int → Int) (sa : Nat) (od : Int) (sz : Int) (f : Int → Option Nat) (ph : Nat → SG) (kp : Nat) (z : Int) (i : Int) (hn0 : 0 ≤ n0 ∧ n0 ≤ 20) (hn1 : 0 ≤ n1 ∧ n1 ≤ 20) (hs : 0 ≤ sz ∧ sz ≤ 6) (ho : 0 ≤ od ∧ od < 6) (hk : kp ≤ 6 ∧ sz ≤ kp) (hk2 : od = 0 ∨ kp = 6) (hf : ∀ z : Int, 0 ≤ z → z < 6 → f z = if z < kp then some (ph z.toNat).1.1 else none) (hz : z = 1) (hi : jr i) : Xt l yX8_remove cX8_remove 5 (some .int) rmX8_remove_1 G [.ref x, .int (jz z), .int (jz i)] [bBD G x st sv bu di se wy ta tt rp, bState G st t0 t1 al, bText G t0 a0 n0 g0, bText G t1 a1 n1 g1, bSaved G sv sa od sz f, bPool G ph kp] (fun uo : Int × Int × (Int → Option Nat) × (Nat → SG) × Nat => some (.int (jz (g1 i)))) (fun uo => (0 ≤ i ∧ i < n1) ∧ ((sz < 6 → uo.1 = od ∧ uo.2.1 = sz + 1) ∧ (sz = 6 → uo.1 = (od + 1) % 6 ∧ uo.2.1 = 6)) ∧ ((uo.2.2.2.2 = kp ∨ uo.2.2.2.2 = kp + 1) ∧ (uo.2.2.2.2 : Int) ≤ 6 ∧ uo.2.1 ≤ uo.2.2.2.2 ∧ (uo.1 = 0 ∨ uo.2.2.2.2 = 6)) ∧ (∀ z : Int, 0 ≤ z → z < 6 → uo.2.2.1 z = if z < uo.2.2.2.2 then some (uo.2.2.2.1 z.toNat).1.1 else none) ∧ (∀ i : Nat, (i : Int) ≠ (uo.1 + (uo.2.1 - 1)) % 6 → i < kp → uo.2.2.2.1 i = ph i) ∧ ((uo.2.2.2.1 ((uo.1 + (uo.2.1 - 1)) % 6).toNat).2.1 = (al, n0, n1)) ∧ (∀ j : Int, 0 ≤ j → j < n0 → (uo.2.2.2.1 ((uo.1 + (uo.2.1 - 1)) % 6).toNat).2.2.1 j = g0 j) ∧ (∀ j : Int, 0 ≤ j → j < n1 → (uo.2.2.2.1 ((uo.1 + (uo.2.1 - 1)) % 6).toNat).2.2.2 j = g1 j)) (fun uo => [bBD G x st sv bu di se wy ta tt rp, bState G st t0 t1 al, bText G t0 a0 n0 g0, bText G t1 a1 (n1 - 1) (delF g1 i n1), bSaved G sv sa uo.1 uo.2.1 uo.2.2.1, bPool G uo.2.2.2.1 uo.2.2.2.2]) (fun E => E = "java/lang/IndexOutOfBoundsException" ∧ ¬ (0 ≤ i ∧ i < n1)) := by
  refine xof (by decide) (Nat.le_of_ble_eq_true rfl) ?_
  intro p e s m args below meth c A ls hx hb hr hml hown hts hlocks hin hA hK hP hD hS hl hX hout Q hQ
  have hown : s.vm.findClass RX8 = some m.cls := hown
  have hl : lv_has ls 5 [(0, .ref x), (1, .int (jz z)), (2, .int (jz i))] := hl
  have KH : ∀ (H : Heap) (locs : List Loc), wP G [bBD G x st sv bu di se wy ta tt rp, bState G st t0 t1 al, bText G t0 a0 n0 g0, bText G t1 a1 n1 g1, bSaved G sv sa od sz f, bPool G ph kp] H → wD A [bBD G x st sv bu di se wy ta tt rp, bState G st t0 t1 al, bText G t0 a0 n0 g0, bText G t1 a1 n1 g1, bSaved G sv sa od sz f, bPool G ph kp] → va_S A s.heap H locs → W p l e rmX8_remove_1 s m args below meth c H locs 0 0 Q (F0 m 0 ls []) := by
    intro H locs hP hD hS
    refine lv_aload_n hx hb dX8_remove_0 rfl (lv_at hl 0 rfl) ?_
    refine lv_iload_n hx hb dX8_remove_1 rfl (lv_at hl 1 rfl) ?_
    refine kV ⟨hx, hb, hml, hown, hts⟩ hK hA hS hP hD [.int (jz z)] [] (mX8_textOf_1 l G x st sv bu di se wy ta tt rp t0 t1 al z (by omega)) lkX8_100 [0, 1] [2, 3, 4, 5] (br := [bText G t0 a0 n0 g0, bText G t1 a1 n1 g1, bSaved G sv sa od sz f, bPool G ph kp]) rfl rfl (by decide) 0 8 rfl rfl rfl rfl (Nat.le_of_ble_eq_true rfl) hl.1 dX8_remove_2 ⟨Nat.le_of_ble_eq_true rfl, Nat.le_of_ble_eq_true rfl⟩ ⟨Nat.le_of_ble_eq_true rfl, Nat.le_of_ble_eq_true rfl⟩ (fun u9 H locs hp9 hP hD hS => ?_)
    have hP : wP G [bText G t0 a0 n0 g0, bText G t1 a1 n1 g1, bSaved G sv sa od sz f, bPool G ph kp, bBD G x st sv bu di se wy ta tt rp, bState G st t0 t1 al] H := hP
    have hD : wD A [bText G t0 a0 n0 g0, bText G t1 a1 n1 g1, bSaved G sv sa od sz f, bPool G ph kp, bBD G x st sv bu di se wy ta tt rp, bState G st t0 t1 al] := hD
    have hP : wP G [bText G t0 a0 n0 g0, bText G t1 a1 n1 g1, bSaved G sv sa od sz f, bBD G x st sv bu di se wy ta tt rp, bState G st t0 t1 al, bPool G ph kp] H := wP_sub hP [0, 1, 2, 4, 5, 3] rfl
    have hD : wD A [bText G t0 a0 n0 g0, bText G t1 a1 n1 g1, bSaved G sv sa od sz f, bBD G x st sv bu di se wy ta tt rp, bState G st t0 t1 al, bPool G ph kp] := wD_sub hD [0, 1, 2, 4, 5, 3] (by decide) rfl
    show W p l e rmX8_remove_1 s m args below meth c H locs 0 0 Q (F0 m 5 ls [.ref t1])
    refine lv_astore_n (lv' := [(3, .ref t1), (0, .ref x), (1, .int (jz z)), (2, .int (jz i))]) hx hb dX8_remove_5 rfl hl (by decide) rfl (fun ls hl => ?_)
    refine lv_aload_n hx hb dX8_remove_6 rfl (lv_at hl 0 rfl) ?_
    refine lv_iload_n hx hb dX8_remove_7 rfl (lv_at hl 3 rfl) ?_
    refine xkS ⟨hx, hb, hml, hown, hts⟩ hK hA hS hP hD [.ref t1, .int (jz i)] [] (mX8_checkPlace l hl0 G t1 a1 n1 g1 i (by omega) (by omega)) lkX8_121 [1] [0, 2, 3, 4, 5] (br := [bText G t0 a0 n0 g0, bSaved G sv sa od sz f, bBD G x st sv bu di se wy ta tt rp, bState G st t0 t1 al, bPool G ph kp]) rfl rfl (by decide) rfl rfl (Nat.le_of_ble_eq_true rfl) hl.1 dX8_remove_8 ⟨Nat.le_of_ble_eq_true rfl, Nat.le_of_ble_eq_true rfl⟩ ⟨Nat.le_of_ble_eq_true rfl, Nat.le_of_ble_eq_true rfl⟩ hX (fun E ce q9 H locs hE hP hD hS hce hcv hcl => xout hout hlocks hce hcv hcl hS hP hD [2, 3, 0, 5, 1, 4] (by decide) rfl (by exact hE) (Nat.le_of_ble_eq_true rfl) (Nat.le_of_ble_eq_true rfl) hQ) (fun u9 H locs hp9 hP hD hS => ?_)
    have hc_3 : 0 ≤ i ∧ i < n1 := hp9
    have hP : wP G [bText G t0 a0 n0 g0, bSaved G sv sa od sz f, bBD G x st sv bu di se wy ta tt rp, bState G st t0 t1 al, bPool G ph kp, bText G t1 a1 n1 g1] H := hP
    have hD : wD A [bText G t0 a0 n0 g0, bSaved G sv sa od sz f, bBD G x st sv bu di se wy ta tt rp, bState G st t0 t1 al, bPool G ph kp, bText G t1 a1 n1 g1] := hD
    have hP : wP G [bText G t0 a0 n0 g0, bSaved G sv sa od sz f, bBD G x st sv bu di se wy ta tt rp, bState G st t0 t1 al, bText G t1 a1 n1 g1, bPool G ph kp] H := wP_sub hP [0, 1, 2, 3, 5, 4] rfl
    have hD : wD A [bText G t0 a0 n0 g0, bSaved G sv sa od sz f, bBD G x st sv bu di se wy ta tt rp, bState G st t0 t1 al, bText G t1 a1 n1 g1, bPool G ph kp] := wD_sub hD [0, 1, 2, 3, 5, 4] (by decide) rfl
    show W p l e rmX8_remove_1 s m args below meth c H locs 1 6 Q (F0 m 11 ls [])
    have hc1 := hc_3
    refine lv_aload_n hx hb dX8_remove_11 rfl (lv_at hl 1 rfl) ?_
    refine va_get (ci := 8) (v := .ref sv) (C := RX8) (T := TX8) (N := 9) hx hb hts wfX8 hown hK.1 hP 4 rfl rfl 1 (by decide) (hts _ wm167) (fun _ h9 => h9) rfl dX8_remove_12 ?_
    refine lv_aload_n hx hb dX8_remove_15 rfl (lv_at hl 1 rfl) ?_
    refine va_get (ci := 8) (v := .ref st) (C := RX8) (T := TX8) (N := 9) hx hb hts wfX8 hown hK.1 hP 4 rfl rfl 0 (by decide) (hts _ wm166) (fun _ h9 => h9) rfl dX8_remove_16 ?_
    refine kV ⟨hx, hb, hml, hown, hts⟩ hK hA hS hP hD [.ref st] [] (mX4_save l G sv sa od sz f ph kp st t0 t1 al a0 n0 g0 a1 n1 g1 (by omega) (by omega) (by omega) (by omega) (by omega) (by omega) (by exact hf)) lkX8_83 [1, 3, 0, 4, 5] [2] (br := [bBD G x st sv bu di se wy ta tt rp]) rfl rfl (by decide) 0 4 rfl rfl rfl rfl (Nat.le_of_ble_eq_true rfl) hl.1 dX8_remove_19 ⟨Nat.le_of_ble_eq_true rfl, Nat.le_of_ble_eq_true rfl⟩ ⟨Nat.le_of_ble_eq_true rfl, Nat.le_of_ble_eq_true rfl⟩ (fun u9 H locs hp9 hP hD hS => ?_)
    obtain ⟨u_4, u_5, u_6, u_7, u_8⟩ := u9
    have ha_9 : (sz < 6 → u_4 = od ∧ u_5 = sz + 1) ∧ (sz = 6 → u_4 = (od + 1) % 6 ∧ u_5 = 6) := hp9.1
    have hb_10 : (u_8 = kp ∨ u_8 = kp + 1) ∧ (u_8 : Int) ≤ 6 ∧ u_5 ≤ u_8 ∧ (u_4 = 0 ∨ u_8 = 6) := hp9.2.1
    have hf_11 : ∀ z : Int, 0 ≤ z → z < 6 → u_6 z = if z < u_8 then some (u_7 z.toNat).1.1 else none := hp9.2.2.1
    have hp_12 : ∀ i : Nat, (i : Int) ≠ (u_4 + (u_5 - 1)) % 6 → i < kp → u_7 i = ph i := hp9.2.2.2.1
    have hq_13 : (u_7 ((u_4 + (u_5 - 1)) % 6).toNat).2.1 = (al, n0, n1) := hp9.2.2.2.2.1
    have hr_14 : ∀ j : Int, 0 ≤ j → j < n0 → (u_7 ((u_4 + (u_5 - 1)) % 6).toNat).2.2.1 j = g0 j := hp9.2.2.2.2.2.1
    have hs_15 : ∀ j : Int, 0 ≤ j → j < n1 → (u_7 ((u_4 + (u_5 - 1)) % 6).toNat).2.2.2 j = g1 j := hp9.2.2.2.2.2.2
    have hP : wP G [bBD G x st sv bu di se wy ta tt rp, bSaved G sv sa u_4 u_5 u_6, bState G st t0 t1 al, bText G t0 a0 n0 g0, bText G t1 a1 n1 g1, bPool G u_7 u_8] H := hP
    have hD : wD A [bBD G x st sv bu di se wy ta tt rp, bSaved G sv sa u_4 u_5 u_6, bState G st t0 t1 al, bText G t0 a0 n0 g0, bText G t1 a1 n1 g1, bPool G u_7 u_8] := hD
    show W p l e rmX8_remove_1 s m args below meth c H locs 6 53 Q (F0 m 22 ls [])
    refine lv_aload_n hx hb dX8_remove_22 rfl (lv_at hl 0 rfl) ?_
    refine lv_iload_n hx hb dX8_remove_23 rfl (lv_at hl 3 rfl) ?_
    refine kV ⟨hx, hb, hml, hown, hts⟩ hK hA hS hP hD [.int (jz i)] [] (mX6_at_in l G t1 a1 n1 g1 i (by omega) (by omega)) lkX8_125 [4] [0, 1, 2, 3, 5] (br := [bBD G x st sv bu di se wy ta tt rp, bSaved G sv sa u_4 u_5 u_6, bState G st t0 t1 al, bText G t0 a0 n0 g0, bPool G u_7 u_8]) rfl rfl (by decide) 0 6 rfl rfl rfl rfl (Nat.le_of_ble_eq_true rfl) hl.1 dX8_remove_24 ⟨Nat.le_of_ble_eq_true rfl, Nat.le_of_ble_eq_true rfl⟩ ⟨Nat.le_of_ble_eq_true rfl, Nat.le_of_ble_eq_true rfl⟩ (fun u9 H locs hp9 hP hD hS => ?_)
    have hP : wP G [bBD G x st sv bu di se wy ta tt rp, bSaved G sv sa u_4 u_5 u_6, bState G st t0 t1 al, bText G t0 a0 n0 g0, bPool G u_7 u_8, bText G t1 a1 n1 g1] H := hP
    have hD : wD A [bBD G x st sv bu di se wy ta tt rp, bSaved G sv sa u_4 u_5 u_6, bState G st t0 t1 al, bText G t0 a0 n0 g0, bPool G u_7 u_8, bText G t1 a1 n1 g1] := hD
    have hP : wP G [bBD G x st sv bu di se wy ta tt rp, bSaved G sv sa u_4 u_5 u_6, bState G st t0 t1 al, bText G t0 a0 n0 g0, bText G t1 a1 n1 g1, bPool G u_7 u_8] H := wP_sub hP [0, 1, 2, 3, 5, 4] rfl
    have hD : wD A [bBD G x st sv bu di se wy ta tt rp, bSaved G sv sa u_4 u_5 u_6, bState G st t0 t1 al, bText G t0 a0 n0 g0, bText G t1 a1 n1 g1, bPool G u_7 u_8] := wD_sub hD [0, 1, 2, 3, 5, 4] (by decide) rfl
    show W p l e rmX8_remove_1 s m args below meth c H locs 6 53 Q (F0 m 27 ls [.int (jz (g1 i))])
    refine lv_istore (lv' := [(4, .int (jz (g1 i))), (3, .ref t1), (0, .ref x), (1, .int (jz z)), (2, .int (jz i))]) hx hb dX8_remove_27 hl (by decide) rfl (fun ls hl => ?_)
    refine lv_aload_n hx hb dX8_remove_29 rfl (lv_at hl 1 rfl) ?_
    refine lv_iload_n hx hb dX8_remove_30 rfl (lv_at hl 4 rfl) ?_
    refine kV ⟨hx, hb, hml, hown, hts⟩ hK hA hS hP hD [.int (jz i)] [] (mX6_takeOut l G t1 a1 n1 g1 i (by omega) (by omega)) lkX8_129 [4] [0, 1, 2, 3, 5] (br := [bBD G x st sv bu di se wy ta tt rp, bSaved G sv sa u_4 u_5 u_6, bState G st t0 t1 al, bText G t0 a0 n0 g0, bPool G u_7 u_8]) rfl rfl (by decide) 0 6 rfl rfl rfl rfl (Nat.le_of_ble_eq_true rfl) hl.1 dX8_remove_31 ⟨Nat.le_of_ble_eq_true rfl, Nat.le_of_ble_eq_true rfl⟩ ⟨Nat.le_of_ble_eq_true rfl, Nat.le_of_ble_eq_true rfl⟩ (fun u9 H locs hp9 hP hD hS => ?_)
    have hP : wP G [bBD G x st sv bu di se wy ta tt rp, bSaved G sv sa u_4 u_5 u_6, bState G st t0 t1 al, bText G t0 a0 n0 g0, bPool G u_7 u_8, bText G t1 a1 (n1 - 1) (delF g1 i n1)] H := hP
    have hD : wD A [bBD G x st sv bu di se wy ta tt rp, bSaved G sv sa u_4 u_5 u_6, bState G st t0 t1 al, bText G t0 a0 n0 g0, bPool G u_7 u_8, bText G t1 a1 (n1 - 1) (delF g1 i n1)] := hD
    have hP : wP G [bBD G x st sv bu di se wy ta tt rp, bSaved G sv sa u_4 u_5 u_6, bState G st t0 t1 al, bText G t0 a0 n0 g0, bText G t1 a1 (n1 - 1) (delF g1 i n1), bPool G u_7 u_8] H := wP_sub hP [0, 1, 2, 3, 5, 4] rfl
    have hD : wD A [bBD G x st sv bu di se wy ta tt rp, bSaved G sv sa u_4 u_5 u_6, bState G st t0 t1 al, bText G t0 a0 n0 g0, bText G t1 a1 (n1 - 1) (delF g1 i n1), bPool G u_7 u_8] := wD_sub hD [0, 1, 2, 3, 5, 4] (by decide) rfl
    show W p l e rmX8_remove_1 s m args below meth c H locs 6 53 Q (F0 m 34 ls [])
    refine lv_iload hx hb dX8_remove_34 (lv_at hl 0 rfl) ?_
    rw [hQ]
    exact vx_ret (cret_i hx hb hr hlocks hS hP hD (Nat.le_of_ble_eq_true rfl) (Nat.le_of_ble_eq_true rfl) rfl dX8_remove_36 [0, 2, 3, 4, 1, 5] (by decide) ⟨u_4, u_5, u_6, u_7, u_8⟩ rfl ⟨(show 0 ≤ i ∧ i < n1 from by omega), (show (sz < 6 → u_4 = od ∧ u_5 = sz + 1) ∧ (sz = 6 → u_4 = (od + 1) % 6 ∧ u_5 = 6) from ha_9), (show (u_8 = kp ∨ u_8 = kp + 1) ∧ (u_8 : Int) ≤ 6 ∧ u_5 ≤ u_8 ∧ (u_4 = 0 ∨ u_8 = 6) from hb_10), (show ∀ z : Int, 0 ≤ z → z < 6 → u_6 z = if z < u_8 then some (u_7 z.toNat).1.1 else none from hf_11), (show ∀ i : Nat, (i : Int) ≠ (u_4 + (u_5 - 1)) % 6 → i < kp → u_7 i = ph i from hp_12), (show (u_7 ((u_4 + (u_5 - 1)) % 6).toNat).2.1 = (al, n0, n1) from hq_13), (show ∀ j : Int, 0 ≤ j → j < n0 → (u_7 ((u_4 + (u_5 - 1)) % 6).toNat).2.2.1 j = g0 j from hr_14), (show ∀ j : Int, 0 ≤ j → j < n1 → (u_7 ((u_4 + (u_5 - 1)) % 6).toNat).2.2.2 j = g1 j from hs_15)⟩ (congrArg (fun z : Int => some (Value.int (jz z))) (show (g1 i) = g1 i from by first | rfl | omega | (split <;> first | rfl | omega | (exfalso; omega)))) rfl)
  exact KH s.heap [] hP hD hS
abbrev rmX8_replace_1 : Room := { frames := 7, cells := 7, slots := 59, locals := 121 }
set_option maxHeartbeats 4000000 in
set_option maxRecDepth 100000 in
theorem mX8_replace_1 (l : Launch) (hl0 : l.stackTraces = false) (G : GG) (x : Nat) (st : Nat) (sv : Nat) (bu : Nat) (di : Nat) (se : Nat) (wy : Nat) (ta : Nat) (tt : Nat) (rp : Nat) (t0 : Nat) (t1 : Nat) (al : Int) (a0 : Nat) (n0 : Int) (g0 : Int → Int) (a1 : Nat) (n1 : Int) (g1 : Int → Int) (sa : Nat) (od : Int) (sz : Int) (f : Int → Option Nat) (ph : Nat → SG) (kp : Nat) (z : Int) (i : Int) (v : Int) (hn0 : 0 ≤ n0 ∧ n0 ≤ 20) (hn1 : 0 ≤ n1 ∧ n1 ≤ 20) (hs : 0 ≤ sz ∧ sz ≤ 6) (ho : 0 ≤ od ∧ od < 6) (hk : kp ≤ 6 ∧ sz ≤ kp) (hk2 : od = 0 ∨ kp = 6) (hf : ∀ z : Int, 0 ≤ z → z < 6 → f z = if z < kp then some (ph z.toNat).1.1 else none) (hal : 2 ≤ al ∧ al ≤ 4) (hz : z = 1) (hi : jr i) (hv : jr v) : Xt l yX8_replace cX8_replace 6 (some .int) rmX8_replace_1 G [.ref x, .int (jz z), .int (jz i), .int (jz v)] [bBD G x st sv bu di se wy ta tt rp, bState G st t0 t1 al, bText G t0 a0 n0 g0, bText G t1 a1 n1 g1, bSaved G sv sa od sz f, bPool G ph kp] (fun uo : Int × Int × (Int → Option Nat) × (Nat → SG) × Nat => some (.int (jz (g1 i)))) (fun uo => ((0 ≤ i ∧ i < n1) ∧ (0 ≤ v ∧ v < al)) ∧ ((sz < 6 → uo.1 = od ∧ uo.2.1 = sz + 1) ∧ (sz = 6 → uo.1 = (od + 1) % 6 ∧ uo.2.1 = 6)) ∧ ((uo.2.2.2.2 = kp ∨ uo.2.2.2.2 = kp + 1) ∧ (uo.2.2.2.2 : Int) ≤ 6 ∧ uo.2.1 ≤ uo.2.2.2.2 ∧ (uo.1 = 0 ∨ uo.2.2.2.2 = 6)) ∧ (∀ z : Int, 0 ≤ z → z < 6 → uo.2.2.1 z = if z < uo.2.2.2.2 then some (uo.2.2.2.1 z.toNat).1.1 else none) ∧ (∀ i : Nat, (i : Int) ≠ (uo.1 + (uo.2.1 - 1)) % 6 → i < kp → uo.2.2.2.1 i = ph i) ∧ ((uo.2.2.2.1 ((uo.1 + (uo.2.1 - 1)) % 6).toNat).2.1 = (al, n0, n1)) ∧ (∀ j : Int, 0 ≤ j → j < n0 → (uo.2.2.2.1 ((uo.1 + (uo.2.1 - 1)) % 6).toNat).2.2.1 j = g0 j) ∧ (∀ j : Int, 0 ≤ j → j < n1 → (uo.2.2.2.1 ((uo.1 + (uo.2.1 - 1)) % 6).toNat).2.2.2 j = g1 j)) (fun uo => [bBD G x st sv bu di se wy ta tt rp, bState G st t0 t1 al, bText G t0 a0 n0 g0, bText G t1 a1 n1 (up g1 i v), bSaved G sv sa uo.1 uo.2.1 uo.2.2.1, bPool G uo.2.2.2.1 uo.2.2.2.2]) (fun E => (E = "java/lang/IndexOutOfBoundsException" ∧ ¬ (0 ≤ i ∧ i < n1)) ∨ (E = "java/lang/IllegalArgumentException" ∧ (0 ≤ i ∧ i < n1) ∧ ¬ (0 ≤ v ∧ v < al))) := by
  refine xof (by decide) (Nat.le_of_ble_eq_true rfl) ?_
  intro p e s m args below meth c A ls hx hb hr hml hown hts hlocks hin hA hK hP hD hS hl hX hout Q hQ
  have hown : s.vm.findClass RX8 = some m.cls := hown
  have hl : lv_has ls 6 [(0, .ref x), (1, .int (jz z)), (2, .int (jz i)), (3, .int (jz v))] := hl
  have KH : ∀ (H : Heap) (locs : List Loc), wP G [bBD G x st sv bu di se wy ta tt rp, bState G st t0 t1 al, bText G t0 a0 n0 g0, bText G t1 a1 n1 g1, bSaved G sv sa od sz f, bPool G ph kp] H → wD A [bBD G x st sv bu di se wy ta tt rp, bState G st t0 t1 al, bText G t0 a0 n0 g0, bText G t1 a1 n1 g1, bSaved G sv sa od sz f, bPool G ph kp] → va_S A s.heap H locs → W p l e rmX8_replace_1 s m args below meth c H locs 0 0 Q (F0 m 0 ls []) := by
    intro H locs hP hD hS
    refine lv_aload_n hx hb dX8_replace_0 rfl (lv_at hl 0 rfl) ?_
    refine lv_iload_n hx hb dX8_replace_1 rfl (lv_at hl 1 rfl) ?_
    refine kV ⟨hx, hb, hml, hown, hts⟩ hK hA hS hP hD [.int (jz z)] [] (mX8_textOf_1 l G x st sv bu di se wy ta tt rp t0 t1 al z (by omega)) lkX8_100 [0, 1] [2, 3, 4, 5] (br := [bText G t0 a0 n0 g0, bText G t1 a1 n1 g1, bSaved G sv sa od sz f, bPool G ph kp]) rfl rfl (by decide) 0 8 rfl rfl rfl rfl (Nat.le_of_ble_eq_true rfl) hl.1 dX8_replace_2 ⟨Nat.le_of_ble_eq_true rfl, Nat.le_of_ble_eq_true rfl⟩ ⟨Nat.le_of_ble_eq_true rfl, Nat.le_of_ble_eq_true rfl⟩ (fun u9 H locs hp9 hP hD hS => ?_)
    have hP : wP G [bText G t0 a0 n0 g0, bText G t1 a1 n1 g1, bSaved G sv sa od sz f, bPool G ph kp, bBD G x st sv bu di se wy ta tt rp, bState G st t0 t1 al] H := hP
    have hD : wD A [bText G t0 a0 n0 g0, bText G t1 a1 n1 g1, bSaved G sv sa od sz f, bPool G ph kp, bBD G x st sv bu di se wy ta tt rp, bState G st t0 t1 al] := hD
    have hP : wP G [bText G t0 a0 n0 g0, bText G t1 a1 n1 g1, bSaved G sv sa od sz f, bBD G x st sv bu di se wy ta tt rp, bState G st t0 t1 al, bPool G ph kp] H := wP_sub hP [0, 1, 2, 4, 5, 3] rfl
    have hD : wD A [bText G t0 a0 n0 g0, bText G t1 a1 n1 g1, bSaved G sv sa od sz f, bBD G x st sv bu di se wy ta tt rp, bState G st t0 t1 al, bPool G ph kp] := wD_sub hD [0, 1, 2, 4, 5, 3] (by decide) rfl
    show W p l e rmX8_replace_1 s m args below meth c H locs 0 0 Q (F0 m 5 ls [.ref t1])
    refine lv_astore (lv' := [(4, .ref t1), (0, .ref x), (1, .int (jz z)), (2, .int (jz i)), (3, .int (jz v))]) hx hb dX8_replace_5 hl (by decide) rfl (fun ls hl => ?_)
    refine lv_aload hx hb dX8_replace_7 (lv_at hl 0 rfl) ?_
    refine lv_iload_n hx hb dX8_replace_9 rfl (lv_at hl 3 rfl) ?_
    refine xkS ⟨hx, hb, hml, hown, hts⟩ hK hA hS hP hD [.ref t1, .int (jz i)] [] (mX8_checkPlace l hl0 G t1 a1 n1 g1 i (by omega) (by omega)) lkX8_121 [1] [0, 2, 3, 4, 5] (br := [bText G t0 a0 n0 g0, bSaved G sv sa od sz f, bBD G x st sv bu di se wy ta tt rp, bState G st t0 t1 al, bPool G ph kp]) rfl rfl (by decide) rfl rfl (Nat.le_of_ble_eq_true rfl) hl.1 dX8_replace_10 ⟨Nat.le_of_ble_eq_true rfl, Nat.le_of_ble_eq_true rfl⟩ ⟨Nat.le_of_ble_eq_true rfl, Nat.le_of_ble_eq_true rfl⟩ hX (fun E ce q9 H locs hE hP hD hS hce hcv hcl => xout hout hlocks hce hcv hcl hS hP hD [2, 3, 0, 5, 1, 4] (by decide) rfl (by exact Or.inl hE) (Nat.le_of_ble_eq_true rfl) (Nat.le_of_ble_eq_true rfl) hQ) (fun u9 H locs hp9 hP hD hS => ?_)
    have hc_3 : 0 ≤ i ∧ i < n1 := hp9
    have hP : wP G [bText G t0 a0 n0 g0, bSaved G sv sa od sz f, bBD G x st sv bu di se wy ta tt rp, bState G st t0 t1 al, bPool G ph kp, bText G t1 a1 n1 g1] H := hP
    have hD : wD A [bText G t0 a0 n0 g0, bSaved G sv sa od sz f, bBD G x st sv bu di se wy ta tt rp, bState G st t0 t1 al, bPool G ph kp, bText G t1 a1 n1 g1] := hD
    have hP : wP G [bText G t0 a0 n0 g0, bSaved G sv sa od sz f, bBD G x st sv bu di se wy ta tt rp, bState G st t0 t1 al, bText G t1 a1 n1 g1, bPool G ph kp] H := wP_sub hP [0, 1, 2, 3, 5, 4] rfl
    have hD : wD A [bText G t0 a0 n0 g0, bSaved G sv sa od sz f, bBD G x st sv bu di se wy ta tt rp, bState G st t0 t1 al, bText G t1 a1 n1 g1, bPool G ph kp] := wD_sub hD [0, 1, 2, 3, 5, 4] (by decide) rfl
    show W p l e rmX8_replace_1 s m args below meth c H locs 1 6 Q (F0 m 13 ls [])
    have hc1 := hc_3
    refine lv_aload_n hx hb dX8_replace_13 rfl (lv_at hl 1 rfl) ?_
    refine lv_iload_n hx hb dX8_replace_14 rfl (lv_at hl 4 rfl) ?_
    refine xkV ⟨hx, hb, hml, hown, hts⟩ hK hA hS hP hD [.int (jz v)] [] (mX8_checkLetter l hl0 G x st sv bu di se wy ta tt rp t0 t1 al v (by omega) (by omega)) lkX8_108 [2, 3] [0, 1, 4, 5] (br := [bText G t0 a0 n0 g0, bSaved G sv sa od sz f, bText G t1 a1 n1 g1, bPool G ph kp]) rfl rfl (by decide) 0 8 rfl rfl rfl rfl (Nat.le_of_ble_eq_true rfl) hl.1 dX8_replace_15 ⟨Nat.le_of_ble_eq_true rfl, Nat.le_of_ble_eq_true rfl⟩ ⟨Nat.le_of_ble_eq_true rfl, Nat.le_of_ble_eq_true rfl⟩ hX (fun E ce q9 H locs hE hP hD hS hce hcv hcl => xout hout hlocks hce hcv hcl hS hP hD [4, 5, 0, 2, 1, 3] (by decide) rfl (by exact Or.inr ⟨hE.1, by omega, hE.2⟩) (Nat.le_of_ble_eq_true rfl) (Nat.le_of_ble_eq_true rfl) hQ) (fun u9 H locs hp9 hP hD hS => ?_)
    have hc_5 : 0 ≤ v ∧ v < al := hp9
    have hP : wP G [bText G t0 a0 n0 g0, bSaved G sv sa od sz f, bText G t1 a1 n1 g1, bPool G ph kp, bBD G x st sv bu di se wy ta tt rp, bState G st t0 t1 al] H := hP
    have hD : wD A [bText G t0 a0 n0 g0, bSaved G sv sa od sz f, bText G t1 a1 n1 g1, bPool G ph kp, bBD G x st sv bu di se wy ta tt rp, bState G st t0 t1 al] := hD
    have hP : wP G [bText G t0 a0 n0 g0, bSaved G sv sa od sz f, bText G t1 a1 n1 g1, bBD G x st sv bu di se wy ta tt rp, bState G st t0 t1 al, bPool G ph kp] H := wP_sub hP [0, 1, 2, 4, 5, 3] rfl
    have hD : wD A [bText G t0 a0 n0 g0, bSaved G sv sa od sz f, bText G t1 a1 n1 g1, bBD G x st sv bu di se wy ta tt rp, bState G st t0 t1 al, bPool G ph kp] := wD_sub hD [0, 1, 2, 4, 5, 3] (by decide) rfl
    show W p l e rmX8_replace_1 s m args below meth c H locs 2 12 Q (F0 m 18 ls [])
    have hc2 := hc_5
    refine lv_aload_n hx hb dX8_replace_18 rfl (lv_at hl 1 rfl) ?_
    refine va_get (ci := 8) (v := .ref sv) (C := RX8) (T := TX8) (N := 9) hx hb hts wfX8 hown hK.1 hP 6 rfl rfl 1 (by decide) (hts _ wm167) (fun _ h9 => h9) rfl dX8_replace_19 ?_
    refine lv_aload_n hx hb dX8_replace_22 rfl (lv_at hl 1 rfl) ?_
    refine va_get (ci := 8) (v := .ref st) (C := RX8) (T := TX8) (N := 9) hx hb hts wfX8 hown hK.1 hP 6 rfl rfl 0 (by decide) (hts _ wm166) (fun _ h9 => h9) rfl dX8_replace_23 ?_
    refine kV ⟨hx, hb, hml, hown, hts⟩ hK hA hS hP hD [.ref st] [] (mX4_save l G sv sa od sz f ph kp st t0 t1 al a0 n0 g0 a1 n1 g1 (by omega) (by omega) (by omega) (by omega) (by omega) (by omega) (by exact hf)) lkX8_83 [1, 4, 0, 2, 5] [3] (br := [bBD G x st sv bu di se wy ta tt rp]) rfl rfl (by decide) 0 4 rfl rfl rfl rfl (Nat.le_of_ble_eq_true rfl) hl.1 dX8_replace_26 ⟨Nat.le_of_ble_eq_true rfl, Nat.le_of_ble_eq_true rfl⟩ ⟨Nat.le_of_ble_eq_true rfl, Nat.le_of_ble_eq_true rfl⟩ (fun u9 H locs hp9 hP hD hS => ?_)
    obtain ⟨u_6, u_7, u_8, u_9, u_10⟩ := u9
    have ha_11 : (sz < 6 → u_6 = od ∧ u_7 = sz + 1) ∧ (sz = 6 → u_6 = (od + 1) % 6 ∧ u_7 = 6) := hp9.1
    have hb_12 : (u_10 = kp ∨ u_10 = kp + 1) ∧ (u_10 : Int) ≤ 6 ∧ u_7 ≤ u_10 ∧ (u_6 = 0 ∨ u_10 = 6) := hp9.2.1
    have hf_13 : ∀ z : Int, 0 ≤ z → z < 6 → u_8 z = if z < u_10 then some (u_9 z.toNat).1.1 else none := hp9.2.2.1
    have hp_14 : ∀ i : Nat, (i : Int) ≠ (u_6 + (u_7 - 1)) % 6 → i < kp → u_9 i = ph i := hp9.2.2.2.1
    have hq_15 : (u_9 ((u_6 + (u_7 - 1)) % 6).toNat).2.1 = (al, n0, n1) := hp9.2.2.2.2.1
    have hr_16 : ∀ j : Int, 0 ≤ j → j < n0 → (u_9 ((u_6 + (u_7 - 1)) % 6).toNat).2.2.1 j = g0 j := hp9.2.2.2.2.2.1
    have hs_17 : ∀ j : Int, 0 ≤ j → j < n1 → (u_9 ((u_6 + (u_7 - 1)) % 6).toNat).2.2.2 j = g1 j := hp9.2.2.2.2.2.2
    have hP : wP G [bBD G x st sv bu di se wy ta tt rp, bSaved G sv sa u_6 u_7 u_8, bState G st t0 t1 al, bText G t0 a0 n0 g0, bText G t1 a1 n1 g1, bPool G u_9 u_10] H := hP
    have hD : wD A [bBD G x st sv bu di se wy ta tt rp, bSaved G sv sa u_6 u_7 u_8, bState G st t0 t1 al, bText G t0 a0 n0 g0, bText G t1 a1 n1 g1, bPool G u_9 u_10] := hD
    show W p l e rmX8_replace_1 s m args below meth c H locs 7 59 Q (F0 m 29 ls [])
    refine lv_aload hx hb dX8_replace_29 (lv_at hl 0 rfl) ?_
    refine lv_iload_n hx hb dX8_replace_31 rfl (lv_at hl 3 rfl) ?_
    refine kV ⟨hx, hb, hml, hown, hts⟩ hK hA hS hP hD [.int (jz i)] [] (mX6_at_in l G t1 a1 n1 g1 i (by omega) (by omega)) lkX8_125 [4] [0, 1, 2, 3, 5] (br := [bBD G x st sv bu di se wy ta tt rp, bSaved G sv sa u_6 u_7 u_8, bState G st t0 t1 al, bText G t0 a0 n0 g0, bPool G u_9 u_10]) rfl rfl (by decide) 0 6 rfl rfl rfl rfl (Nat.le_of_ble_eq_true rfl) hl.1 dX8_replace_32 ⟨Nat.le_of_ble_eq_true rfl, Nat.le_of_ble_eq_true rfl⟩ ⟨Nat.le_of_ble_eq_true rfl, Nat.le_of_ble_eq_true rfl⟩ (fun u9 H locs hp9 hP hD hS => ?_)
    have hP : wP G [bBD G x st sv bu di se wy ta tt rp, bSaved G sv sa u_6 u_7 u_8, bState G st t0 t1 al, bText G t0 a0 n0 g0, bPool G u_9 u_10, bText G t1 a1 n1 g1] H := hP
    have hD : wD A [bBD G x st sv bu di se wy ta tt rp, bSaved G sv sa u_6 u_7 u_8, bState G st t0 t1 al, bText G t0 a0 n0 g0, bPool G u_9 u_10, bText G t1 a1 n1 g1] := hD
    have hP : wP G [bBD G x st sv bu di se wy ta tt rp, bSaved G sv sa u_6 u_7 u_8, bState G st t0 t1 al, bText G t0 a0 n0 g0, bText G t1 a1 n1 g1, bPool G u_9 u_10] H := wP_sub hP [0, 1, 2, 3, 5, 4] rfl
    have hD : wD A [bBD G x st sv bu di se wy ta tt rp, bSaved G sv sa u_6 u_7 u_8, bState G st t0 t1 al, bText G t0 a0 n0 g0, bText G t1 a1 n1 g1, bPool G u_9 u_10] := wD_sub hD [0, 1, 2, 3, 5, 4] (by decide) rfl
    show W p l e rmX8_replace_1 s m args below meth c H locs 7 59 Q (F0 m 35 ls [.int (jz (g1 i))])
    refine lv_istore (lv' := [(5, .int (jz (g1 i))), (4, .ref t1), (0, .ref x), (1, .int (jz z)), (2, .int (jz i)), (3, .int (jz v))]) hx hb dX8_replace_35 hl (by decide) rfl (fun ls hl => ?_)
    refine lv_aload hx hb dX8_replace_37 (lv_at hl 1 rfl) ?_
    refine lv_iload_n hx hb dX8_replace_39 rfl (lv_at hl 4 rfl) ?_
    refine lv_iload_n hx hb dX8_replace_40 rfl (lv_at hl 5 rfl) ?_
    refine kV ⟨hx, hb, hml, hown, hts⟩ hK hA hS hP hD [.int (jz i), .int (jz v)] [] (mX6_set l G t1 a1 n1 g1 i v (by omega) (by omega)) lkX8_132 [4] [0, 1, 2, 3, 5] (br := [bBD G x st sv bu di se wy ta tt rp, bSaved G sv sa u_6 u_7 u_8, bState G st t0 t1 al, bText G t0 a0 n0 g0, bPool G u_9 u_10]) rfl rfl (by decide) 0 6 rfl rfl rfl rfl (Nat.le_of_ble_eq_true rfl) hl.1 dX8_replace_41 ⟨Nat.le_of_ble_eq_true rfl, Nat.le_of_ble_eq_true rfl⟩ ⟨Nat.le_of_ble_eq_true rfl, Nat.le_of_ble_eq_true rfl⟩ (fun u9 H locs hp9 hP hD hS => ?_)
    have hP : wP G [bBD G x st sv bu di se wy ta tt rp, bSaved G sv sa u_6 u_7 u_8, bState G st t0 t1 al, bText G t0 a0 n0 g0, bPool G u_9 u_10, bText G t1 a1 n1 (up g1 i v)] H := hP
    have hD : wD A [bBD G x st sv bu di se wy ta tt rp, bSaved G sv sa u_6 u_7 u_8, bState G st t0 t1 al, bText G t0 a0 n0 g0, bPool G u_9 u_10, bText G t1 a1 n1 (up g1 i v)] := hD
    have hP : wP G [bBD G x st sv bu di se wy ta tt rp, bSaved G sv sa u_6 u_7 u_8, bState G st t0 t1 al, bText G t0 a0 n0 g0, bText G t1 a1 n1 (up g1 i v), bPool G u_9 u_10] H := wP_sub hP [0, 1, 2, 3, 5, 4] rfl
    have hD : wD A [bBD G x st sv bu di se wy ta tt rp, bSaved G sv sa u_6 u_7 u_8, bState G st t0 t1 al, bText G t0 a0 n0 g0, bText G t1 a1 n1 (up g1 i v), bPool G u_9 u_10] := wD_sub hD [0, 1, 2, 3, 5, 4] (by decide) rfl
    show W p l e rmX8_replace_1 s m args below meth c H locs 7 59 Q (F0 m 44 ls [])
    refine lv_iload hx hb dX8_replace_44 (lv_at hl 0 rfl) ?_
    rw [hQ]
    exact vx_ret (cret_i hx hb hr hlocks hS hP hD (Nat.le_of_ble_eq_true rfl) (Nat.le_of_ble_eq_true rfl) rfl dX8_replace_46 [0, 2, 3, 4, 1, 5] (by decide) ⟨u_6, u_7, u_8, u_9, u_10⟩ rfl ⟨(show (0 ≤ i ∧ i < n1) ∧ (0 ≤ v ∧ v < al) from by omega), (show (sz < 6 → u_6 = od ∧ u_7 = sz + 1) ∧ (sz = 6 → u_6 = (od + 1) % 6 ∧ u_7 = 6) from ha_11), (show (u_10 = kp ∨ u_10 = kp + 1) ∧ (u_10 : Int) ≤ 6 ∧ u_7 ≤ u_10 ∧ (u_6 = 0 ∨ u_10 = 6) from hb_12), (show ∀ z : Int, 0 ≤ z → z < 6 → u_8 z = if z < u_10 then some (u_9 z.toNat).1.1 else none from hf_13), (show ∀ i : Nat, (i : Int) ≠ (u_6 + (u_7 - 1)) % 6 → i < kp → u_9 i = ph i from hp_14), (show (u_9 ((u_6 + (u_7 - 1)) % 6).toNat).2.1 = (al, n0, n1) from hq_15), (show ∀ j : Int, 0 ≤ j → j < n0 → (u_9 ((u_6 + (u_7 - 1)) % 6).toNat).2.2.1 j = g0 j from hr_16), (show ∀ j : Int, 0 ≤ j → j < n1 → (u_9 ((u_6 + (u_7 - 1)) % 6).toNat).2.2.2 j = g1 j from hs_17)⟩ (congrArg (fun z : Int => some (Value.int (jz z))) (show (g1 i) = g1 i from by first | rfl | omega | (split <;> first | rfl | omega | (exfalso; omega)))) rfl)
  exact KH s.heap [] hP hD hS
abbrev rmX8_exchange : Room := { frames := 4, cells := 5, slots := 47, locals := 88 }
set_option maxHeartbeats 4000000 in
set_option maxRecDepth 100000 in
theorem mX8_exchange (l : Launch) (G : GG) (x : Nat) (st : Nat) (sv : Nat) (bu : Nat) (di : Nat) (se : Nat) (wy : Nat) (ta : Nat) (tt : Nat) (rp : Nat) (t0 : Nat) (t1 : Nat) (al : Int) (a0 : Nat) (n0 : Int) (g0 : Int → Int) (a1 : Nat) (n1 : Int) (g1 : Int → Int) (sa : Nat) (od : Int) (sz : Int) (f : Int → Option Nat) (ph : Nat → SG) (kp : Nat) (hn0 : 0 ≤ n0 ∧ n0 ≤ 20) (hn1 : 0 ≤ n1 ∧ n1 ≤ 20) (hs : 0 ≤ sz ∧ sz ≤ 6) (ho : 0 ≤ od ∧ od < 6) (hk : kp ≤ 6 ∧ sz ≤ kp) (hk2 : od = 0 ∨ kp = 6) (hf : ∀ z : Int, 0 ≤ z → z < 6 → f z = if z < kp then some (ph z.toNat).1.1 else none) : Ct l yX8_exchange cX8_exchange 1 (some .int) rmX8_exchange G [.ref x] [bBD G x st sv bu di se wy ta tt rp, bState G st t0 t1 al, bText G t0 a0 n0 g0, bText G t1 a1 n1 g1, bSaved G sv sa od sz f, bPool G ph kp] (fun uo : Int × Int × (Int → Option Nat) × (Nat → SG) × Nat => some (.int (jz n1))) (fun uo => ((sz < 6 → uo.1 = od ∧ uo.2.1 = sz + 1) ∧ (sz = 6 → uo.1 = (od + 1) % 6 ∧ uo.2.1 = 6)) ∧ ((uo.2.2.2.2 = kp ∨ uo.2.2.2.2 = kp + 1) ∧ (uo.2.2.2.2 : Int) ≤ 6 ∧ uo.2.1 ≤ uo.2.2.2.2 ∧ (uo.1 = 0 ∨ uo.2.2.2.2 = 6)) ∧ (∀ z : Int, 0 ≤ z → z < 6 → uo.2.2.1 z = if z < uo.2.2.2.2 then some (uo.2.2.2.1 z.toNat).1.1 else none) ∧ (∀ i : Nat, (i : Int) ≠ (uo.1 + (uo.2.1 - 1)) % 6 → i < kp → uo.2.2.2.1 i = ph i) ∧ ((uo.2.2.2.1 ((uo.1 + (uo.2.1 - 1)) % 6).toNat).2.1 = (al, n0, n1)) ∧ (∀ j : Int, 0 ≤ j → j < n0 → (uo.2.2.2.1 ((uo.1 + (uo.2.1 - 1)) % 6).toNat).2.2.1 j = g0 j) ∧ (∀ j : Int, 0 ≤ j → j < n1 → (uo.2.2.2.1 ((uo.1 + (uo.2.1 - 1)) % 6).toNat).2.2.2 j = g1 j)) (fun uo => [bBD G x st sv bu di se wy ta tt rp, bState G st t1 t0 al, bText G t0 a0 n0 g0, bText G t1 a1 n1 g1, bSaved G sv sa uo.1 uo.2.1 uo.2.2.1, bPool G uo.2.2.2.1 uo.2.2.2.2]) := by
  refine cof (by decide) (Nat.le_of_ble_eq_true rfl) ?_
  intro p e s m args below meth c A ls hx hb hr hml hown hts hlocks hin hA hK hP hD hS hl Q hQ
  have hown : s.vm.findClass RX8 = some m.cls := hown
  have hl : lv_has ls 1 [(0, .ref x)] := hl
  have KH : ∀ (H : Heap) (locs : List Loc), wP G [bBD G x st sv bu di se wy ta tt rp, bState G st t0 t1 al, bText G t0 a0 n0 g0, bText G t1 a1 n1 g1, bSaved G sv sa od sz f, bPool G ph kp] H → wD A [bBD G x st sv bu di se wy ta tt rp, bState G st t0 t1 al, bText G t0 a0 n0 g0, bText G t1 a1 n1 g1, bSaved G sv sa od sz f, bPool G ph kp] → va_S A s.heap H locs → W p l e rmX8_exchange s m args below meth c H locs 0 0 Q (F0 m 0 ls []) := by
    intro H locs hP hD hS
    refine lv_aload_n hx hb dX8_exchange_0 rfl (lv_at hl 0 rfl) ?_
    refine va_get (ci := 8) (v := .ref sv) (C := RX8) (T := TX8) (N := 9) hx hb hts wfX8 hown hK.1 hP 0 rfl rfl 1 (by decide) (hts _ wm167) (fun _ h9 => h9) rfl dX8_exchange_1 ?_
    refine lv_aload_n hx hb dX8_exchange_4 rfl (lv_at hl 0 rfl) ?_
    refine va_get (ci := 8) (v := .ref st) (C := RX8) (T := TX8) (N := 9) hx hb hts wfX8 hown hK.1 hP 0 rfl rfl 0 (by decide) (hts _ wm166) (fun _ h9 => h9) rfl dX8_exchange_5 ?_
    refine kV ⟨hx, hb, hml, hown, hts⟩ hK hA hS hP hD [.ref st] [] (mX4_save l G sv sa od sz f ph kp st t0 t1 al a0 n0 g0 a1 n1 g1 (by omega) (by omega) (by omega) (by omega) (by omega) (by omega) (by exact hf)) lkX8_83 [4, 1, 2, 3, 5] [0] (br := [bBD G x st sv bu di se wy ta tt rp]) rfl rfl (by decide) 0 4 rfl rfl rfl rfl (Nat.le_of_ble_eq_true rfl) hl.1 dX8_exchange_8 ⟨Nat.le_of_ble_eq_true rfl, Nat.le_of_ble_eq_true rfl⟩ ⟨Nat.le_of_ble_eq_true rfl, Nat.le_of_ble_eq_true rfl⟩ (fun u9 H locs hp9 hP hD hS => ?_)
    obtain ⟨u_1, u_2, u_3, u_4, u_5⟩ := u9
    have ha_6 : (sz < 6 → u_1 = od ∧ u_2 = sz + 1) ∧ (sz = 6 → u_1 = (od + 1) % 6 ∧ u_2 = 6) := hp9.1
    have hb_7 : (u_5 = kp ∨ u_5 = kp + 1) ∧ (u_5 : Int) ≤ 6 ∧ u_2 ≤ u_5 ∧ (u_1 = 0 ∨ u_5 = 6) := hp9.2.1
    have hf_8 : ∀ z : Int, 0 ≤ z → z < 6 → u_3 z = if z < u_5 then some (u_4 z.toNat).1.1 else none := hp9.2.2.1
    have hp_9 : ∀ i : Nat, (i : Int) ≠ (u_1 + (u_2 - 1)) % 6 → i < kp → u_4 i = ph i := hp9.2.2.2.1
    have hq_10 : (u_4 ((u_1 + (u_2 - 1)) % 6).toNat).2.1 = (al, n0, n1) := hp9.2.2.2.2.1
    have hr_11 : ∀ j : Int, 0 ≤ j → j < n0 → (u_4 ((u_1 + (u_2 - 1)) % 6).toNat).2.2.1 j = g0 j := hp9.2.2.2.2.2.1
    have hs_12 : ∀ j : Int, 0 ≤ j → j < n1 → (u_4 ((u_1 + (u_2 - 1)) % 6).toNat).2.2.2 j = g1 j := hp9.2.2.2.2.2.2
    have hP : wP G [bBD G x st sv bu di se wy ta tt rp, bSaved G sv sa u_1 u_2 u_3, bState G st t0 t1 al, bText G t0 a0 n0 g0, bText G t1 a1 n1 g1, bPool G u_4 u_5] H := hP
    have hD : wD A [bBD G x st sv bu di se wy ta tt rp, bSaved G sv sa u_1 u_2 u_3, bState G st t0 t1 al, bText G t0 a0 n0 g0, bText G t1 a1 n1 g1, bPool G u_4 u_5] := hD
    show W p l e rmX8_exchange s m args below meth c H locs 5 47 Q (F0 m 11 ls [])
    refine lv_aload_n hx hb dX8_exchange_11 rfl (lv_at hl 0 rfl) ?_
    refine va_get (ci := 8) (v := .ref st) (C := RX8) (T := TX8) (N := 9) hx hb hts wfX8 hown hK.1 hP 0 rfl rfl 0 (by decide) (hts _ wm166) (fun _ h9 => h9) rfl dX8_exchange_12 ?_
    refine kV ⟨hx, hb, hml, hown, hts⟩ hK hA hS hP hD [] [] (mX5_swapTexts l G st t0 t1 al ) lkX8_135 [2] [0, 1, 3, 4, 5] (br := [bBD G x st sv bu di se wy ta tt rp, bSaved G sv sa u_1 u_2 u_3, bText G t0 a0 n0 g0, bText G t1 a1 n1 g1, bPool G u_4 u_5]) rfl rfl (by decide) 0 5 rfl rfl rfl rfl (Nat.le_of_ble_eq_true rfl) hl.1 dX8_exchange_15 ⟨Nat.le_of_ble_eq_true rfl, Nat.le_of_ble_eq_true rfl⟩ ⟨Nat.le_of_ble_eq_true rfl, Nat.le_of_ble_eq_true rfl⟩ (fun u9 H locs hp9 hP hD hS => ?_)
    have hP : wP G [bBD G x st sv bu di se wy ta tt rp, bSaved G sv sa u_1 u_2 u_3, bText G t0 a0 n0 g0, bText G t1 a1 n1 g1, bPool G u_4 u_5, bState G st t1 t0 al] H := hP
    have hD : wD A [bBD G x st sv bu di se wy ta tt rp, bSaved G sv sa u_1 u_2 u_3, bText G t0 a0 n0 g0, bText G t1 a1 n1 g1, bPool G u_4 u_5, bState G st t1 t0 al] := hD
    have hP : wP G [bBD G x st sv bu di se wy ta tt rp, bSaved G sv sa u_1 u_2 u_3, bText G t0 a0 n0 g0, bText G t1 a1 n1 g1, bState G st t1 t0 al, bPool G u_4 u_5] H := wP_sub hP [0, 1, 2, 3, 5, 4] rfl
    have hD : wD A [bBD G x st sv bu di se wy ta tt rp, bSaved G sv sa u_1 u_2 u_3, bText G t0 a0 n0 g0, bText G t1 a1 n1 g1, bState G st t1 t0 al, bPool G u_4 u_5] := wD_sub hD [0, 1, 2, 3, 5, 4] (by decide) rfl
    show W p l e rmX8_exchange s m args below meth c H locs 5 47 Q (F0 m 18 ls [])
    refine lv_aload_n hx hb dX8_exchange_18 rfl (lv_at hl 0 rfl) ?_
    refine va_get (ci := 8) (v := .ref st) (C := RX8) (T := TX8) (N := 9) hx hb hts wfX8 hown hK.1 hP 0 rfl rfl 0 (by decide) (hts _ wm166) (fun _ h9 => h9) rfl dX8_exchange_19 ?_
    refine jv_iconst hx hb dX8_exchange_22 ?_
    refine kV ⟨hx, hb, hml, hown, hts⟩ hK hA hS hP hD [.int (jz 0)] [] (mX5_text_0 l G st t1 t0 al 0 (by omega) (by omega)) lkX8_87 [4] [0, 1, 2, 3, 5] (br := [bBD G x st sv bu di se wy ta tt rp, bSaved G sv sa u_1 u_2 u_3, bText G t0 a0 n0 g0, bText G t1 a1 n1 g1, bPool G u_4 u_5]) rfl rfl (by decide) 0 5 rfl rfl rfl rfl (Nat.le_of_ble_eq_true rfl) hl.1 dX8_exchange_23 ⟨Nat.le_of_ble_eq_true rfl, Nat.le_of_ble_eq_true rfl⟩ ⟨Nat.le_of_ble_eq_true rfl, Nat.le_of_ble_eq_true rfl⟩ (fun u9 H locs hp9 hP hD hS => ?_)
    have hP : wP G [bBD G x st sv bu di se wy ta tt rp, bSaved G sv sa u_1 u_2 u_3, bText G t0 a0 n0 g0, bText G t1 a1 n1 g1, bPool G u_4 u_5, bState G st t1 t0 al] H := hP
    have hD : wD A [bBD G x st sv bu di se wy ta tt rp, bSaved G sv sa u_1 u_2 u_3, bText G t0 a0 n0 g0, bText G t1 a1 n1 g1, bPool G u_4 u_5, bState G st t1 t0 al] := hD
    have hP : wP G [bBD G x st sv bu di se wy ta tt rp, bSaved G sv sa u_1 u_2 u_3, bText G t0 a0 n0 g0, bText G t1 a1 n1 g1, bState G st t1 t0 al, bPool G u_4 u_5] H := wP_sub hP [0, 1, 2, 3, 5, 4] rfl
    have hD : wD A [bBD G x st sv bu di se wy ta tt rp, bSaved G sv sa u_1 u_2 u_3, bText G t0 a0 n0 g0, bText G t1 a1 n1 g1, bState G st t1 t0 al, bPool G u_4 u_5] := wD_sub hD [0, 1, 2, 3, 5, 4] (by decide) rfl
    show W p l e rmX8_exchange s m args below meth c H locs 5 47 Q (F0 m 26 ls [.ref t1])
    refine kV ⟨hx, hb, hml, hown, hts⟩ hK hA hS hP hD [] [] (mX6_size l G t1 a1 n1 g1 ) lkX8_95 [3] [0, 1, 2, 4, 5] (br := [bBD G x st sv bu di se wy ta tt rp, bSaved G sv sa u_1 u_2 u_3, bText G t0 a0 n0 g0, bState G st t1 t0 al, bPool G u_4 u_5]) rfl rfl (by decide) 0 6 rfl rfl rfl rfl (Nat.le_of_ble_eq_true rfl) hl.1 dX8_exchange_26 ⟨Nat.le_of_ble_eq_true rfl, Nat.le_of_ble_eq_true rfl⟩ ⟨Nat.le_of_ble_eq_true rfl, Nat.le_of_ble_eq_true rfl⟩ (fun u9 H locs hp9 hP hD hS => ?_)
    have hP : wP G [bBD G x st sv bu di se wy ta tt rp, bSaved G sv sa u_1 u_2 u_3, bText G t0 a0 n0 g0, bState G st t1 t0 al, bPool G u_4 u_5, bText G t1 a1 n1 g1] H := hP
    have hD : wD A [bBD G x st sv bu di se wy ta tt rp, bSaved G sv sa u_1 u_2 u_3, bText G t0 a0 n0 g0, bState G st t1 t0 al, bPool G u_4 u_5, bText G t1 a1 n1 g1] := hD
    have hP : wP G [bBD G x st sv bu di se wy ta tt rp, bSaved G sv sa u_1 u_2 u_3, bText G t0 a0 n0 g0, bState G st t1 t0 al, bText G t1 a1 n1 g1, bPool G u_4 u_5] H := wP_sub hP [0, 1, 2, 3, 5, 4] rfl
    have hD : wD A [bBD G x st sv bu di se wy ta tt rp, bSaved G sv sa u_1 u_2 u_3, bText G t0 a0 n0 g0, bState G st t1 t0 al, bText G t1 a1 n1 g1, bPool G u_4 u_5] := wD_sub hD [0, 1, 2, 3, 5, 4] (by decide) rfl
    show W p l e rmX8_exchange s m args below meth c H locs 5 47 Q (F0 m 29 ls [.int (jz n1)])
    exact cret_i hx hb hr hlocks hS hP hD (Nat.le_of_ble_eq_true rfl) (Nat.le_of_ble_eq_true rfl) rfl dX8_exchange_29 [0, 3, 2, 4, 1, 5] (by decide) ⟨u_1, u_2, u_3, u_4, u_5⟩ rfl ⟨(show (sz < 6 → u_1 = od ∧ u_2 = sz + 1) ∧ (sz = 6 → u_1 = (od + 1) % 6 ∧ u_2 = 6) from ha_6), (show (u_5 = kp ∨ u_5 = kp + 1) ∧ (u_5 : Int) ≤ 6 ∧ u_2 ≤ u_5 ∧ (u_1 = 0 ∨ u_5 = 6) from hb_7), (show ∀ z : Int, 0 ≤ z → z < 6 → u_3 z = if z < u_5 then some (u_4 z.toNat).1.1 else none from hf_8), (show ∀ i : Nat, (i : Int) ≠ (u_1 + (u_2 - 1)) % 6 → i < kp → u_4 i = ph i from hp_9), (show (u_4 ((u_1 + (u_2 - 1)) % 6).toNat).2.1 = (al, n0, n1) from hq_10), (show ∀ j : Int, 0 ≤ j → j < n0 → (u_4 ((u_1 + (u_2 - 1)) % 6).toNat).2.2.1 j = g0 j from hr_11), (show ∀ j : Int, 0 ≤ j → j < n1 → (u_4 ((u_1 + (u_2 - 1)) % 6).toNat).2.2.2 j = g1 j from hs_12)⟩ (congrArg (fun z : Int => some (Value.int (jz z))) (show n1 = n1 from by first | rfl | omega | (split <;> first | rfl | omega | (exfalso; omega)))) hQ
  exact KH s.heap [] hP hD hS
abbrev rmX8_setAlphabet : Room := { frames := 6, cells := 5, slots := 47, locals := 100 }
set_option maxHeartbeats 4000000 in
set_option maxRecDepth 100000 in
theorem mX8_setAlphabet (l : Launch) (hl0 : l.stackTraces = false) (G : GG) (x : Nat) (st : Nat) (sv : Nat) (bu : Nat) (di : Nat) (se : Nat) (wy : Nat) (ta : Nat) (tt : Nat) (rp : Nat) (t0 : Nat) (t1 : Nat) (al : Int) (a0 : Nat) (n0 : Int) (g0 : Int → Int) (a1 : Nat) (n1 : Int) (g1 : Int → Int) (sa : Nat) (od : Int) (sz : Int) (f : Int → Option Nat) (ph : Nat → SG) (kp : Nat) (z : Int) (hn0 : 0 ≤ n0 ∧ n0 ≤ 20) (hn1 : 0 ≤ n1 ∧ n1 ≤ 20) (hs : 0 ≤ sz ∧ sz ≤ 6) (ho : 0 ≤ od ∧ od < 6) (hk : kp ≤ 6 ∧ sz ≤ kp) (hk2 : od = 0 ∨ kp = 6) (hf : ∀ z : Int, 0 ≤ z → z < 6 → f z = if z < kp then some (ph z.toNat).1.1 else none) (hg0 : ∀ j : Int, 0 ≤ j → j < n0 → 0 ≤ g0 j ∧ g0 j < 4) (hg1 : ∀ j : Int, 0 ≤ j → j < n1 → 0 ≤ g1 j ∧ g1 j < 4) (hz : jr z) : Xt l yX8_setAlphabet cX8_setAlphabet 3 (some .int) rmX8_setAlphabet G [.ref x, .int (jz z)] [bBD G x st sv bu di se wy ta tt rp, bState G st t0 t1 al, bText G t0 a0 n0 g0, bText G t1 a1 n1 g1, bSaved G sv sa od sz f, bPool G ph kp] (fun uo : Int × Int × (Int → Option Nat) × (Nat → SG) × Nat => some (.int (jz al))) (fun uo => ((2 ≤ z ∧ z ≤ 4) ∧ (∀ j : Int, 0 ≤ j → j < n0 → g0 j < z) ∧ (∀ j : Int, 0 ≤ j → j < n1 → g1 j < z)) ∧ ((sz < 6 → uo.1 = od ∧ uo.2.1 = sz + 1) ∧ (sz = 6 → uo.1 = (od + 1) % 6 ∧ uo.2.1 = 6)) ∧ ((uo.2.2.2.2 = kp ∨ uo.2.2.2.2 = kp + 1) ∧ (uo.2.2.2.2 : Int) ≤ 6 ∧ uo.2.1 ≤ uo.2.2.2.2 ∧ (uo.1 = 0 ∨ uo.2.2.2.2 = 6)) ∧ (∀ z : Int, 0 ≤ z → z < 6 → uo.2.2.1 z = if z < uo.2.2.2.2 then some (uo.2.2.2.1 z.toNat).1.1 else none) ∧ (∀ i : Nat, (i : Int) ≠ (uo.1 + (uo.2.1 - 1)) % 6 → i < kp → uo.2.2.2.1 i = ph i) ∧ ((uo.2.2.2.1 ((uo.1 + (uo.2.1 - 1)) % 6).toNat).2.1 = (al, n0, n1)) ∧ (∀ j : Int, 0 ≤ j → j < n0 → (uo.2.2.2.1 ((uo.1 + (uo.2.1 - 1)) % 6).toNat).2.2.1 j = g0 j) ∧ (∀ j : Int, 0 ≤ j → j < n1 → (uo.2.2.2.1 ((uo.1 + (uo.2.1 - 1)) % 6).toNat).2.2.2 j = g1 j)) (fun uo => [bBD G x st sv bu di se wy ta tt rp, bState G st t0 t1 z, bText G t0 a0 n0 g0, bText G t1 a1 n1 g1, bSaved G sv sa uo.1 uo.2.1 uo.2.2.1, bPool G uo.2.2.2.1 uo.2.2.2.2]) (fun E => (E = "java/lang/IllegalArgumentException" ∧ ¬ (2 ≤ z ∧ z ≤ 4)) ∨ (E = "java/lang/IllegalStateException" ∧ (2 ≤ z ∧ z ≤ 4) ∧ ¬ ((∀ j : Int, 0 ≤ j → j < n0 → g0 j < z) ∧ (∀ j : Int, 0 ≤ j → j < n1 → g1 j < z)))) := by
  refine xof (by decide) (Nat.le_of_ble_eq_true rfl) ?_
  intro p e s m args below meth c A ls hx hb hr hml hown hts hlocks hin hA hK hP hD hS hl hX hout Q hQ
  have hown : s.vm.findClass RX8 = some m.cls := hown
  have hl : lv_has ls 3 [(0, .ref x), (1, .int (jz z))] := hl
  have KH : ∀ (H : Heap) (locs : List Loc), wP G [bBD G x st sv bu di se wy ta tt rp, bState G st t0 t1 al, bText G t0 a0 n0 g0, bText G t1 a1 n1 g1, bSaved G sv sa od sz f, bPool G ph kp] H → wD A [bBD G x st sv bu di se wy ta tt rp, bState G st t0 t1 al, bText G t0 a0 n0 g0, bText G t1 a1 n1 g1, bSaved G sv sa od sz f, bPool G ph kp] → va_S A s.heap H locs → W p l e rmX8_setAlphabet s m args below meth c H locs 0 0 Q (F0 m 0 ls []) := by
    intro H locs hP hD hS
    refine lv_iload_n hx hb dX8_setAlphabet_0 rfl (lv_at hl 1 rfl) ?_
    refine jv_iconst hx hb dX8_setAlphabet_1 ?_
    refine jv_icmp_lt (tgt := 10) hx hb dX8_setAlphabet_2 (by decide) (by omega) (by omega) (fun c_1 => ?_) (fun c_1 => ?_)
    · obtain ⟨sa9, hstr9⟩ := hK.2.2.2.1 (138, "an alphabet has 2 to 4 letters") (by decide +kernel)
      rw [hQ]
      exact vx_throwS (A := A) (cls := "java/lang/IllegalArgumentException") (names := ["java/lang/RuntimeException", "java/lang/Exception"]) hx hb hl0 hown (by decide +kernel) (by decide +kernel) (hts _ wm287) (hts _ wm24) hstr9 (xat hK hts xa_80) xg_80 hX.1 hX.2 hS (hl.1.trans hml.symm) dX8_setAlphabet_10 dX8_setAlphabet_13 dX8_setAlphabet_14 dX8_setAlphabet_16 dX8_setAlphabet_19 (fun x9 hx9 => (hout x9 hx9).elim) (Nat.lt_of_lt_of_le (Nat.lt_succ_self 5) (Nat.le_of_ble_eq_true rfl)) (Nat.le_of_ble_eq_true rfl) (Nat.le_of_ble_eq_true rfl) (Nat.le_of_ble_eq_true rfl) hlocks (xthrow hS hP hD [0, 1, 2, 3, 4, 5] (by decide) rfl (by exact Or.inl ⟨rfl, by omega⟩)) hS.2.2 (Nat.le_of_ble_eq_true rfl) (Nat.le_of_ble_eq_true rfl)
    · refine lv_iload_n hx hb dX8_setAlphabet_5 rfl (lv_at hl 1 rfl) ?_
      refine jv_iconst hx hb dX8_setAlphabet_6 ?_
      refine jv_icmp_le (tgt := 20) hx hb dX8_setAlphabet_7 (by decide) (by omega) (by omega) (fun c_2 => ?_) (fun c_2 => ?_)
      · refine lv_aload_n hx hb dX8_setAlphabet_20 rfl (lv_at hl 0 rfl) ?_
        refine va_get (ci := 8) (v := .ref st) (C := RX8) (T := TX8) (N := 9) hx hb hts wfX8 hown hK.1 hP 0 rfl rfl 0 (by decide) (hts _ wm166) (fun _ h9 => h9) rfl dX8_setAlphabet_21 ?_
        refine jv_iconst hx hb dX8_setAlphabet_24 ?_
        refine kV ⟨hx, hb, hml, hown, hts⟩ hK hA hS hP hD [.int (jz 0)] [] (mX5_text_0 l G st t0 t1 al 0 (by omega) (by omega)) lkX8_87 [1] [0, 2, 3, 4, 5] (br := [bBD G x st sv bu di se wy ta tt rp, bText G t0 a0 n0 g0, bText G t1 a1 n1 g1, bSaved G sv sa od sz f, bPool G ph kp]) rfl rfl (by decide) 0 5 rfl rfl rfl rfl (Nat.le_of_ble_eq_true rfl) hl.1 dX8_setAlphabet_25 ⟨Nat.le_of_ble_eq_true rfl, Nat.le_of_ble_eq_true rfl⟩ ⟨Nat.le_of_ble_eq_true rfl, Nat.le_of_ble_eq_true rfl⟩ (fun u9 H locs hp9 hP hD hS => ?_)
        have hP : wP G [bBD G x st sv bu di se wy ta tt rp, bText G t0 a0 n0 g0, bText G t1 a1 n1 g1, bSaved G sv sa od sz f, bPool G ph kp, bState G st t0 t1 al] H := hP
        have hD : wD A [bBD G x st sv bu di se wy ta tt rp, bText G t0 a0 n0 g0, bText G t1 a1 n1 g1, bSaved G sv sa od sz f, bPool G ph kp, bState G st t0 t1 al] := hD
        have hP : wP G [bBD G x st sv bu di se wy ta tt rp, bText G t0 a0 n0 g0, bText G t1 a1 n1 g1, bSaved G sv sa od sz f, bState G st t0 t1 al, bPool G ph kp] H := wP_sub hP [0, 1, 2, 3, 5, 4] rfl
        have hD : wD A [bBD G x st sv bu di se wy ta tt rp, bText G t0 a0 n0 g0, bText G t1 a1 n1 g1, bSaved G sv sa od sz f, bState G st t0 t1 al, bPool G ph kp] := wD_sub hD [0, 1, 2, 3, 5, 4] (by decide) rfl
        show W p l e rmX8_setAlphabet s m args below meth c H locs 0 0 Q (F0 m 28 ls [.ref t0])
        refine lv_iload_n hx hb dX8_setAlphabet_28 rfl (lv_at hl 1 rfl) ?_
        refine kV ⟨hx, hb, hml, hown, hts⟩ hK hA hS hP hD [.int (jz z)] [] (mX6_keepsTo l G t0 a0 n0 g0 z (by omega) (by exact hg0) (by omega)) lkX8_140 [1] [0, 2, 3, 4, 5] (br := [bBD G x st sv bu di se wy ta tt rp, bText G t1 a1 n1 g1, bSaved G sv sa od sz f, bState G st t0 t1 al, bPool G ph kp]) rfl rfl (by decide) 0 6 rfl rfl rfl rfl (Nat.le_of_ble_eq_true rfl) hl.1 dX8_setAlphabet_29 ⟨Nat.le_of_ble_eq_true rfl, Nat.le_of_ble_eq_true rfl⟩ ⟨Nat.le_of_ble_eq_true rfl, Nat.le_of_ble_eq_true rfl⟩ (fun u9 H locs hp9 hP hD hS => ?_)
        obtain ⟨u_4, rfl⟩ : ∃ z, z = u9 := ⟨_, rfl⟩
        have hc_5 : (u_4 = 1 ∧ ∀ j : Int, 0 ≤ j → j < n0 → g0 j < z) ∨ (u_4 = 0 ∧ ∃ j : Int, (0 ≤ j ∧ j < n0) ∧ z ≤ g0 j) := hp9
        have hP : wP G [bBD G x st sv bu di se wy ta tt rp, bText G t1 a1 n1 g1, bSaved G sv sa od sz f, bState G st t0 t1 al, bPool G ph kp, bText G t0 a0 n0 g0] H := hP
        have hD : wD A [bBD G x st sv bu di se wy ta tt rp, bText G t1 a1 n1 g1, bSaved G sv sa od sz f, bState G st t0 t1 al, bPool G ph kp, bText G t0 a0 n0 g0] := hD
        have hP : wP G [bBD G x st sv bu di se wy ta tt rp, bText G t1 a1 n1 g1, bSaved G sv sa od sz f, bState G st t0 t1 al, bText G t0 a0 n0 g0, bPool G ph kp] H := wP_sub hP [0, 1, 2, 3, 5, 4] rfl
        have hD : wD A [bBD G x st sv bu di se wy ta tt rp, bText G t1 a1 n1 g1, bSaved G sv sa od sz f, bState G st t0 t1 al, bText G t0 a0 n0 g0, bPool G ph kp] := wD_sub hD [0, 1, 2, 3, 5, 4] (by decide) rfl
        show W p l e rmX8_setAlphabet s m args below meth c H locs 0 0 Q (F0 m 32 ls [.int (jz u_4)])
        have hkk0 := hc_5
        refine jv_if_eq (tgt := 50) hx hb dX8_setAlphabet_32 (by decide) (by rcases hkk0 with q | q <;> omega) (fun c_6 => ?_) (fun c_6 => ?_)
        · have hbad : ¬ ((∀ j : Int, 0 ≤ j → j < n0 → g0 j < z) ∧ (∀ j : Int, 0 ≤ j → j < n1 → g1 j < z)) := fun q => by rcases hkk0 with ⟨q1, -⟩ | ⟨-, y, q2, q3⟩; omega; (have q4 := q.1 y q2.1 q2.2; omega)
          obtain ⟨sa9, hstr9⟩ := hK.2.2.2.1 (141, "a letter of a text would not be in the alphabet") (by decide +kernel)
          rw [hQ]
          exact vx_throwS (A := A) (cls := "java/lang/IllegalStateException") (names := ["java/lang/RuntimeException", "java/lang/Exception"]) hx hb hl0 hown (by decide +kernel) (by decide +kernel) (hts _ wm303) (hts _ wm25) hstr9 (xat hK hts xa_116) xg_116 hX.1 hX.2 hS (hl.1.trans hml.symm) dX8_setAlphabet_50 dX8_setAlphabet_53 dX8_setAlphabet_54 dX8_setAlphabet_56 dX8_setAlphabet_59 (fun x9 hx9 => (hout x9 hx9).elim) (Nat.lt_of_lt_of_le (Nat.lt_succ_self 5) (Nat.le_of_ble_eq_true rfl)) (Nat.le_of_ble_eq_true rfl) (Nat.le_of_ble_eq_true rfl) (Nat.le_of_ble_eq_true rfl) hlocks (xthrow hS hP hD [0, 3, 4, 1, 2, 5] (by decide) rfl (by exact Or.inr ⟨rfl, by omega, hbad⟩)) hS.2.2 (Nat.le_of_ble_eq_true rfl) (Nat.le_of_ble_eq_true rfl)
        · have hok0 : ∀ j : Int, 0 ≤ j → j < n0 → g0 j < z := by rcases hkk0 with ⟨-, q1⟩ | ⟨q1, -⟩; exact q1; omega
          refine lv_aload_n hx hb dX8_setAlphabet_35 rfl (lv_at hl 0 rfl) ?_
          refine va_get (ci := 8) (v := .ref st) (C := RX8) (T := TX8) (N := 9) hx hb hts wfX8 hown hK.1 hP 0 rfl rfl 0 (by decide) (hts _ wm166) (fun _ h9 => h9) rfl dX8_setAlphabet_36 ?_
          refine jv_iconst hx hb dX8_setAlphabet_39 ?_
          refine kV ⟨hx, hb, hml, hown, hts⟩ hK hA hS hP hD [.int (jz 1)] [] (mX5_text_1 l G st t0 t1 al 1 (by omega) (by omega)) lkX8_87 [3] [0, 1, 2, 4, 5] (br := [bBD G x st sv bu di se wy ta tt rp, bText G t1 a1 n1 g1, bSaved G sv sa od sz f, bText G t0 a0 n0 g0, bPool G ph kp]) rfl rfl (by decide) 0 5 rfl rfl rfl rfl (Nat.le_of_ble_eq_true rfl) hl.1 dX8_setAlphabet_40 ⟨Nat.le_of_ble_eq_true rfl, Nat.le_of_ble_eq_true rfl⟩ ⟨Nat.le_of_ble_eq_true rfl, Nat.le_of_ble_eq_true rfl⟩ (fun u9 H locs hp9 hP hD hS => ?_)
          have hP : wP G [bBD G x st sv bu di se wy ta tt rp, bText G t1 a1 n1 g1, bSaved G sv sa od sz f, bText G t0 a0 n0 g0, bPool G ph kp, bState G st t0 t1 al] H := hP
          have hD : wD A [bBD G x st sv bu di se wy ta tt rp, bText G t1 a1 n1 g1, bSaved G sv sa od sz f, bText G t0 a0 n0 g0, bPool G ph kp, bState G st t0 t1 al] := hD
          have hP : wP G [bBD G x st sv bu di se wy ta tt rp, bText G t1 a1 n1 g1, bSaved G sv sa od sz f, bText G t0 a0 n0 g0, bState G st t0 t1 al, bPool G ph kp] H := wP_sub hP [0, 1, 2, 3, 5, 4] rfl
          have hD : wD A [bBD G x st sv bu di se wy ta tt rp, bText G t1 a1 n1 g1, bSaved G sv sa od sz f, bText G t0 a0 n0 g0, bState G st t0 t1 al, bPool G ph kp] := wD_sub hD [0, 1, 2, 3, 5, 4] (by decide) rfl
          show W p l e rmX8_setAlphabet s m args below meth c H locs 0 0 Q (F0 m 43 ls [.ref t1])
          refine lv_iload_n hx hb dX8_setAlphabet_43 rfl (lv_at hl 1 rfl) ?_
          refine kV ⟨hx, hb, hml, hown, hts⟩ hK hA hS hP hD [.int (jz z)] [] (mX6_keepsTo l G t1 a1 n1 g1 z (by omega) (by exact hg1) (by omega)) lkX8_140 [1] [0, 2, 3, 4, 5] (br := [bBD G x st sv bu di se wy ta tt rp, bSaved G sv sa od sz f, bText G t0 a0 n0 g0, bState G st t0 t1 al, bPool G ph kp]) rfl rfl (by decide) 0 6 rfl rfl rfl rfl (Nat.le_of_ble_eq_true rfl) hl.1 dX8_setAlphabet_44 ⟨Nat.le_of_ble_eq_true rfl, Nat.le_of_ble_eq_true rfl⟩ ⟨Nat.le_of_ble_eq_true rfl, Nat.le_of_ble_eq_true rfl⟩ (fun u9 H locs hp9 hP hD hS => ?_)
          obtain ⟨u_8, rfl⟩ : ∃ z, z = u9 := ⟨_, rfl⟩
          have hc_9 : (u_8 = 1 ∧ ∀ j : Int, 0 ≤ j → j < n1 → g1 j < z) ∨ (u_8 = 0 ∧ ∃ j : Int, (0 ≤ j ∧ j < n1) ∧ z ≤ g1 j) := hp9
          have hP : wP G [bBD G x st sv bu di se wy ta tt rp, bSaved G sv sa od sz f, bText G t0 a0 n0 g0, bState G st t0 t1 al, bPool G ph kp, bText G t1 a1 n1 g1] H := hP
          have hD : wD A [bBD G x st sv bu di se wy ta tt rp, bSaved G sv sa od sz f, bText G t0 a0 n0 g0, bState G st t0 t1 al, bPool G ph kp, bText G t1 a1 n1 g1] := hD
          have hP : wP G [bBD G x st sv bu di se wy ta tt rp, bSaved G sv sa od sz f, bText G t0 a0 n0 g0, bState G st t0 t1 al, bText G t1 a1 n1 g1, bPool G ph kp] H := wP_sub hP [0, 1, 2, 3, 5, 4] rfl
          have hD : wD A [bBD G x st sv bu di se wy ta tt rp, bSaved G sv sa od sz f, bText G t0 a0 n0 g0, bState G st t0 t1 al, bText G t1 a1 n1 g1, bPool G ph kp] := wD_sub hD [0, 1, 2, 3, 5, 4] (by decide) rfl
          show W p l e rmX8_setAlphabet s m args below meth c H locs 0 0 Q (F0 m 47 ls [.int (jz u_8)])
          have hkk1 := hc_9
          refine jv_if_ne (tgt := 60) hx hb dX8_setAlphabet_47 (by decide) (by rcases hkk1 with q | q <;> omega) (fun c_10 => ?_) (fun c_10 => ?_)
          · have hok1 : ∀ j : Int, 0 ≤ j → j < n1 → g1 j < z := by rcases hkk1 with ⟨-, q1⟩ | ⟨q1, -⟩; exact q1; omega
            refine lv_aload_n hx hb dX8_setAlphabet_60 rfl (lv_at hl 0 rfl) ?_
            refine va_get (ci := 8) (v := .ref sv) (C := RX8) (T := TX8) (N := 9) hx hb hts wfX8 hown hK.1 hP 0 rfl rfl 1 (by decide) (hts _ wm167) (fun _ h9 => h9) rfl dX8_setAlphabet_61 ?_
            refine lv_aload_n hx hb dX8_setAlphabet_64 rfl (lv_at hl 0 rfl) ?_
            refine va_get (ci := 8) (v := .ref st) (C := RX8) (T := TX8) (N := 9) hx hb hts wfX8 hown hK.1 hP 0 rfl rfl 0 (by decide) (hts _ wm166) (fun _ h9 => h9) rfl dX8_setAlphabet_65 ?_
            refine kV ⟨hx, hb, hml, hown, hts⟩ hK hA hS hP hD [.ref st] [] (mX4_save l G sv sa od sz f ph kp st t0 t1 al a0 n0 g0 a1 n1 g1 (by omega) (by omega) (by omega) (by omega) (by omega) (by omega) (by exact hf)) lkX8_83 [1, 3, 2, 4, 5] [0] (br := [bBD G x st sv bu di se wy ta tt rp]) rfl rfl (by decide) 0 4 rfl rfl rfl rfl (Nat.le_of_ble_eq_true rfl) hl.1 dX8_setAlphabet_68 ⟨Nat.le_of_ble_eq_true rfl, Nat.le_of_ble_eq_true rfl⟩ ⟨Nat.le_of_ble_eq_true rfl, Nat.le_of_ble_eq_true rfl⟩ (fun u9 H locs hp9 hP hD hS => ?_)
            obtain ⟨u_11, u_12, u_13, u_14, u_15⟩ := u9
            have ha_16 : (sz < 6 → u_11 = od ∧ u_12 = sz + 1) ∧ (sz = 6 → u_11 = (od + 1) % 6 ∧ u_12 = 6) := hp9.1
            have hb_17 : (u_15 = kp ∨ u_15 = kp + 1) ∧ (u_15 : Int) ≤ 6 ∧ u_12 ≤ u_15 ∧ (u_11 = 0 ∨ u_15 = 6) := hp9.2.1
            have hf_18 : ∀ z : Int, 0 ≤ z → z < 6 → u_13 z = if z < u_15 then some (u_14 z.toNat).1.1 else none := hp9.2.2.1
            have hp_19 : ∀ i : Nat, (i : Int) ≠ (u_11 + (u_12 - 1)) % 6 → i < kp → u_14 i = ph i := hp9.2.2.2.1
            have hq_20 : (u_14 ((u_11 + (u_12 - 1)) % 6).toNat).2.1 = (al, n0, n1) := hp9.2.2.2.2.1
            have hr_21 : ∀ j : Int, 0 ≤ j → j < n0 → (u_14 ((u_11 + (u_12 - 1)) % 6).toNat).2.2.1 j = g0 j := hp9.2.2.2.2.2.1
            have hs_22 : ∀ j : Int, 0 ≤ j → j < n1 → (u_14 ((u_11 + (u_12 - 1)) % 6).toNat).2.2.2 j = g1 j := hp9.2.2.2.2.2.2
            have hP : wP G [bBD G x st sv bu di se wy ta tt rp, bSaved G sv sa u_11 u_12 u_13, bState G st t0 t1 al, bText G t0 a0 n0 g0, bText G t1 a1 n1 g1, bPool G u_14 u_15] H := hP
            have hD : wD A [bBD G x st sv bu di se wy ta tt rp, bSaved G sv sa u_11 u_12 u_13, bState G st t0 t1 al, bText G t0 a0 n0 g0, bText G t1 a1 n1 g1, bPool G u_14 u_15] := hD
            show W p l e rmX8_setAlphabet s m args below meth c H locs 5 47 Q (F0 m 71 ls [])
            refine lv_aload_n hx hb dX8_setAlphabet_71 rfl (lv_at hl 0 rfl) ?_
            refine va_get (ci := 8) (v := .ref st) (C := RX8) (T := TX8) (N := 9) hx hb hts wfX8 hown hK.1 hP 0 rfl rfl 0 (by decide) (hts _ wm166) (fun _ h9 => h9) rfl dX8_setAlphabet_72 ?_
            refine kV ⟨hx, hb, hml, hown, hts⟩ hK hA hS hP hD [] [] (mX5_alphabet l G st t0 t1 al ) lkX8_68 [2] [0, 1, 3, 4, 5] (br := [bBD G x st sv bu di se wy ta tt rp, bSaved G sv sa u_11 u_12 u_13, bText G t0 a0 n0 g0, bText G t1 a1 n1 g1, bPool G u_14 u_15]) rfl rfl (by decide) 0 5 rfl rfl rfl rfl (Nat.le_of_ble_eq_true rfl) hl.1 dX8_setAlphabet_75 ⟨Nat.le_of_ble_eq_true rfl, Nat.le_of_ble_eq_true rfl⟩ ⟨Nat.le_of_ble_eq_true rfl, Nat.le_of_ble_eq_true rfl⟩ (fun u9 H locs hp9 hP hD hS => ?_)
            have hP : wP G [bBD G x st sv bu di se wy ta tt rp, bSaved G sv sa u_11 u_12 u_13, bText G t0 a0 n0 g0, bText G t1 a1 n1 g1, bPool G u_14 u_15, bState G st t0 t1 al] H := hP
            have hD : wD A [bBD G x st sv bu di se wy ta tt rp, bSaved G sv sa u_11 u_12 u_13, bText G t0 a0 n0 g0, bText G t1 a1 n1 g1, bPool G u_14 u_15, bState G st t0 t1 al] := hD
            have hP : wP G [bBD G x st sv bu di se wy ta tt rp, bSaved G sv sa u_11 u_12 u_13, bText G t0 a0 n0 g0, bText G t1 a1 n1 g1, bState G st t0 t1 al, bPool G u_14 u_15] H := wP_sub hP [0, 1, 2, 3, 5, 4] rfl
            have hD : wD A [bBD G x st sv bu di se wy ta tt rp, bSaved G sv sa u_11 u_12 u_13, bText G t0 a0 n0 g0, bText G t1 a1 n1 g1, bState G st t0 t1 al, bPool G u_14 u_15] := wD_sub hD [0, 1, 2, 3, 5, 4] (by decide) rfl
            show W p l e rmX8_setAlphabet s m args below meth c H locs 5 47 Q (F0 m 78 ls [.int (jz al)])
            refine lv_istore_n (lv' := [(2, .int (jz al)), (0, .ref x), (1, .int (jz z))]) hx hb dX8_setAlphabet_78 rfl hl (by decide) rfl (fun ls hl => ?_)
            refine lv_aload_n hx hb dX8_setAlphabet_79 rfl (lv_at hl 1 rfl) ?_
            refine va_get (ci := 8) (v := .ref st) (C := RX8) (T := TX8) (N := 9) hx hb hts wfX8 hown hK.1 hP 0 rfl rfl 0 (by decide) (hts _ wm166) (fun _ h9 => h9) rfl dX8_setAlphabet_80 ?_
            refine lv_iload_n hx hb dX8_setAlphabet_83 rfl (lv_at hl 2 rfl) ?_
            refine kV ⟨hx, hb, hml, hown, hts⟩ hK hA hS hP hD [.int (jz z)] [] (mX5_setLetters l G st t0 t1 al z ) lkX8_143 [4] [0, 1, 2, 3, 5] (br := [bBD G x st sv bu di se wy ta tt rp, bSaved G sv sa u_11 u_12 u_13, bText G t0 a0 n0 g0, bText G t1 a1 n1 g1, bPool G u_14 u_15]) rfl rfl (by decide) 0 5 rfl rfl rfl rfl (Nat.le_of_ble_eq_true rfl) hl.1 dX8_setAlphabet_84 ⟨Nat.le_of_ble_eq_true rfl, Nat.le_of_ble_eq_true rfl⟩ ⟨Nat.le_of_ble_eq_true rfl, Nat.le_of_ble_eq_true rfl⟩ (fun u9 H locs hp9 hP hD hS => ?_)
            have hP : wP G [bBD G x st sv bu di se wy ta tt rp, bSaved G sv sa u_11 u_12 u_13, bText G t0 a0 n0 g0, bText G t1 a1 n1 g1, bPool G u_14 u_15, bState G st t0 t1 z] H := hP
            have hD : wD A [bBD G x st sv bu di se wy ta tt rp, bSaved G sv sa u_11 u_12 u_13, bText G t0 a0 n0 g0, bText G t1 a1 n1 g1, bPool G u_14 u_15, bState G st t0 t1 z] := hD
            have hP : wP G [bBD G x st sv bu di se wy ta tt rp, bSaved G sv sa u_11 u_12 u_13, bText G t0 a0 n0 g0, bText G t1 a1 n1 g1, bState G st t0 t1 z, bPool G u_14 u_15] H := wP_sub hP [0, 1, 2, 3, 5, 4] rfl
            have hD : wD A [bBD G x st sv bu di se wy ta tt rp, bSaved G sv sa u_11 u_12 u_13, bText G t0 a0 n0 g0, bText G t1 a1 n1 g1, bState G st t0 t1 z, bPool G u_14 u_15] := wD_sub hD [0, 1, 2, 3, 5, 4] (by decide) rfl
            show W p l e rmX8_setAlphabet s m args below meth c H locs 5 47 Q (F0 m 87 ls [])
            refine lv_iload_n hx hb dX8_setAlphabet_87 rfl (lv_at hl 0 rfl) ?_
            rw [hQ]
            exact vx_ret (cret_i hx hb hr hlocks hS hP hD (Nat.le_of_ble_eq_true rfl) (Nat.le_of_ble_eq_true rfl) rfl dX8_setAlphabet_88 [0, 4, 2, 3, 1, 5] (by decide) ⟨u_11, u_12, u_13, u_14, u_15⟩ rfl ⟨(show (2 ≤ z ∧ z ≤ 4) ∧ (∀ j : Int, 0 ≤ j → j < n0 → g0 j < z) ∧ (∀ j : Int, 0 ≤ j → j < n1 → g1 j < z) from by exact ⟨by omega, hok0, hok1⟩), (show (sz < 6 → u_11 = od ∧ u_12 = sz + 1) ∧ (sz = 6 → u_11 = (od + 1) % 6 ∧ u_12 = 6) from ha_16), (show (u_15 = kp ∨ u_15 = kp + 1) ∧ (u_15 : Int) ≤ 6 ∧ u_12 ≤ u_15 ∧ (u_11 = 0 ∨ u_15 = 6) from hb_17), (show ∀ z : Int, 0 ≤ z → z < 6 → u_13 z = if z < u_15 then some (u_14 z.toNat).1.1 else none from hf_18), (show ∀ i : Nat, (i : Int) ≠ (u_11 + (u_12 - 1)) % 6 → i < kp → u_14 i = ph i from hp_19), (show (u_14 ((u_11 + (u_12 - 1)) % 6).toNat).2.1 = (al, n0, n1) from hq_20), (show ∀ j : Int, 0 ≤ j → j < n0 → (u_14 ((u_11 + (u_12 - 1)) % 6).toNat).2.2.1 j = g0 j from hr_21), (show ∀ j : Int, 0 ≤ j → j < n1 → (u_14 ((u_11 + (u_12 - 1)) % 6).toNat).2.2.2 j = g1 j from hs_22)⟩ (congrArg (fun z : Int => some (Value.int (jz z))) (show al = al from by first | rfl | omega | (split <;> first | rfl | omega | (exfalso; omega)))) rfl)
          · have hbad : ¬ ((∀ j : Int, 0 ≤ j → j < n0 → g0 j < z) ∧ (∀ j : Int, 0 ≤ j → j < n1 → g1 j < z)) := fun q => by rcases hkk1 with ⟨q1, -⟩ | ⟨-, y, q2, q3⟩; omega; (have q4 := q.2 y q2.1 q2.2; omega)
            obtain ⟨sa9, hstr9⟩ := hK.2.2.2.1 (141, "a letter of a text would not be in the alphabet") (by decide +kernel)
            rw [hQ]
            exact vx_throwS (A := A) (cls := "java/lang/IllegalStateException") (names := ["java/lang/RuntimeException", "java/lang/Exception"]) hx hb hl0 hown (by decide +kernel) (by decide +kernel) (hts _ wm303) (hts _ wm25) hstr9 (xat hK hts xa_116) xg_116 hX.1 hX.2 hS (hl.1.trans hml.symm) dX8_setAlphabet_50 dX8_setAlphabet_53 dX8_setAlphabet_54 dX8_setAlphabet_56 dX8_setAlphabet_59 (fun x9 hx9 => (hout x9 hx9).elim) (Nat.lt_of_lt_of_le (Nat.lt_succ_self 5) (Nat.le_of_ble_eq_true rfl)) (Nat.le_of_ble_eq_true rfl) (Nat.le_of_ble_eq_true rfl) (Nat.le_of_ble_eq_true rfl) hlocks (xthrow hS hP hD [0, 3, 2, 4, 1, 5] (by decide) rfl (by exact Or.inr ⟨rfl, by omega, hbad⟩)) hS.2.2 (Nat.le_of_ble_eq_true rfl) (Nat.le_of_ble_eq_true rfl)
      · obtain ⟨sa9, hstr9⟩ := hK.2.2.2.1 (138, "an alphabet has 2 to 4 letters") (by decide +kernel)
        rw [hQ]
        exact vx_throwS (A := A) (cls := "java/lang/IllegalArgumentException") (names := ["java/lang/RuntimeException", "java/lang/Exception"]) hx hb hl0 hown (by decide +kernel) (by decide +kernel) (hts _ wm287) (hts _ wm24) hstr9 (xat hK hts xa_80) xg_80 hX.1 hX.2 hS (hl.1.trans hml.symm) dX8_setAlphabet_10 dX8_setAlphabet_13 dX8_setAlphabet_14 dX8_setAlphabet_16 dX8_setAlphabet_19 (fun x9 hx9 => (hout x9 hx9).elim) (Nat.lt_of_lt_of_le (Nat.lt_succ_self 5) (Nat.le_of_ble_eq_true rfl)) (Nat.le_of_ble_eq_true rfl) (Nat.le_of_ble_eq_true rfl) (Nat.le_of_ble_eq_true rfl) hlocks (xthrow hS hP hD [0, 1, 2, 3, 4, 5] (by decide) rfl (by exact Or.inl ⟨rfl, by omega⟩)) hS.2.2 (Nat.le_of_ble_eq_true rfl) (Nat.le_of_ble_eq_true rfl)
  exact KH s.heap [] hP hD hS
abbrev rmX8_undo : Room := { frames := 6, cells := 1, slots := 6, locals := 100 }
set_option maxHeartbeats 4000000 in
set_option maxRecDepth 100000 in
theorem mX8_undo (l : Launch) (hl0 : l.stackTraces = false) (G : GG) (x : Nat) (st : Nat) (sv : Nat) (bu : Nat) (di : Nat) (se : Nat) (wy : Nat) (ta : Nat) (tt : Nat) (rp : Nat) (t0 : Nat) (t1 : Nat) (al : Int) (a0 : Nat) (n0 : Int) (g0 : Int → Int) (a1 : Nat) (n1 : Int) (g1 : Int → Int) (sa : Nat) (od : Int) (sz : Int) (f : Int → Option Nat) (ph : Nat → SG) (kp : Nat) (zp : Nat) (hs : 0 ≤ sz ∧ sz ≤ 6) (ho : 0 ≤ od ∧ od < 6) (hk : kp ≤ 6 ∧ sz ≤ kp) (hk2 : od = 0 ∨ kp = 6) (hf : ∀ z : Int, 0 ≤ z → z < 6 → f z = if z < kp then some (ph z.toNat).1.1 else none) (hz : zp = ((od + (sz - 1)) % 6).toNat) (hq : 0 < sz → (0 ≤ (ph zp).2.1.2.1 ∧ (ph zp).2.1.2.1 ≤ 20) ∧ (0 ≤ (ph zp).2.1.2.2 ∧ (ph zp).2.1.2.2 ≤ 20)) : Xt l yX8_undo cX8_undo 1 (some .int) rmX8_undo G [.ref x] [bBD G x st sv bu di se wy ta tt rp, bState G st t0 t1 al, bText G t0 a0 n0 g0, bText G t1 a1 n1 g1, bSaved G sv sa od sz f, bPool G ph kp] (fun uo : (Int → Int) × (Int → Int) => some (.int (jz (sz - 1)))) (fun uo => (0 < sz) ∧ (∀ j : Int, 0 ≤ j → j < (ph zp).2.1.2.1 → uo.1 j = (ph zp).2.2.1 j) ∧ (∀ j : Int, 0 ≤ j → j < (ph zp).2.1.2.2 → uo.2 j = (ph zp).2.2.2 j)) (fun uo => [bBD G x st sv bu di se wy ta tt rp, bState G st t0 t1 ((ph zp).2.1.1), bText G t0 a0 ((ph zp).2.1.2.1) uo.1, bText G t1 a1 ((ph zp).2.1.2.2) uo.2, bSaved G sv sa od (sz - 1) f, bPool G ph kp]) (fun E => E = "java/lang/IllegalStateException" ∧ sz = 0) := by
  refine xof (by decide) (Nat.le_of_ble_eq_true rfl) ?_
  intro p e s m args below meth c A ls hx hb hr hml hown hts hlocks hin hA hK hP hD hS hl hX hout Q hQ
  have hown : s.vm.findClass RX8 = some m.cls := hown
  have hl : lv_has ls 1 [(0, .ref x)] := hl
  have KH : ∀ (H : Heap) (locs : List Loc), wP G [bBD G x st sv bu di se wy ta tt rp, bState G st t0 t1 al, bText G t0 a0 n0 g0, bText G t1 a1 n1 g1, bSaved G sv sa od sz f, bPool G ph kp] H → wD A [bBD G x st sv bu di se wy ta tt rp, bState G st t0 t1 al, bText G t0 a0 n0 g0, bText G t1 a1 n1 g1, bSaved G sv sa od sz f, bPool G ph kp] → va_S A s.heap H locs → W p l e rmX8_undo s m args below meth c H locs 0 0 Q (F0 m 0 ls []) := by
    intro H locs hP hD hS
    refine lv_aload_n hx hb dX8_undo_0 rfl (lv_at hl 0 rfl) ?_
    refine va_get (ci := 8) (v := .ref sv) (C := RX8) (T := TX8) (N := 9) hx hb hts wfX8 hown hK.1 hP 0 rfl rfl 1 (by decide) (hts _ wm167) (fun _ h9 => h9) rfl dX8_undo_1 ?_
    refine kV ⟨hx, hb, hml, hown, hts⟩ hK hA hS hP hD [] [] (mX4_size l G sv sa od sz f ) lkX8_239 [4] [0, 1, 2, 3, 5] (br := [bBD G x st sv bu di se wy ta tt rp, bState G st t0 t1 al, bText G t0 a0 n0 g0, bText G t1 a1 n1 g1, bPool G ph kp]) rfl rfl (by decide) 0 4 rfl rfl rfl rfl (Nat.le_of_ble_eq_true rfl) hl.1 dX8_undo_4 ⟨Nat.le_of_ble_eq_true rfl, Nat.le_of_ble_eq_true rfl⟩ ⟨Nat.le_of_ble_eq_true rfl, Nat.le_of_ble_eq_true rfl⟩ (fun u9 H locs hp9 hP hD hS => ?_)
    have hP : wP G [bBD G x st sv bu di se wy ta tt rp, bState G st t0 t1 al, bText G t0 a0 n0 g0, bText G t1 a1 n1 g1, bPool G ph kp, bSaved G sv sa od sz f] H := hP
    have hD : wD A [bBD G x st sv bu di se wy ta tt rp, bState G st t0 t1 al, bText G t0 a0 n0 g0, bText G t1 a1 n1 g1, bPool G ph kp, bSaved G sv sa od sz f] := hD
    have hP : wP G [bBD G x st sv bu di se wy ta tt rp, bState G st t0 t1 al, bText G t0 a0 n0 g0, bText G t1 a1 n1 g1, bSaved G sv sa od sz f, bPool G ph kp] H := wP_sub hP [0, 1, 2, 3, 5, 4] rfl
    have hD : wD A [bBD G x st sv bu di se wy ta tt rp, bState G st t0 t1 al, bText G t0 a0 n0 g0, bText G t1 a1 n1 g1, bSaved G sv sa od sz f, bPool G ph kp] := wD_sub hD [0, 1, 2, 3, 5, 4] (by decide) rfl
    show W p l e rmX8_undo s m args below meth c H locs 0 0 Q (F0 m 7 ls [.int (jz sz)])
    refine jv_if_ne (tgt := 20) hx hb dX8_undo_7 (by decide) (by omega) (fun c_2 => ?_) (fun c_2 => ?_)
    · refine lv_aload_n hx hb dX8_undo_20 rfl (lv_at hl 0 rfl) ?_
      refine va_get (ci := 8) (v := .ref sv) (C := RX8) (T := TX8) (N := 9) hx hb hts wfX8 hown hK.1 hP 0 rfl rfl 1 (by decide) (hts _ wm167) (fun _ h9 => h9) rfl dX8_undo_21 ?_
      refine lv_aload_n hx hb dX8_undo_24 rfl (lv_at hl 0 rfl) ?_
      refine va_get (ci := 8) (v := .ref st) (C := RX8) (T := TX8) (N := 9) hx hb hts wfX8 hown hK.1 hP 0 rfl rfl 0 (by decide) (hts _ wm166) (fun _ h9 => h9) rfl dX8_undo_25 ?_
      refine kV ⟨hx, hb, hml, hown, hts⟩ hK hA hS hP hD [.ref st] [] (mX4_restore l G sv sa od sz f ph kp st t0 t1 al a0 n0 g0 a1 n1 g1 zp (by omega) (by omega) (by omega) (by exact hf) (by omega) (by exact hq (by omega))) lkX8_242 [4, 1, 2, 3, 5] [0] (br := [bBD G x st sv bu di se wy ta tt rp]) rfl rfl (by decide) 0 4 rfl rfl rfl rfl (Nat.le_of_ble_eq_true rfl) hl.1 dX8_undo_28 ⟨Nat.le_of_ble_eq_true rfl, Nat.le_of_ble_eq_true rfl⟩ ⟨Nat.le_of_ble_eq_true rfl, Nat.le_of_ble_eq_true rfl⟩ (fun u9 H locs hp9 hP hD hS => ?_)
      obtain ⟨u_3, u_4⟩ := u9
      have hc_5 : ∀ j : Int, 0 ≤ j → j < (ph zp).2.1.2.1 → u_3 j = (ph zp).2.2.1 j := hp9.1
      have hd_6 : ∀ j : Int, 0 ≤ j → j < (ph zp).2.1.2.2 → u_4 j = (ph zp).2.2.2 j := hp9.2
      have hP : wP G [bBD G x st sv bu di se wy ta tt rp, bSaved G sv sa od (sz - 1) f, bState G st t0 t1 ((ph zp).2.1.1), bText G t0 a0 ((ph zp).2.1.2.1) u_3, bText G t1 a1 ((ph zp).2.1.2.2) u_4, bPool G ph kp] H := hP
      have hD : wD A [bBD G x st sv bu di se wy ta tt rp, bSaved G sv sa od (sz - 1) f, bState G st t0 t1 ((ph zp).2.1.1), bText G t0 a0 ((ph zp).2.1.2.1) u_3, bText G t1 a1 ((ph zp).2.1.2.2) u_4, bPool G ph kp] := hD
      show W p l e rmX8_undo s m args below meth c H locs 0 0 Q (F0 m 31 ls [])
      have hc1 := hc_5
      have hd1 := hd_6
      refine lv_aload_n hx hb dX8_undo_31 rfl (lv_at hl 0 rfl) ?_
      refine va_get (ci := 8) (v := .ref sv) (C := RX8) (T := TX8) (N := 9) hx hb hts wfX8 hown hK.1 hP 0 rfl rfl 1 (by decide) (hts _ wm167) (fun _ h9 => h9) rfl dX8_undo_32 ?_
      refine kV ⟨hx, hb, hml, hown, hts⟩ hK hA hS hP hD [] [] (mX4_size l G sv sa od (sz - 1) f ) lkX8_239 [1] [0, 2, 3, 4, 5] (br := [bBD G x st sv bu di se wy ta tt rp, bState G st t0 t1 ((ph zp).2.1.1), bText G t0 a0 ((ph zp).2.1.2.1) u_3, bText G t1 a1 ((ph zp).2.1.2.2) u_4, bPool G ph kp]) rfl rfl (by decide) 0 4 rfl rfl rfl rfl (Nat.le_of_ble_eq_true rfl) hl.1 dX8_undo_35 ⟨Nat.le_of_ble_eq_true rfl, Nat.le_of_ble_eq_true rfl⟩ ⟨Nat.le_of_ble_eq_true rfl, Nat.le_of_ble_eq_true rfl⟩ (fun u9 H locs hp9 hP hD hS => ?_)
      have hP : wP G [bBD G x st sv bu di se wy ta tt rp, bState G st t0 t1 ((ph zp).2.1.1), bText G t0 a0 ((ph zp).2.1.2.1) u_3, bText G t1 a1 ((ph zp).2.1.2.2) u_4, bPool G ph kp, bSaved G sv sa od (sz - 1) f] H := hP
      have hD : wD A [bBD G x st sv bu di se wy ta tt rp, bState G st t0 t1 ((ph zp).2.1.1), bText G t0 a0 ((ph zp).2.1.2.1) u_3, bText G t1 a1 ((ph zp).2.1.2.2) u_4, bPool G ph kp, bSaved G sv sa od (sz - 1) f] := hD
      have hP : wP G [bBD G x st sv bu di se wy ta tt rp, bState G st t0 t1 ((ph zp).2.1.1), bText G t0 a0 ((ph zp).2.1.2.1) u_3, bText G t1 a1 ((ph zp).2.1.2.2) u_4, bSaved G sv sa od (sz - 1) f, bPool G ph kp] H := wP_sub hP [0, 1, 2, 3, 5, 4] rfl
      have hD : wD A [bBD G x st sv bu di se wy ta tt rp, bState G st t0 t1 ((ph zp).2.1.1), bText G t0 a0 ((ph zp).2.1.2.1) u_3, bText G t1 a1 ((ph zp).2.1.2.2) u_4, bSaved G sv sa od (sz - 1) f, bPool G ph kp] := wD_sub hD [0, 1, 2, 3, 5, 4] (by decide) rfl
      show W p l e rmX8_undo s m args below meth c H locs 0 0 Q (F0 m 38 ls [.int (jz (sz - 1))])
      rw [hQ]
      exact vx_ret (cret_i hx hb hr hlocks hS hP hD (Nat.le_of_ble_eq_true rfl) (Nat.le_of_ble_eq_true rfl) rfl dX8_undo_38 [0, 1, 2, 3, 4, 5] (by decide) ⟨u_3, u_4⟩ rfl ⟨(show 0 < sz from by omega), (show ∀ j : Int, 0 ≤ j → j < (ph zp).2.1.2.1 → u_3 j = (ph zp).2.2.1 j from hc1), (show ∀ j : Int, 0 ≤ j → j < (ph zp).2.1.2.2 → u_4 j = (ph zp).2.2.2 j from hd1)⟩ (congrArg (fun z : Int => some (Value.int (jz z))) (show (sz - 1) = sz - 1 from by first | rfl | omega | (split <;> first | rfl | omega | (exfalso; omega)))) rfl)
    · obtain ⟨sa9, hstr9⟩ := hK.2.2.2.1 (240, "no state is saved") (by decide +kernel)
      rw [hQ]
      exact vx_throwS (A := A) (cls := "java/lang/IllegalStateException") (names := ["java/lang/RuntimeException", "java/lang/Exception"]) hx hb hl0 hown (by decide +kernel) (by decide +kernel) (hts _ wm303) (hts _ wm25) hstr9 (xat hK hts xa_116) xg_116 hX.1 hX.2 hS (hl.1.trans hml.symm) dX8_undo_10 dX8_undo_13 dX8_undo_14 dX8_undo_16 dX8_undo_19 (fun x9 hx9 => (hout x9 hx9).elim) (Nat.lt_of_lt_of_le (Nat.lt_succ_self 5) (Nat.le_of_ble_eq_true rfl)) (Nat.le_of_ble_eq_true rfl) (Nat.le_of_ble_eq_true rfl) (Nat.le_of_ble_eq_true rfl) hlocks (xthrow hS hP hD [0, 1, 2, 3, 4, 5] (by decide) rfl (by first | exact ⟨rfl, by omega⟩ | rfl)) hS.2.2 (Nat.le_of_ble_eq_true rfl) (Nat.le_of_ble_eq_true rfl)
  exact KH s.heap [] hP hD hS
