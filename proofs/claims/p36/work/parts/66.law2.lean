theorem tri_eq {M3 : Int → Bool} {h3 m3 s3 : Int} {x : TS} (h : (M3, h3, m3, s3) = x) : M3 = x.1 ∧ h3 = x.2.1 ∧ m3 = x.2.2.1 ∧ s3 = x.2.2.2 := by subst h; exact ⟨rfl, rfl, rfl, rfl⟩
abbrev rmL_isMeasureSo : Room := { frames := 6, cells := 0, slots := 0, locals := 143 }
set_option maxHeartbeats 4000000 in
set_option maxRecDepth 100000 in
theorem mL_isMeasureSo (l : Launch) (G : GG) (x : Nat) (st : Nat) (sv : Nat) (bu : Nat) (di : Nat) (se : Nat) (wy : Nat) (ta : Nat) (tt : Nat) (rp : Nat) (t0 : Nat) (t1 : Nat) (al : Int) (a0 : Nat) (n0 : Int) (g0 : Int → Int) (a1 : Nat) (n1 : Int) (g1 : Int → Int) (db : Nat) (dh : Int → Int) (ta : Nat) (tm : Nat) (bs : Int) (hi : Int) (mi : Int) (si : Int) (F : Int → Int64) (tn : Nat) (bs2 : Int) (hi2 : Int) (mi2 : Int) (si2 : Int) (F9 : Int → Int64) (M : Int → Bool) (B : Int) (hn0 : 0 ≤ n0 ∧ n0 ≤ 20) (hn1 : 0 ≤ n1 ∧ n1 ≤ 20) (hg0 : ∀ j : Int, 0 ≤ j → j < n0 → 0 ≤ g0 j ∧ g0 j < 4) (hg1 : ∀ j : Int, 0 ≤ j → j < n1 → 0 ≤ g1 j ∧ g1 j < 4) (hbs : bs = 1 ∨ bs = 2) (hM : rM F M) (hct : (-B ≤ hi ∧ hi ≤ B) ∧ (-B ≤ mi ∧ mi ≤ B) ∧ (-B ≤ si ∧ si ≤ B) ∧ 0 ≤ B ∧ B ≤ 1000000) : Ct l yL_isMeasureSo cL_isMeasureSo 10 (some .boolean) rmL_isMeasureSo G [.ref x, .int (jz bs)] [bBD G x st sv bu di se wy ta tt rp, bState G st t0 t1 al, bText G t0 a0 n0 g0, bText G t1 a1 n1 g1, bGrid G di db dh, bTab G ta tm bs hi mi si F, bTab G tt tn bs2 hi2 mi2 si2 F9] (fun uo : (Int → Int) × Int × Int × Int × (Int → Int64) × (Int → Bool) × Int × Int × Int × Int × (Int → Int64) => some (.int (jz 1))) (fun uo => (rM uo.2.2.2.2.1 uo.2.2.2.2.2.1) ∧ ((-(B + 4000) ≤ uo.2.1 ∧ uo.2.1 ≤ B + 4000) ∧ (-(B + 4000) ≤ uo.2.2.1 ∧ uo.2.2.1 ≤ B + 4000) ∧ (-(B + 4000) ≤ uo.2.2.2.1 ∧ uo.2.2.2.1 ≤ B + 4000))) (fun uo => [bBD G x st sv bu di se wy ta tt rp, bState G st t0 t1 al, bText G t0 a0 n0 g0, bText G t1 a1 n1 g1, bGrid G di db uo.1, bTab G ta tm bs uo.2.1 uo.2.2.1 uo.2.2.2.1 uo.2.2.2.2.1, bTab G tt tn uo.2.2.2.2.2.2.1 uo.2.2.2.2.2.2.2.1 uo.2.2.2.2.2.2.2.2.1 uo.2.2.2.2.2.2.2.2.2.1 uo.2.2.2.2.2.2.2.2.2.2]) := by
  refine cof (by decide) (Nat.le_of_ble_eq_true rfl) ?_
  intro p e s m args below meth c A ls hx hb hr hml hown hts hlocks hin hA hK hP hD hS hl Q hQ
  have hown : s.vm.findClass RL = some m.cls := hown
  have hl : lv_has ls 10 [(0, .ref x), (1, .int (jz bs))] := hl
  have KH : ∀ (H : Heap) (locs : List Loc), wP G [bBD G x st sv bu di se wy ta tt rp, bState G st t0 t1 al, bText G t0 a0 n0 g0, bText G t1 a1 n1 g1, bGrid G di db dh, bTab G ta tm bs hi mi si F, bTab G tt tn bs2 hi2 mi2 si2 F9] H → wD A [bBD G x st sv bu di se wy ta tt rp, bState G st t0 t1 al, bText G t0 a0 n0 g0, bText G t1 a1 n1 g1, bGrid G di db dh, bTab G ta tm bs hi mi si F, bTab G tt tn bs2 hi2 mi2 si2 F9] → va_S A s.heap H locs → W p l e rmL_isMeasureSo s m args below meth c H locs 0 0 Q (F0 m 0 ls []) := by
    intro H locs hP hD hS
    have hwb := whB_bd (t := bs) hbs hn0 hn1
    have hdb := D_bd (c := 1) (Or.inr rfl) g0 g1 (i := n0) (j := n1) (by omega) (by omega)
    refine lv_aload_n hx hb dL_isMeasureSo_0 rfl (lv_at hl 0 rfl) ?_
    refine kV ⟨hx, hb, hml, hown, hts⟩ hK hA hS hP hD [] [] (mX8_missesToCome l G x st sv bu di se wy ta tt rp t0 t1 al a0 n0 g0 a1 n1 g1 db dh ta tm bs hi mi si F tn bs2 hi2 mi2 si2 F9 M (by omega) (by omega) (by exact hg0) (by exact hg1) (by omega) (by exact hM)) lkL_89 [0, 1, 2, 3, 4, 5, 6] [] (br := []) rfl rfl (by decide) 0 8 rfl rfl rfl rfl (Nat.le_of_ble_eq_true rfl) hl.1 dL_isMeasureSo_1 ⟨Nat.le_of_ble_eq_true rfl, Nat.le_of_ble_eq_true rfl⟩ ⟨Nat.le_of_ble_eq_true rfl, Nat.le_of_ble_eq_true rfl⟩ (fun u9 H locs hp9 hP hD hS => ?_)
    obtain ⟨u_1, u_2, u_3, u_4, u_5, u_6⟩ := u9
    have hP : wP G [bBD G x st sv bu di se wy ta tt rp, bState G st t0 t1 al, bText G t0 a0 n0 g0, bText G t1 a1 n1 g1, bGrid G di db u_1, bTab G ta tm bs hi mi si F, bTab G tt tn u_2 u_3 u_4 u_5 u_6] H := hP
    have hD : wD A [bBD G x st sv bu di se wy ta tt rp, bState G st t0 t1 al, bText G t0 a0 n0 g0, bText G t1 a1 n1 g1, bGrid G di db u_1, bTab G ta tm bs hi mi si F, bTab G tt tn u_2 u_3 u_4 u_5 u_6] := hD
    show W p l e rmL_isMeasureSo s m args below meth c H locs 0 0 Q (F0 m 4 ls [.int (jz ((tGo bs g0 g1 n0 n1 (M, hi, mi, si)).2.2.1 - mi))])
    refine jv_top (fun r_7 er_7 => ?_)
    refine lv_istore_n (lv' := [(2, .int (jz r_7)), (0, .ref x), (1, .int (jz bs))]) hx hb dL_isMeasureSo_4 rfl hl (by decide) rfl (fun ls hl => ?_)
    refine lv_aload_n hx hb dL_isMeasureSo_5 rfl (lv_at hl 1 rfl) ?_
    refine kV ⟨hx, hb, hml, hown, hts⟩ hK hA hS hP hD [] [] (mX8_hits l G x st sv bu di se wy ta tt rp ta tm bs hi mi si F ) lkL_92 [0, 5] [1, 2, 3, 4, 6] (br := [bState G st t0 t1 al, bText G t0 a0 n0 g0, bText G t1 a1 n1 g1, bGrid G di db u_1, bTab G tt tn u_2 u_3 u_4 u_5 u_6]) rfl rfl (by decide) 0 8 rfl rfl rfl rfl (Nat.le_of_ble_eq_true rfl) hl.1 dL_isMeasureSo_6 ⟨Nat.le_of_ble_eq_true rfl, Nat.le_of_ble_eq_true rfl⟩ ⟨Nat.le_of_ble_eq_true rfl, Nat.le_of_ble_eq_true rfl⟩ (fun u9 H locs hp9 hP hD hS => ?_)
    have hP : wP G [bState G st t0 t1 al, bText G t0 a0 n0 g0, bText G t1 a1 n1 g1, bGrid G di db u_1, bTab G tt tn u_2 u_3 u_4 u_5 u_6, bBD G x st sv bu di se wy ta tt rp, bTab G ta tm bs hi mi si F] H := hP
    have hD : wD A [bState G st t0 t1 al, bText G t0 a0 n0 g0, bText G t1 a1 n1 g1, bGrid G di db u_1, bTab G tt tn u_2 u_3 u_4 u_5 u_6, bBD G x st sv bu di se wy ta tt rp, bTab G ta tm bs hi mi si F] := hD
    show W p l e rmL_isMeasureSo s m args below meth c H locs 0 0 Q (F0 m 9 ls [.int (jz hi)])
    refine lv_istore_n (lv' := [(3, .int (jz hi)), (2, .int (jz r_7)), (0, .ref x), (1, .int (jz bs))]) hx hb dL_isMeasureSo_9 rfl hl (by decide) rfl (fun ls hl => ?_)
    refine lv_aload_n hx hb dL_isMeasureSo_10 rfl (lv_at hl 2 rfl) ?_
    refine kV ⟨hx, hb, hml, hown, hts⟩ hK hA hS hP hD [] [] (mX8_misses l G x st sv bu di se wy ta tt rp ta tm bs hi mi si F ) lkL_95 [5, 6] [0, 1, 2, 3, 4] (br := [bState G st t0 t1 al, bText G t0 a0 n0 g0, bText G t1 a1 n1 g1, bGrid G di db u_1, bTab G tt tn u_2 u_3 u_4 u_5 u_6]) rfl rfl (by decide) 0 8 rfl rfl rfl rfl (Nat.le_of_ble_eq_true rfl) hl.1 dL_isMeasureSo_11 ⟨Nat.le_of_ble_eq_true rfl, Nat.le_of_ble_eq_true rfl⟩ ⟨Nat.le_of_ble_eq_true rfl, Nat.le_of_ble_eq_true rfl⟩ (fun u9 H locs hp9 hP hD hS => ?_)
    have hP : wP G [bState G st t0 t1 al, bText G t0 a0 n0 g0, bText G t1 a1 n1 g1, bGrid G di db u_1, bTab G tt tn u_2 u_3 u_4 u_5 u_6, bBD G x st sv bu di se wy ta tt rp, bTab G ta tm bs hi mi si F] H := hP
    have hD : wD A [bState G st t0 t1 al, bText G t0 a0 n0 g0, bText G t1 a1 n1 g1, bGrid G di db u_1, bTab G tt tn u_2 u_3 u_4 u_5 u_6, bBD G x st sv bu di se wy ta tt rp, bTab G ta tm bs hi mi si F] := hD
    show W p l e rmL_isMeasureSo s m args below meth c H locs 0 0 Q (F0 m 14 ls [.int (jz mi)])
    refine lv_istore (lv' := [(4, .int (jz mi)), (3, .int (jz hi)), (2, .int (jz r_7)), (0, .ref x), (1, .int (jz bs))]) hx hb dL_isMeasureSo_14 hl (by decide) rfl (fun ls hl => ?_)
    refine lv_aload_n hx hb dL_isMeasureSo_16 rfl (lv_at hl 3 rfl) ?_
    refine kV ⟨hx, hb, hml, hown, hts⟩ hK hA hS hP hD [] [] (mX8_singleSteps l G x st sv bu di se wy ta tt rp ta tm bs hi mi si F ) lkL_98 [5, 6] [0, 1, 2, 3, 4] (br := [bState G st t0 t1 al, bText G t0 a0 n0 g0, bText G t1 a1 n1 g1, bGrid G di db u_1, bTab G tt tn u_2 u_3 u_4 u_5 u_6]) rfl rfl (by decide) 0 8 rfl rfl rfl rfl (Nat.le_of_ble_eq_true rfl) hl.1 dL_isMeasureSo_17 ⟨Nat.le_of_ble_eq_true rfl, Nat.le_of_ble_eq_true rfl⟩ ⟨Nat.le_of_ble_eq_true rfl, Nat.le_of_ble_eq_true rfl⟩ (fun u9 H locs hp9 hP hD hS => ?_)
    have hP : wP G [bState G st t0 t1 al, bText G t0 a0 n0 g0, bText G t1 a1 n1 g1, bGrid G di db u_1, bTab G tt tn u_2 u_3 u_4 u_5 u_6, bBD G x st sv bu di se wy ta tt rp, bTab G ta tm bs hi mi si F] H := hP
    have hD : wD A [bState G st t0 t1 al, bText G t0 a0 n0 g0, bText G t1 a1 n1 g1, bGrid G di db u_1, bTab G tt tn u_2 u_3 u_4 u_5 u_6, bBD G x st sv bu di se wy ta tt rp, bTab G ta tm bs hi mi si F] := hD
    show W p l e rmL_isMeasureSo s m args below meth c H locs 0 0 Q (F0 m 20 ls [.int (jz si)])
    refine lv_istore (lv' := [(5, .int (jz si)), (4, .int (jz mi)), (3, .int (jz hi)), (2, .int (jz r_7)), (0, .ref x), (1, .int (jz bs))]) hx hb dL_isMeasureSo_20 hl (by decide) rfl (fun ls hl => ?_)
    refine lv_aload_n hx hb dL_isMeasureSo_22 rfl (lv_at hl 4 rfl) ?_
    refine jv_iconst hx hb dL_isMeasureSo_23 ?_
    refine kV ⟨hx, hb, hml, hown, hts⟩ hK hA hS hP hD [.int (jz 0)] [] (mX8_length_0 l G x st sv bu di se wy ta tt rp t0 t1 al a0 n0 g0 a1 n1 g1 0 (by omega)) lkL_8 [5, 0, 1, 2] [3, 4, 6] (br := [bGrid G di db u_1, bTab G tt tn u_2 u_3 u_4 u_5 u_6, bTab G ta tm bs hi mi si F]) rfl rfl (by decide) 0 8 rfl rfl rfl rfl (Nat.le_of_ble_eq_true rfl) hl.1 dL_isMeasureSo_24 ⟨Nat.le_of_ble_eq_true rfl, Nat.le_of_ble_eq_true rfl⟩ ⟨Nat.le_of_ble_eq_true rfl, Nat.le_of_ble_eq_true rfl⟩ (fun u9 H locs hp9 hP hD hS => ?_)
    have hP : wP G [bGrid G di db u_1, bTab G tt tn u_2 u_3 u_4 u_5 u_6, bTab G ta tm bs hi mi si F, bBD G x st sv bu di se wy ta tt rp, bState G st t0 t1 al, bText G t0 a0 n0 g0, bText G t1 a1 n1 g1] H := hP
    have hD : wD A [bGrid G di db u_1, bTab G tt tn u_2 u_3 u_4 u_5 u_6, bTab G ta tm bs hi mi si F, bBD G x st sv bu di se wy ta tt rp, bState G st t0 t1 al, bText G t0 a0 n0 g0, bText G t1 a1 n1 g1] := hD
    show W p l e rmL_isMeasureSo s m args below meth c H locs 0 0 Q (F0 m 27 ls [.int (jz n0)])
    refine lv_istore (lv' := [(6, .int (jz n0)), (5, .int (jz si)), (4, .int (jz mi)), (3, .int (jz hi)), (2, .int (jz r_7)), (0, .ref x), (1, .int (jz bs))]) hx hb dL_isMeasureSo_27 hl (by decide) rfl (fun ls hl => ?_)
    refine lv_aload_n hx hb dL_isMeasureSo_29 rfl (lv_at hl 5 rfl) ?_
    refine jv_iconst hx hb dL_isMeasureSo_30 ?_
    refine kV ⟨hx, hb, hml, hown, hts⟩ hK hA hS hP hD [.int (jz 1)] [] (mX8_length_1 l G x st sv bu di se wy ta tt rp t0 t1 al a0 n0 g0 a1 n1 g1 1 (by omega)) lkL_8 [3, 4, 5, 6] [0, 1, 2] (br := [bGrid G di db u_1, bTab G tt tn u_2 u_3 u_4 u_5 u_6, bTab G ta tm bs hi mi si F]) rfl rfl (by decide) 0 8 rfl rfl rfl rfl (Nat.le_of_ble_eq_true rfl) hl.1 dL_isMeasureSo_31 ⟨Nat.le_of_ble_eq_true rfl, Nat.le_of_ble_eq_true rfl⟩ ⟨Nat.le_of_ble_eq_true rfl, Nat.le_of_ble_eq_true rfl⟩ (fun u9 H locs hp9 hP hD hS => ?_)
    have hP : wP G [bGrid G di db u_1, bTab G tt tn u_2 u_3 u_4 u_5 u_6, bTab G ta tm bs hi mi si F, bBD G x st sv bu di se wy ta tt rp, bState G st t0 t1 al, bText G t0 a0 n0 g0, bText G t1 a1 n1 g1] H := hP
    have hD : wD A [bGrid G di db u_1, bTab G tt tn u_2 u_3 u_4 u_5 u_6, bTab G ta tm bs hi mi si F, bBD G x st sv bu di se wy ta tt rp, bState G st t0 t1 al, bText G t0 a0 n0 g0, bText G t1 a1 n1 g1] := hD
    show W p l e rmL_isMeasureSo s m args below meth c H locs 0 0 Q (F0 m 34 ls [.int (jz n1)])
    refine lv_istore (lv' := [(7, .int (jz n1)), (6, .int (jz n0)), (5, .int (jz si)), (4, .int (jz mi)), (3, .int (jz hi)), (2, .int (jz r_7)), (0, .ref x), (1, .int (jz bs))]) hx hb dL_isMeasureSo_34 hl (by decide) rfl (fun ls hl => ?_)
    refine lv_iload hx hb dL_isMeasureSo_36 (lv_at hl 1 rfl) ?_
    refine lv_iload_n hx hb dL_isMeasureSo_38 rfl (lv_at hl 7 rfl) ?_
    refine jv_idiv hx hb dL_isMeasureSo_39 (by omega) (by omega) (by omega) (by omega) ?_
    refine lv_iload hx hb dL_isMeasureSo_40 (lv_at hl 0 rfl) ?_
    refine lv_iload_n hx hb dL_isMeasureSo_42 rfl (lv_at hl 7 rfl) ?_
    refine jv_idiv hx hb dL_isMeasureSo_43 (by omega) (by omega) (by omega) (by omega) ?_
    refine jv_imul hx hb dL_isMeasureSo_44 ?_
    refine jv_top (fun w9 hw9 => ?_)
    have hw9 : w9 = whB bs n0 n1 := hw9
    rw [← hw9] at hwb
    refine lv_istore (lv' := [(8, .int (jz w9)), (7, .int (jz n1)), (6, .int (jz n0)), (5, .int (jz si)), (4, .int (jz mi)), (3, .int (jz hi)), (2, .int (jz r_7)), (0, .ref x), (1, .int (jz bs))]) hx hb dL_isMeasureSo_45 hl (by decide) rfl (fun ls hl => ?_)
    refine lv_aload_n hx hb dL_isMeasureSo_47 rfl (lv_at hl 7 rfl) ?_
    refine kV ⟨hx, hb, hml, hown, hts⟩ hK hA hS hP hD [] [] (mX8_measure l G x st sv bu di se wy ta tt rp t0 t1 al a0 n0 g0 a1 n1 g1 db u_1 ta tm bs hi mi si F M (by omega) (by omega) (by exact hg0) (by exact hg1) (by omega) (by exact hM)) lkL_46 [3, 4, 5, 6, 0, 2] [1] (br := [bTab G tt tn u_2 u_3 u_4 u_5 u_6]) rfl rfl (by decide) 0 8 rfl rfl rfl rfl (Nat.le_of_ble_eq_true rfl) hl.1 dL_isMeasureSo_48 ⟨Nat.le_of_ble_eq_true rfl, Nat.le_of_ble_eq_true rfl⟩ ⟨Nat.le_of_ble_eq_true rfl, Nat.le_of_ble_eq_true rfl⟩ (fun u9 H locs hp9 hP hD hS => ?_)
    obtain ⟨u_13, u_14, u_15, u_16, u_17, u_18⟩ := u9
    have hc_19 : (u_18, u_14, u_15, u_16) = tGo bs g0 g1 n0 n1 (M, hi, mi, si) := hp9.1
    have hd_20 : rM u_17 u_18 := hp9.2
    have hP : wP G [bTab G tt tn u_2 u_3 u_4 u_5 u_6, bBD G x st sv bu di se wy ta tt rp, bState G st t0 t1 al, bText G t0 a0 n0 g0, bText G t1 a1 n1 g1, bGrid G di db u_13, bTab G ta tm bs u_14 u_15 u_16 u_17] H := hP
    have hD : wD A [bTab G tt tn u_2 u_3 u_4 u_5 u_6, bBD G x st sv bu di se wy ta tt rp, bState G st t0 t1 al, bText G t0 a0 n0 g0, bText G t1 a1 n1 g1, bGrid G di db u_13, bTab G ta tm bs u_14 u_15 u_16 u_17] := hD
    show W p l e rmL_isMeasureSo s m args below meth c H locs 0 0 Q (F0 m 51 ls [.int (jz (D 1 g0 g1 n0 n1))])
    have hc1 := hc_19
    have hd1 := hd_20
    obtain ⟨q1a, q1b, q1c, q1d⟩ := tri_eq hc1
    have hcn1 := tGo_cnt (t := bs) g0 g1 hbs hn0 hn1 (M, hi, mi, si)
    rw [← hw9] at hcn1
    rw [← q1b, ← q1c, ← q1d] at hcn1
    have hcn1 : u_14 + u_15 = hi + mi + w9 ∧ u_16 = si + n0 * n1 - w9 * bs * bs ∧ mi ≤ u_15 ∧ u_15 ≤ mi + 400 := hcn1
    have ht1 := tGo_two (t := bs) (a := g0) (b := g1) (m := n0) (n := n1) (x := (M, hi, mi, si)) (y := (u_18, u_14, u_15, u_16)) q1a
    have hr1 : r_7 = u_15 - mi := by rw [er_7, ← q1c]
    refine lv_aload_n hx hb dL_isMeasureSo_51 rfl (lv_at hl 7 rfl) ?_
    refine kV ⟨hx, hb, hml, hown, hts⟩ hK hA hS hP hD [] [.int (jz (D 1 g0 g1 n0 n1))] (mX8_distance l G x st sv bu di se wy ta tt rp t0 t1 al a0 n0 g0 a1 n1 g1 db u_13 (by omega) (by omega) (by exact hg0) (by exact hg1)) lkL_61 [1, 2, 3, 4, 5] [0, 6] (br := [bTab G tt tn u_2 u_3 u_4 u_5 u_6, bTab G ta tm bs u_14 u_15 u_16 u_17]) rfl rfl (by decide) 0 8 rfl rfl rfl rfl (Nat.le_of_ble_eq_true rfl) hl.1 dL_isMeasureSo_52 ⟨Nat.le_of_ble_eq_true rfl, Nat.le_of_ble_eq_true rfl⟩ ⟨Nat.le_of_ble_eq_true rfl, Nat.le_of_ble_eq_true rfl⟩ (fun u9 H locs hp9 hP hD hS => ?_)
    obtain ⟨u_21, rfl⟩ : ∃ z, z = u9 := ⟨_, rfl⟩
    have hP : wP G [bTab G tt tn u_2 u_3 u_4 u_5 u_6, bTab G ta tm bs u_14 u_15 u_16 u_17, bBD G x st sv bu di se wy ta tt rp, bState G st t0 t1 al, bText G t0 a0 n0 g0, bText G t1 a1 n1 g1, bGrid G di db u_21] H := hP
    have hD : wD A [bTab G tt tn u_2 u_3 u_4 u_5 u_6, bTab G ta tm bs u_14 u_15 u_16 u_17, bBD G x st sv bu di se wy ta tt rp, bState G st t0 t1 al, bText G t0 a0 n0 g0, bText G t1 a1 n1 g1, bGrid G di db u_21] := hD
    show W p l e rmL_isMeasureSo s m args below meth c H locs 0 0 Q (F0 m 55 ls [.int (jz (D 1 g0 g1 n0 n1)), .int (jz (D 1 g0 g1 n0 n1))])
    refine jv_icmp_ne (tgt := 115) hx hb dL_isMeasureSo_55 (by decide) (by omega) (by omega) (fun c_22 => ?_) (fun c_22 => ?_)
    · exfalso; omega
    · refine lv_aload_n hx hb dL_isMeasureSo_58 rfl (lv_at hl 7 rfl) ?_
      refine kV ⟨hx, hb, hml, hown, hts⟩ hK hA hS hP hD [] [] (mX8_misses l G x st sv bu di se wy ta tt rp ta tm bs u_14 u_15 u_16 u_17 ) lkL_95 [2, 1] [0, 3, 4, 5, 6] (br := [bTab G tt tn u_2 u_3 u_4 u_5 u_6, bState G st t0 t1 al, bText G t0 a0 n0 g0, bText G t1 a1 n1 g1, bGrid G di db u_21]) rfl rfl (by decide) 0 8 rfl rfl rfl rfl (Nat.le_of_ble_eq_true rfl) hl.1 dL_isMeasureSo_59 ⟨Nat.le_of_ble_eq_true rfl, Nat.le_of_ble_eq_true rfl⟩ ⟨Nat.le_of_ble_eq_true rfl, Nat.le_of_ble_eq_true rfl⟩ (fun u9 H locs hp9 hP hD hS => ?_)
      have hP : wP G [bTab G tt tn u_2 u_3 u_4 u_5 u_6, bState G st t0 t1 al, bText G t0 a0 n0 g0, bText G t1 a1 n1 g1, bGrid G di db u_21, bBD G x st sv bu di se wy ta tt rp, bTab G ta tm bs u_14 u_15 u_16 u_17] H := hP
      have hD : wD A [bTab G tt tn u_2 u_3 u_4 u_5 u_6, bState G st t0 t1 al, bText G t0 a0 n0 g0, bText G t1 a1 n1 g1, bGrid G di db u_21, bBD G x st sv bu di se wy ta tt rp, bTab G ta tm bs u_14 u_15 u_16 u_17] := hD
      show W p l e rmL_isMeasureSo s m args below meth c H locs 0 0 Q (F0 m 62 ls [.int (jz u_15)])
      refine lv_iload hx hb dL_isMeasureSo_62 (lv_at hl 4 rfl) ?_
      refine lv_iload_n hx hb dL_isMeasureSo_64 rfl (lv_at hl 6 rfl) ?_
      refine jv_iadd hx hb dL_isMeasureSo_65 ?_
      refine jv_icmp_ne (tgt := 115) hx hb dL_isMeasureSo_66 (by decide) (by omega) (by omega) (fun c_24 => ?_) (fun c_24 => ?_)
      · exfalso; omega
      · refine lv_aload_n hx hb dL_isMeasureSo_69 rfl (lv_at hl 7 rfl) ?_
        refine kV ⟨hx, hb, hml, hown, hts⟩ hK hA hS hP hD [] [] (mX8_hits l G x st sv bu di se wy ta tt rp ta tm bs u_14 u_15 u_16 u_17 ) lkL_92 [5, 6] [0, 1, 2, 3, 4] (br := [bTab G tt tn u_2 u_3 u_4 u_5 u_6, bState G st t0 t1 al, bText G t0 a0 n0 g0, bText G t1 a1 n1 g1, bGrid G di db u_21]) rfl rfl (by decide) 0 8 rfl rfl rfl rfl (Nat.le_of_ble_eq_true rfl) hl.1 dL_isMeasureSo_70 ⟨Nat.le_of_ble_eq_true rfl, Nat.le_of_ble_eq_true rfl⟩ ⟨Nat.le_of_ble_eq_true rfl, Nat.le_of_ble_eq_true rfl⟩ (fun u9 H locs hp9 hP hD hS => ?_)
        have hP : wP G [bTab G tt tn u_2 u_3 u_4 u_5 u_6, bState G st t0 t1 al, bText G t0 a0 n0 g0, bText G t1 a1 n1 g1, bGrid G di db u_21, bBD G x st sv bu di se wy ta tt rp, bTab G ta tm bs u_14 u_15 u_16 u_17] H := hP
        have hD : wD A [bTab G tt tn u_2 u_3 u_4 u_5 u_6, bState G st t0 t1 al, bText G t0 a0 n0 g0, bText G t1 a1 n1 g1, bGrid G di db u_21, bBD G x st sv bu di se wy ta tt rp, bTab G ta tm bs u_14 u_15 u_16 u_17] := hD
        show W p l e rmL_isMeasureSo s m args below meth c H locs 0 0 Q (F0 m 73 ls [.int (jz u_14)])
        refine lv_iload_n hx hb dL_isMeasureSo_73 rfl (lv_at hl 5 rfl) ?_
        refine lv_iload hx hb dL_isMeasureSo_74 (lv_at hl 0 rfl) ?_
        refine jv_iadd hx hb dL_isMeasureSo_76 ?_
        refine lv_iload_n hx hb dL_isMeasureSo_77 rfl (lv_at hl 6 rfl) ?_
        refine jv_isub hx hb dL_isMeasureSo_78 ?_
        refine jv_icmp_ne (tgt := 115) hx hb dL_isMeasureSo_79 (by decide) (by omega) (by omega) (fun c_26 => ?_) (fun c_26 => ?_)
        · exfalso; omega
        · refine lv_aload_n hx hb dL_isMeasureSo_82 rfl (lv_at hl 7 rfl) ?_
          refine kV ⟨hx, hb, hml, hown, hts⟩ hK hA hS hP hD [] [] (mX8_singleSteps l G x st sv bu di se wy ta tt rp ta tm bs u_14 u_15 u_16 u_17 ) lkL_98 [5, 6] [0, 1, 2, 3, 4] (br := [bTab G tt tn u_2 u_3 u_4 u_5 u_6, bState G st t0 t1 al, bText G t0 a0 n0 g0, bText G t1 a1 n1 g1, bGrid G di db u_21]) rfl rfl (by decide) 0 8 rfl rfl rfl rfl (Nat.le_of_ble_eq_true rfl) hl.1 dL_isMeasureSo_83 ⟨Nat.le_of_ble_eq_true rfl, Nat.le_of_ble_eq_true rfl⟩ ⟨Nat.le_of_ble_eq_true rfl, Nat.le_of_ble_eq_true rfl⟩ (fun u9 H locs hp9 hP hD hS => ?_)
          have hP : wP G [bTab G tt tn u_2 u_3 u_4 u_5 u_6, bState G st t0 t1 al, bText G t0 a0 n0 g0, bText G t1 a1 n1 g1, bGrid G di db u_21, bBD G x st sv bu di se wy ta tt rp, bTab G ta tm bs u_14 u_15 u_16 u_17] H := hP
          have hD : wD A [bTab G tt tn u_2 u_3 u_4 u_5 u_6, bState G st t0 t1 al, bText G t0 a0 n0 g0, bText G t1 a1 n1 g1, bGrid G di db u_21, bBD G x st sv bu di se wy ta tt rp, bTab G ta tm bs u_14 u_15 u_16 u_17] := hD
          show W p l e rmL_isMeasureSo s m args below meth c H locs 0 0 Q (F0 m 86 ls [.int (jz u_16)])
          refine lv_iload hx hb dL_isMeasureSo_86 (lv_at hl 3 rfl) ?_
          refine lv_iload hx hb dL_isMeasureSo_88 (lv_at hl 2 rfl) ?_
          refine lv_iload hx hb dL_isMeasureSo_90 (lv_at hl 1 rfl) ?_
          refine jv_imul hx hb dL_isMeasureSo_92 ?_
          refine jv_iadd hx hb dL_isMeasureSo_93 ?_
          refine lv_iload hx hb dL_isMeasureSo_94 (lv_at hl 0 rfl) ?_
          refine lv_iload_n hx hb dL_isMeasureSo_96 rfl (lv_at hl 8 rfl) ?_
          refine jv_imul hx hb dL_isMeasureSo_97 ?_
          refine lv_iload_n hx hb dL_isMeasureSo_98 rfl (lv_at hl 8 rfl) ?_
          refine jv_imul hx hb dL_isMeasureSo_99 ?_
          refine jv_isub hx hb dL_isMeasureSo_100 ?_
          refine jv_icmp_ne (tgt := 115) hx hb dL_isMeasureSo_101 (by decide) (by omega) (by omega) (fun c_28 => ?_) (fun c_28 => ?_)
          · exfalso; omega
          · refine lv_aload_n hx hb dL_isMeasureSo_104 rfl (lv_at hl 7 rfl) ?_
            refine kV ⟨hx, hb, hml, hown, hts⟩ hK hA hS hP hD [] [] (mX8_missesToCome l G x st sv bu di se wy ta tt rp t0 t1 al a0 n0 g0 a1 n1 g1 db u_21 ta tm bs u_14 u_15 u_16 u_17 tn u_2 u_3 u_4 u_5 u_6 u_18 (by omega) (by omega) (by exact hg0) (by exact hg1) (by omega) (by exact hd1)) lkL_89 [5, 1, 2, 3, 4, 6, 0] [] (br := []) rfl rfl (by decide) 0 8 rfl rfl rfl rfl (Nat.le_of_ble_eq_true rfl) hl.1 dL_isMeasureSo_105 ⟨Nat.le_of_ble_eq_true rfl, Nat.le_of_ble_eq_true rfl⟩ ⟨Nat.le_of_ble_eq_true rfl, Nat.le_of_ble_eq_true rfl⟩ (fun u9 H locs hp9 hP hD hS => ?_)
            obtain ⟨u_29, u_30, u_31, u_32, u_33, u_34⟩ := u9
            have hP : wP G [bBD G x st sv bu di se wy ta tt rp, bState G st t0 t1 al, bText G t0 a0 n0 g0, bText G t1 a1 n1 g1, bGrid G di db u_29, bTab G ta tm bs u_14 u_15 u_16 u_17, bTab G tt tn u_30 u_31 u_32 u_33 u_34] H := hP
            have hD : wD A [bBD G x st sv bu di se wy ta tt rp, bState G st t0 t1 al, bText G t0 a0 n0 g0, bText G t1 a1 n1 g1, bGrid G di db u_29, bTab G ta tm bs u_14 u_15 u_16 u_17, bTab G tt tn u_30 u_31 u_32 u_33 u_34] := hD
            show W p l e rmL_isMeasureSo s m args below meth c H locs 0 0 Q (F0 m 108 ls [.int (jz ((tGo bs g0 g1 n0 n1 (u_18, u_14, u_15, u_16)).2.2.1 - u_15))])
            refine jv_top (fun r_35 er_35 => ?_)
            have hr2 : r_35 = 0 := by rw [er_35, ht1.2]; exact Int.sub_self _
            refine jv_if_ne (tgt := 115) hx hb dL_isMeasureSo_108 (by decide) (by omega) (fun c_36 => ?_) (fun c_36 => ?_)
            · exfalso; omega
            · refine jv_iconst hx hb dL_isMeasureSo_111 ?_
              refine lv_goto (tgt := 116) hx hb dL_isMeasureSo_112 (by decide) ?_
              refine lv_istore (lv' := [(9, .int (jz 1)), (8, .int (jz w9)), (7, .int (jz n1)), (6, .int (jz n0)), (5, .int (jz si)), (4, .int (jz mi)), (3, .int (jz hi)), (2, .int (jz r_7)), (0, .ref x), (1, .int (jz bs))]) hx hb dL_isMeasureSo_116 hl (by decide) rfl (fun ls hl => ?_)
              refine lv_aload_n hx hb dL_isMeasureSo_118 rfl (lv_at hl 8 rfl) ?_
              refine kV ⟨hx, hb, hml, hown, hts⟩ hK hA hS hP hD [] [] (mX8_misses l G x st sv bu di se wy ta tt rp ta tm bs u_14 u_15 u_16 u_17 ) lkL_95 [0, 5] [1, 2, 3, 4, 6] (br := [bState G st t0 t1 al, bText G t0 a0 n0 g0, bText G t1 a1 n1 g1, bGrid G di db u_29, bTab G tt tn u_30 u_31 u_32 u_33 u_34]) rfl rfl (by decide) 0 8 rfl rfl rfl rfl (Nat.le_of_ble_eq_true rfl) hl.1 dL_isMeasureSo_119 ⟨Nat.le_of_ble_eq_true rfl, Nat.le_of_ble_eq_true rfl⟩ ⟨Nat.le_of_ble_eq_true rfl, Nat.le_of_ble_eq_true rfl⟩ (fun u9 H locs hp9 hP hD hS => ?_)
              have hP : wP G [bState G st t0 t1 al, bText G t0 a0 n0 g0, bText G t1 a1 n1 g1, bGrid G di db u_29, bTab G tt tn u_30 u_31 u_32 u_33 u_34, bBD G x st sv bu di se wy ta tt rp, bTab G ta tm bs u_14 u_15 u_16 u_17] H := hP
              have hD : wD A [bState G st t0 t1 al, bText G t0 a0 n0 g0, bText G t1 a1 n1 g1, bGrid G di db u_29, bTab G tt tn u_30 u_31 u_32 u_33 u_34, bBD G x st sv bu di se wy ta tt rp, bTab G ta tm bs u_14 u_15 u_16 u_17] := hD
              show W p l e rmL_isMeasureSo s m args below meth c H locs 0 0 Q (F0 m 122 ls [.int (jz u_15)])
              refine lv_istore (lv' := [(4, .int (jz u_15)), (9, .int (jz 1)), (8, .int (jz w9)), (7, .int (jz n1)), (6, .int (jz n0)), (5, .int (jz si)), (3, .int (jz hi)), (2, .int (jz r_7)), (0, .ref x), (1, .int (jz bs))]) hx hb dL_isMeasureSo_122 hl (by decide) rfl (fun ls hl => ?_)
              refine lv_iload hx hb dL_isMeasureSo_124 (lv_at hl 1 rfl) ?_
              refine jv_if_eq (tgt := 168) hx hb dL_isMeasureSo_126 (by decide) (by omega) (fun c_38 => ?_) (fun c_38 => ?_)
              · exfalso; omega
              · refine lv_aload_n hx hb dL_isMeasureSo_129 rfl (lv_at hl 8 rfl) ?_
                refine kV ⟨hx, hb, hml, hown, hts⟩ hK hA hS hP hD [] [] (mX8_measure l G x st sv bu di se wy ta tt rp t0 t1 al a0 n0 g0 a1 n1 g1 db u_29 ta tm bs u_14 u_15 u_16 u_17 u_18 (by omega) (by omega) (by exact hg0) (by exact hg1) (by omega) (by exact hd1)) lkL_46 [5, 0, 1, 2, 3, 6] [4] (br := [bTab G tt tn u_30 u_31 u_32 u_33 u_34]) rfl rfl (by decide) 0 8 rfl rfl rfl rfl (Nat.le_of_ble_eq_true rfl) hl.1 dL_isMeasureSo_130 ⟨Nat.le_of_ble_eq_true rfl, Nat.le_of_ble_eq_true rfl⟩ ⟨Nat.le_of_ble_eq_true rfl, Nat.le_of_ble_eq_true rfl⟩ (fun u9 H locs hp9 hP hD hS => ?_)
                obtain ⟨u_39, u_40, u_41, u_42, u_43, u_44⟩ := u9
                have hc_45 : (u_44, u_40, u_41, u_42) = tGo bs g0 g1 n0 n1 (u_18, u_14, u_15, u_16) := hp9.1
                have hd_46 : rM u_43 u_44 := hp9.2
                have hP : wP G [bTab G tt tn u_30 u_31 u_32 u_33 u_34, bBD G x st sv bu di se wy ta tt rp, bState G st t0 t1 al, bText G t0 a0 n0 g0, bText G t1 a1 n1 g1, bGrid G di db u_39, bTab G ta tm bs u_40 u_41 u_42 u_43] H := hP
                have hD : wD A [bTab G tt tn u_30 u_31 u_32 u_33 u_34, bBD G x st sv bu di se wy ta tt rp, bState G st t0 t1 al, bText G t0 a0 n0 g0, bText G t1 a1 n1 g1, bGrid G di db u_39, bTab G ta tm bs u_40 u_41 u_42 u_43] := hD
                show W p l e rmL_isMeasureSo s m args below meth c H locs 0 0 Q (F0 m 133 ls [.int (jz (D 1 g0 g1 n0 n1))])
                have hc2 := hc_45
                have hd2 := hd_46
                obtain ⟨q2a, q2b, q2c, q2d⟩ := tri_eq hc2
                have hcn2 := tGo_cnt (t := bs) g0 g1 hbs hn0 hn1 (u_18, u_14, u_15, u_16)
                rw [← hw9] at hcn2
                rw [← q2b, ← q2c, ← q2d] at hcn2
                have hcn2 : u_40 + u_41 = u_14 + u_15 + w9 ∧ u_42 = u_16 + n0 * n1 - w9 * bs * bs ∧ u_15 ≤ u_41 ∧ u_41 ≤ u_15 + 400 := hcn2
                have hr3 : u_41 = u_15 := by rw [q2c]; exact ht1.2
                refine lv_aload_n hx hb dL_isMeasureSo_133 rfl (lv_at hl 8 rfl) ?_
                refine kV ⟨hx, hb, hml, hown, hts⟩ hK hA hS hP hD [] [.int (jz (D 1 g0 g1 n0 n1))] (mX8_distance l G x st sv bu di se wy ta tt rp t0 t1 al a0 n0 g0 a1 n1 g1 db u_39 (by omega) (by omega) (by exact hg0) (by exact hg1)) lkL_61 [1, 2, 3, 4, 5] [0, 6] (br := [bTab G tt tn u_30 u_31 u_32 u_33 u_34, bTab G ta tm bs u_40 u_41 u_42 u_43]) rfl rfl (by decide) 0 8 rfl rfl rfl rfl (Nat.le_of_ble_eq_true rfl) hl.1 dL_isMeasureSo_134 ⟨Nat.le_of_ble_eq_true rfl, Nat.le_of_ble_eq_true rfl⟩ ⟨Nat.le_of_ble_eq_true rfl, Nat.le_of_ble_eq_true rfl⟩ (fun u9 H locs hp9 hP hD hS => ?_)
                obtain ⟨u_47, rfl⟩ : ∃ z, z = u9 := ⟨_, rfl⟩
                have hP : wP G [bTab G tt tn u_30 u_31 u_32 u_33 u_34, bTab G ta tm bs u_40 u_41 u_42 u_43, bBD G x st sv bu di se wy ta tt rp, bState G st t0 t1 al, bText G t0 a0 n0 g0, bText G t1 a1 n1 g1, bGrid G di db u_47] H := hP
                have hD : wD A [bTab G tt tn u_30 u_31 u_32 u_33 u_34, bTab G ta tm bs u_40 u_41 u_42 u_43, bBD G x st sv bu di se wy ta tt rp, bState G st t0 t1 al, bText G t0 a0 n0 g0, bText G t1 a1 n1 g1, bGrid G di db u_47] := hD
                show W p l e rmL_isMeasureSo s m args below meth c H locs 0 0 Q (F0 m 137 ls [.int (jz (D 1 g0 g1 n0 n1)), .int (jz (D 1 g0 g1 n0 n1))])
                refine jv_icmp_ne (tgt := 168) hx hb dL_isMeasureSo_137 (by decide) (by omega) (by omega) (fun c_48 => ?_) (fun c_48 => ?_)
                · exfalso; omega
                · refine lv_aload_n hx hb dL_isMeasureSo_140 rfl (lv_at hl 8 rfl) ?_
                  refine kV ⟨hx, hb, hml, hown, hts⟩ hK hA hS hP hD [] [] (mX8_misses l G x st sv bu di se wy ta tt rp ta tm bs u_40 u_41 u_42 u_43 ) lkL_95 [2, 1] [0, 3, 4, 5, 6] (br := [bTab G tt tn u_30 u_31 u_32 u_33 u_34, bState G st t0 t1 al, bText G t0 a0 n0 g0, bText G t1 a1 n1 g1, bGrid G di db u_47]) rfl rfl (by decide) 0 8 rfl rfl rfl rfl (Nat.le_of_ble_eq_true rfl) hl.1 dL_isMeasureSo_141 ⟨Nat.le_of_ble_eq_true rfl, Nat.le_of_ble_eq_true rfl⟩ ⟨Nat.le_of_ble_eq_true rfl, Nat.le_of_ble_eq_true rfl⟩ (fun u9 H locs hp9 hP hD hS => ?_)
                  have hP : wP G [bTab G tt tn u_30 u_31 u_32 u_33 u_34, bState G st t0 t1 al, bText G t0 a0 n0 g0, bText G t1 a1 n1 g1, bGrid G di db u_47, bBD G x st sv bu di se wy ta tt rp, bTab G ta tm bs u_40 u_41 u_42 u_43] H := hP
                  have hD : wD A [bTab G tt tn u_30 u_31 u_32 u_33 u_34, bState G st t0 t1 al, bText G t0 a0 n0 g0, bText G t1 a1 n1 g1, bGrid G di db u_47, bBD G x st sv bu di se wy ta tt rp, bTab G ta tm bs u_40 u_41 u_42 u_43] := hD
                  show W p l e rmL_isMeasureSo s m args below meth c H locs 0 0 Q (F0 m 144 ls [.int (jz u_41)])
                  refine lv_iload hx hb dL_isMeasureSo_144 (lv_at hl 0 rfl) ?_
                  refine jv_icmp_ne (tgt := 168) hx hb dL_isMeasureSo_146 (by decide) (by omega) (by omega) (fun c_50 => ?_) (fun c_50 => ?_)
                  · exfalso; omega
                  · refine lv_aload_n hx hb dL_isMeasureSo_149 rfl (lv_at hl 8 rfl) ?_
                    refine kV ⟨hx, hb, hml, hown, hts⟩ hK hA hS hP hD [] [] (mX8_hits l G x st sv bu di se wy ta tt rp ta tm bs u_40 u_41 u_42 u_43 ) lkL_92 [5, 6] [0, 1, 2, 3, 4] (br := [bTab G tt tn u_30 u_31 u_32 u_33 u_34, bState G st t0 t1 al, bText G t0 a0 n0 g0, bText G t1 a1 n1 g1, bGrid G di db u_47]) rfl rfl (by decide) 0 8 rfl rfl rfl rfl (Nat.le_of_ble_eq_true rfl) hl.1 dL_isMeasureSo_150 ⟨Nat.le_of_ble_eq_true rfl, Nat.le_of_ble_eq_true rfl⟩ ⟨Nat.le_of_ble_eq_true rfl, Nat.le_of_ble_eq_true rfl⟩ (fun u9 H locs hp9 hP hD hS => ?_)
                    have hP : wP G [bTab G tt tn u_30 u_31 u_32 u_33 u_34, bState G st t0 t1 al, bText G t0 a0 n0 g0, bText G t1 a1 n1 g1, bGrid G di db u_47, bBD G x st sv bu di se wy ta tt rp, bTab G ta tm bs u_40 u_41 u_42 u_43] H := hP
                    have hD : wD A [bTab G tt tn u_30 u_31 u_32 u_33 u_34, bState G st t0 t1 al, bText G t0 a0 n0 g0, bText G t1 a1 n1 g1, bGrid G di db u_47, bBD G x st sv bu di se wy ta tt rp, bTab G ta tm bs u_40 u_41 u_42 u_43] := hD
                    show W p l e rmL_isMeasureSo s m args below meth c H locs 0 0 Q (F0 m 153 ls [.int (jz u_40)])
                    refine lv_iload_n hx hb dL_isMeasureSo_153 rfl (lv_at hl 6 rfl) ?_
                    refine jv_iconst hx hb dL_isMeasureSo_154 ?_
                    refine lv_iload hx hb dL_isMeasureSo_155 (lv_at hl 2 rfl) ?_
                    refine jv_imul hx hb dL_isMeasureSo_157 ?_
                    refine jv_iadd hx hb dL_isMeasureSo_158 ?_
                    refine lv_iload_n hx hb dL_isMeasureSo_159 rfl (lv_at hl 7 rfl) ?_
                    refine jv_isub hx hb dL_isMeasureSo_160 ?_
                    refine jv_icmp_ne (tgt := 168) hx hb dL_isMeasureSo_161 (by decide) (by omega) (by omega) (fun c_52 => ?_) (fun c_52 => ?_)
                    · exfalso; omega
                    · refine jv_iconst hx hb dL_isMeasureSo_164 ?_
                      refine lv_goto (tgt := 169) hx hb dL_isMeasureSo_165 (by decide) ?_
                      refine lv_istore (lv' := [(9, .int (jz 1)), (4, .int (jz u_15)), (8, .int (jz w9)), (7, .int (jz n1)), (6, .int (jz n0)), (5, .int (jz si)), (3, .int (jz hi)), (2, .int (jz r_7)), (0, .ref x), (1, .int (jz bs))]) hx hb dL_isMeasureSo_169 hl (by decide) rfl (fun ls hl => ?_)
                      refine lv_iload hx hb dL_isMeasureSo_171 (lv_at hl 0 rfl) ?_
                      exact cret_i hx hb hr hlocks hS hP hD (Nat.le_of_ble_eq_true rfl) (Nat.le_of_ble_eq_true rfl) (jz_nb (show 1 = 0 ∨ 1 = 1 by omega)) dL_isMeasureSo_173 [5, 1, 2, 3, 4, 6, 0] (by decide) ⟨u_47, u_40, u_41, u_42, u_43, u_44, u_30, u_31, u_32, u_33, u_34⟩ rfl ⟨(show rM u_43 u_44 from hd2), (show (-(B + 4000) ≤ u_40 ∧ u_40 ≤ B + 4000) ∧ (-(B + 4000) ≤ u_41 ∧ u_41 ≤ B + 4000) ∧ (-(B + 4000) ≤ u_42 ∧ u_42 ≤ B + 4000) from by omega)⟩ (congrArg (fun z : Int => some (Value.int (jz z))) (show 1 = 1 from by first | rfl | omega | (split <;> first | rfl | omega | (exfalso; omega)))) hQ
  exact KH s.heap [] hP hD hS
theorem FR_bd (a b : Int → Int) {k v i j m n : Int} (hi : i = m) (hj : j = n) (h0 : 0 ≤ m ∧ m ≤ 20) (h1 : 0 ≤ n ∧ n ≤ 20) : (0 ≤ D 1 (up a k v) b i j ∧ D 1 (up a k v) b i j ≤ 98) ∧ D 1 (up a k v) b i j - D 1 a b m n ≤ 1 ∧ -1 ≤ D 1 (up a k v) b i j - D 1 a b m n := by
  subst hi hj
  have h := D_bd (c := 1) (Or.inr rfl) (up a k v) b (i := i) (j := j) (by omega) (by omega)
  have h2 := D_upd a b k v i j
  omega
abbrev rmL_areReplacedSo_0 : Room := { frames := 5, cells := 10, slots := 94, locals := 120 }
set_option maxHeartbeats 4000000 in
set_option maxRecDepth 100000 in
theorem mL_areReplacedSo_0 (l : Launch) (G : GG) (x : Nat) (st : Nat) (sv : Nat) (bu : Nat) (di : Nat) (se : Nat) (wy : Nat) (ta : Nat) (tt : Nat) (rp : Nat) (t0 : Nat) (t1 : Nat) (al : Int) (a0 : Nat) (n0 : Int) (g0 : Int → Int) (a1 : Nat) (n1 : Int) (g1 : Int → Int) (db : Nat) (dh : Int → Int) (q : Nat) (q2 : Nat) (ct : Nat) (ot : Nat) (b : Nat) (h : Int → Int) (b2 : Nat) (h2 : Int → Int) (ca : Nat) (cn : Int) (cg : Int → Int) (oa : Nat) (on : Int) (og : Int → Int) (sa : Nat) (od : Int) (sz : Int) (f : Int → Option Nat) (ph : Nat → SG) (kp : Nat) (z : Int) (hn0 : 0 ≤ n0 ∧ n0 ≤ 20) (hn1 : 0 ≤ n1 ∧ n1 ≤ 20) (hg0 : ∀ j : Int, 0 ≤ j → j < n0 → 0 ≤ g0 j ∧ g0 j < 3) (hg1 : ∀ j : Int, 0 ≤ j → j < n1 → 0 ≤ g1 j ∧ g1 j < 3) (hal : 3 ≤ al ∧ al ≤ 4) (hz : z = 0) (hSV : SV od sz f ph kp) : Ct l yL_areReplacedSo cL_areReplacedSo 12 (some .boolean) rmL_areReplacedSo_0 G [.ref x, .int (jz z), .int (jz al)] [bBD G x st sv bu di se wy ta tt rp, bState G st t0 t1 al, bText G t0 a0 n0 g0, bText G t1 a1 n1 g1, bGrid G di db dh, bRep G rp q q2 ct ot, bGrid G q b h, bGrid G q2 b2 h2, bText G ct ca cn cg, bText G ot oa on og, bSaved G sv sa od sz f, bPool G ph kp] (fun uo : (Int → Int) × Int × Int × (Int → Int) × Int × (Int → Int) × (Int → Int) × (Int → Int) × (Int → Int) × (Int → Int) × Int × Int × (Int → Option Nat) × (Nat → SG) × Nat => some (.int (jz 1))) (fun uo => ((uo.2.1 = al ∧ uo.2.2.1 = n0 ∧ uo.2.2.2.2.1 = n1) ∧ (∀ j : Int, 0 ≤ j → j < n0 → 0 ≤ uo.2.2.2.1 j ∧ uo.2.2.2.1 j < 3) ∧ (∀ j : Int, 0 ≤ j → j < n1 → 0 ≤ uo.2.2.2.2.2.1 j ∧ uo.2.2.2.2.2.1 j < 3) ∧ SV uo.2.2.2.2.2.2.2.2.2.2.1 uo.2.2.2.2.2.2.2.2.2.2.2.1 uo.2.2.2.2.2.2.2.2.2.2.2.2.1 uo.2.2.2.2.2.2.2.2.2.2.2.2.2.1 uo.2.2.2.2.2.2.2.2.2.2.2.2.2.2)) (fun uo => [bBD G x st sv bu di se wy ta tt rp, bState G st t0 t1 uo.2.1, bText G t0 a0 uo.2.2.1 uo.2.2.2.1, bText G t1 a1 uo.2.2.2.2.1 uo.2.2.2.2.2.1, bGrid G di db uo.1, bRep G rp q q2 ct ot, bGrid G q b uo.2.2.2.2.2.2.1, bGrid G q2 b2 uo.2.2.2.2.2.2.2.1, bText G ct ca n0 uo.2.2.2.2.2.2.2.2.1, bText G ot oa n1 uo.2.2.2.2.2.2.2.2.2.1, bSaved G sv sa uo.2.2.2.2.2.2.2.2.2.2.1 uo.2.2.2.2.2.2.2.2.2.2.2.1 uo.2.2.2.2.2.2.2.2.2.2.2.2.1, bPool G uo.2.2.2.2.2.2.2.2.2.2.2.2.2.1 uo.2.2.2.2.2.2.2.2.2.2.2.2.2.2]) := by
  refine cof (by decide) (Nat.le_of_ble_eq_true rfl) ?_
  intro p e s m args below meth c A ls hx hb hr hml hown hts hlocks hin hA hK hP hD hS hl Q hQ
  have hown : s.vm.findClass RL = some m.cls := hown
  have hl : lv_has ls 12 [(0, .ref x), (1, .int (jz z)), (2, .int (jz al))] := hl
  have KH : ∀ (H : Heap) (locs : List Loc), wP G [bBD G x st sv bu di se wy ta tt rp, bState G st t0 t1 al, bText G t0 a0 n0 g0, bText G t1 a1 n1 g1, bGrid G di db dh, bRep G rp q q2 ct ot, bGrid G q b h, bGrid G q2 b2 h2, bText G ct ca cn cg, bText G ot oa on og, bSaved G sv sa od sz f, bPool G ph kp] H → wD A [bBD G x st sv bu di se wy ta tt rp, bState G st t0 t1 al, bText G t0 a0 n0 g0, bText G t1 a1 n1 g1, bGrid G di db dh, bRep G rp q q2 ct ot, bGrid G q b h, bGrid G q2 b2 h2, bText G ct ca cn cg, bText G ot oa on og, bSaved G sv sa od sz f, bPool G ph kp] → va_S A s.heap H locs → W p l e rmL_areReplacedSo_0 s m args below meth c H locs 0 0 Q (F0 m 0 ls []) := by
    intro H locs hP hD hS
    obtain ⟨hs, ho, hkp, hk2, hf⟩ := hSV.1
    have hdb := D_bd (c := 1) (Or.inr rfl) g0 g1 (i := n0) (j := n1) (by omega) (by omega)
    refine lv_aload_n hx hb dL_areReplacedSo_0 rfl (lv_at hl 0 rfl) ?_
    refine lv_iload_n hx hb dL_areReplacedSo_1 rfl (lv_at hl 1 rfl) ?_
    refine kV ⟨hx, hb, hml, hown, hts⟩ hK hA hS hP hD [.int (jz z)] [] (mX8_bestReplacement_0 l G x st sv bu di se wy ta tt rp t0 t1 al a0 n0 g0 a1 n1 g1 q q2 ct ot b h b2 h2 ca cn cg oa on og z (by omega) (by omega) (by exact lt3_4 hg0) (by exact lt3_4 hg1) (by omega) (by omega)) lkL_101 [0, 1, 2, 3, 5, 6, 7, 8, 9] [4, 10, 11] (br := [bGrid G di db dh, bSaved G sv sa od sz f, bPool G ph kp]) rfl rfl (by decide) 0 8 rfl rfl rfl rfl (Nat.le_of_ble_eq_true rfl) hl.1 dL_areReplacedSo_2 ⟨Nat.le_of_ble_eq_true rfl, Nat.le_of_ble_eq_true rfl⟩ ⟨Nat.le_of_ble_eq_true rfl, Nat.le_of_ble_eq_true rfl⟩ (fun u9 H locs hp9 hP hD hS => ?_)
    obtain ⟨u_1, u_2, u_3, u_4⟩ := u9
    have hP : wP G [bGrid G di db dh, bSaved G sv sa od sz f, bPool G ph kp, bBD G x st sv bu di se wy ta tt rp, bState G st t0 t1 al, bText G t0 a0 n0 g0, bText G t1 a1 n1 g1, bRep G rp q q2 ct ot, bGrid G q b u_1, bGrid G q2 b2 u_2, bText G ct ca n0 u_3, bText G ot oa n1 u_4] H := hP
    have hD : wD A [bGrid G di db dh, bSaved G sv sa od sz f, bPool G ph kp, bBD G x st sv bu di se wy ta tt rp, bState G st t0 t1 al, bText G t0 a0 n0 g0, bText G t1 a1 n1 g1, bRep G rp q q2 ct ot, bGrid G q b u_1, bGrid G q2 b2 u_2, bText G ct ca n0 u_3, bText G ot oa n1 u_4] := hD
    have hP : wP G [bGrid G di db dh, bSaved G sv sa od sz f, bBD G x st sv bu di se wy ta tt rp, bState G st t0 t1 al, bText G t0 a0 n0 g0, bText G t1 a1 n1 g1, bRep G rp q q2 ct ot, bGrid G q b u_1, bGrid G q2 b2 u_2, bText G ct ca n0 u_3, bText G ot oa n1 u_4, bPool G ph kp] H := wP_sub hP [0, 1, 3, 4, 5, 6, 7, 8, 9, 10, 11, 2] rfl
    have hD : wD A [bGrid G di db dh, bSaved G sv sa od sz f, bBD G x st sv bu di se wy ta tt rp, bState G st t0 t1 al, bText G t0 a0 n0 g0, bText G t1 a1 n1 g1, bRep G rp q q2 ct ot, bGrid G q b u_1, bGrid G q2 b2 u_2, bText G ct ca n0 u_3, bText G ot oa n1 u_4, bPool G ph kp] := wD_sub hD [0, 1, 3, 4, 5, 6, 7, 8, 9, 10, 11, 2] (by decide) rfl
    show W p l e rmL_areReplacedSo_0 s m args below meth c H locs 0 0 Q (F0 m 5 ls [.int (jz (bst0 al n0 n1 g0 g1))])
    refine lv_istore_n (lv' := [(3, .int (jz (bst0 al n0 n1 g0 g1))), (0, .ref x), (1, .int (jz z)), (2, .int (jz al))]) hx hb dL_areReplacedSo_5 rfl hl (by decide) rfl (fun ls hl => ?_)
    refine lv_aload_n hx hb dL_areReplacedSo_6 rfl (lv_at hl 1 rfl) ?_
    refine lv_iload_n hx hb dL_areReplacedSo_7 rfl (lv_at hl 2 rfl) ?_
    refine kV ⟨hx, hb, hml, hown, hts⟩ hK hA hS hP hD [.int (jz z)] [] (mX8_length_0 l G x st sv bu di se wy ta tt rp t0 t1 al a0 n0 g0 a1 n1 g1 z (by omega)) lkL_8 [2, 3, 4, 5] [0, 1, 6, 7, 8, 9, 10, 11] (br := [bGrid G di db dh, bSaved G sv sa od sz f, bRep G rp q q2 ct ot, bGrid G q b u_1, bGrid G q2 b2 u_2, bText G ct ca n0 u_3, bText G ot oa n1 u_4, bPool G ph kp]) rfl rfl (by decide) 0 8 rfl rfl rfl rfl (Nat.le_of_ble_eq_true rfl) hl.1 dL_areReplacedSo_8 ⟨Nat.le_of_ble_eq_true rfl, Nat.le_of_ble_eq_true rfl⟩ ⟨Nat.le_of_ble_eq_true rfl, Nat.le_of_ble_eq_true rfl⟩ (fun u9 H locs hp9 hP hD hS => ?_)
    have hP : wP G [bGrid G di db dh, bSaved G sv sa od sz f, bRep G rp q q2 ct ot, bGrid G q b u_1, bGrid G q2 b2 u_2, bText G ct ca n0 u_3, bText G ot oa n1 u_4, bPool G ph kp, bBD G x st sv bu di se wy ta tt rp, bState G st t0 t1 al, bText G t0 a0 n0 g0, bText G t1 a1 n1 g1] H := hP
    have hD : wD A [bGrid G di db dh, bSaved G sv sa od sz f, bRep G rp q q2 ct ot, bGrid G q b u_1, bGrid G q2 b2 u_2, bText G ct ca n0 u_3, bText G ot oa n1 u_4, bPool G ph kp, bBD G x st sv bu di se wy ta tt rp, bState G st t0 t1 al, bText G t0 a0 n0 g0, bText G t1 a1 n1 g1] := hD
    have hP : wP G [bGrid G di db dh, bSaved G sv sa od sz f, bRep G rp q q2 ct ot, bGrid G q b u_1, bGrid G q2 b2 u_2, bText G ct ca n0 u_3, bText G ot oa n1 u_4, bBD G x st sv bu di se wy ta tt rp, bState G st t0 t1 al, bText G t0 a0 n0 g0, bText G t1 a1 n1 g1, bPool G ph kp] H := wP_sub hP [0, 1, 2, 3, 4, 5, 6, 8, 9, 10, 11, 7] rfl
    have hD : wD A [bGrid G di db dh, bSaved G sv sa od sz f, bRep G rp q q2 ct ot, bGrid G q b u_1, bGrid G q2 b2 u_2, bText G ct ca n0 u_3, bText G ot oa n1 u_4, bBD G x st sv bu di se wy ta tt rp, bState G st t0 t1 al, bText G t0 a0 n0 g0, bText G t1 a1 n1 g1, bPool G ph kp] := wD_sub hD [0, 1, 2, 3, 4, 5, 6, 8, 9, 10, 11, 7] (by decide) rfl
    show W p l e rmL_areReplacedSo_0 s m args below meth c H locs 0 0 Q (F0 m 11 ls [.int (jz n0)])
    refine lv_istore (lv' := [(4, .int (jz n0)), (3, .int (jz (bst0 al n0 n1 g0 g1))), (0, .ref x), (1, .int (jz z)), (2, .int (jz al))]) hx hb dL_areReplacedSo_11 hl (by decide) rfl (fun ls hl => ?_)
    refine jv_iconst hx hb dL_areReplacedSo_13 ?_
    refine lv_istore (lv' := [(5, .int (jz ((-1)))), (4, .int (jz n0)), (3, .int (jz (bst0 al n0 n1 g0 g1))), (0, .ref x), (1, .int (jz z)), (2, .int (jz al))]) hx hb dL_areReplacedSo_14 hl (by decide) rfl (fun ls hl => ?_)
    refine jv_bipush hx hb dL_areReplacedSo_16 (by decide) ?_
    refine lv_istore (lv' := [(6, .int (jz 99)), (5, .int (jz ((-1)))), (4, .int (jz n0)), (3, .int (jz (bst0 al n0 n1 g0 g1))), (0, .ref x), (1, .int (jz z)), (2, .int (jz al))]) hx hb dL_areReplacedSo_18 hl (by decide) rfl (fun ls hl => ?_)
    refine jv_iconst hx hb dL_areReplacedSo_20 ?_
    refine lv_istore (lv' := [(7, .int (jz 1)), (6, .int (jz 99)), (5, .int (jz ((-1)))), (4, .int (jz n0)), (3, .int (jz (bst0 al n0 n1 g0 g1))), (0, .ref x), (1, .int (jz z)), (2, .int (jz al))]) hx hb dL_areReplacedSo_21 hl (by decide) rfl (fun ls hl => ?_)
    refine jv_iconst hx hb dL_areReplacedSo_23 ?_
    refine lv_istore (lv' := [(8, .int (jz 0)), (7, .int (jz 1)), (6, .int (jz 99)), (5, .int (jz ((-1)))), (4, .int (jz n0)), (3, .int (jz (bst0 al n0 n1 g0 g1))), (0, .ref x), (1, .int (jz z)), (2, .int (jz al))]) hx hb dL_areReplacedSo_24 hl (by decide) rfl (fun ls hl => ?_)
    have K26 : ∀ (n9 : Nat) (h1 : Int → Int) (c1 : Int → Int) (c2 : Int → Int) (c3 : Int → Int) (c4 : Int → Int) (fo : Int) (lst : Int) (kk : Int) , ((n0 - kk).toNat) < n9 → (0 ≤ kk ∧ kk ≤ n0) → (lRel (fun i v => D 1 (up g0 i v) g1 n0 n1) al n0 fo lst (bAll (fun i v => D 1 (up g0 i v) g1 n0 n1) al kk.toNat)) → ∀ (H : Heap) (locs : List Loc) (ls : Array Slot), wP G [bBD G x st sv bu di se wy ta tt rp, bState G st t0 t1 al, bText G t0 a0 n0 g0, bText G t1 a1 n1 g1, bGrid G di db h1, bRep G rp q q2 ct ot, bGrid G q b c1, bGrid G q2 b2 c2, bText G ct ca n0 c3, bText G ot oa n1 c4, bSaved G sv sa od sz f, bPool G ph kp] H → wD A [bBD G x st sv bu di se wy ta tt rp, bState G st t0 t1 al, bText G t0 a0 n0 g0, bText G t1 a1 n1 g1, bGrid G di db h1, bRep G rp q q2 ct ot, bGrid G q b c1, bGrid G q2 b2 c2, bText G ct ca n0 c3, bText G ot oa n1 c4, bSaved G sv sa od sz f, bPool G ph kp] → va_S A s.heap H locs → lv_has ls 12 [(0, .ref x), (1, .int (jz z)), (2, .int (jz al)), (3, .int (jz (bst0 al n0 n1 g0 g1))), (4, .int (jz n0)), (5, .int (jz fo)), (6, .int (jz lst)), (7, .int (jz 1)), (8, .int (jz kk))] → W p l e rmL_areReplacedSo_0 s m args below meth c H locs 0 0 Q (F0 m 26 ls []) := by
      intro n9
      induction n9 with
      | zero => intro h1 c1 c2 c3 c4 fo lst kk hm9; exact absurd hm9 (Nat.not_lt_zero _)
      | succ n9 ih26 =>
        intro h1 c1 c2 c3 c4 fo lst kk hm9 hkk hR9 H locs ls hP hD hS hl
        have hlb := lRel_bd hR9 (by omega) (by omega)
        refine lv_iload hx hb dL_areReplacedSo_26 (lv_at hl 8 rfl) ?_
        refine lv_iload hx hb dL_areReplacedSo_28 (lv_at hl 4 rfl) ?_
        refine jv_icmp_ge (tgt := 137) hx hb dL_areReplacedSo_30 (by decide) (by omega) (by omega) (fun c_6 => ?_) (fun c_6 => ?_)
        · have hbst : bst0 al n0 n1 g0 g1 = fo := by unfold bst0 bestF; rw [show n0.toNat = kk.toNat by omega]; exact lRel_1 hR9
          refine lv_iload hx hb dL_areReplacedSo_137 (lv_at hl 5 rfl) ?_
          refine jv_if_lt (tgt := 231) hx hb dL_areReplacedSo_139 (by decide) (by omega) (fun c_7 => ?_) (fun c_7 => ?_)
          · refine lv_iload hx hb dL_areReplacedSo_231 (lv_at hl 7 rfl) ?_
            refine jv_if_eq (tgt := 246) hx hb dL_areReplacedSo_233 (by decide) (by omega) (fun c_8 => ?_) (fun c_8 => ?_)
            · exfalso; omega
            · refine lv_iload_n hx hb dL_areReplacedSo_236 rfl (lv_at hl 3 rfl) ?_
              refine lv_iload hx hb dL_areReplacedSo_237 (lv_at hl 5 rfl) ?_
              refine jv_icmp_ne (tgt := 246) hx hb dL_areReplacedSo_239 (by decide) (by omega) (by omega) (fun c_9 => ?_) (fun c_9 => ?_)
              · exfalso; omega
              · refine jv_iconst hx hb dL_areReplacedSo_242 ?_
                refine lv_goto (tgt := 247) hx hb dL_areReplacedSo_243 (by decide) ?_
                exact cret_i hx hb hr hlocks hS hP hD (Nat.le_of_ble_eq_true rfl) (Nat.le_of_ble_eq_true rfl) (jz_nb (show 1 = 0 ∨ 1 = 1 by omega)) dL_areReplacedSo_247 [0, 1, 2, 3, 4, 5, 6, 7, 8, 9, 10, 11] (by decide) ⟨h1, al, n0, g0, n1, g1, c1, c2, c3, c4, od, sz, f, ph, kp⟩ rfl (show (al = al ∧ n0 = n0 ∧ n1 = n1) ∧ (∀ j : Int, 0 ≤ j → j < n0 → 0 ≤ g0 j ∧ g0 j < 3) ∧ (∀ j : Int, 0 ≤ j → j < n1 → 0 ≤ g1 j ∧ g1 j < 3) ∧ SV od sz f ph kp from by exact ⟨⟨rfl, rfl, rfl⟩, hg0, hg1, hSV⟩) (congrArg (fun z : Int => some (Value.int (jz z))) (show 1 = 1 from by first | rfl | omega | (split <;> first | rfl | omega | (exfalso; omega)))) hQ
          · have hlf := hlb.2.2.2.2 (by omega)
            have hlf3 : lst = D 1 (up g0 (fo / 10) (fo % 10)) g1 n0 n1 := hlf.2.2
            refine lv_aload_n hx hb dL_areReplacedSo_142 rfl (lv_at hl 0 rfl) ?_
            refine lv_iload_n hx hb dL_areReplacedSo_143 rfl (lv_at hl 1 rfl) ?_
            refine lv_iload hx hb dL_areReplacedSo_144 (lv_at hl 5 rfl) ?_
            refine jv_bipush hx hb dL_areReplacedSo_146 (by decide) ?_
            refine jv_idiv hx hb dL_areReplacedSo_148 (by omega) (by omega) (by omega) (by omega) ?_
            refine lv_iload hx hb dL_areReplacedSo_149 (lv_at hl 5 rfl) ?_
            refine jv_bipush hx hb dL_areReplacedSo_151 (by decide) ?_
            refine jv_irem hx hb dL_areReplacedSo_153 (by omega) (by omega) (by omega) (by omega) ?_
            refine kV ⟨hx, hb, hml, hown, hts⟩ hK hA hS hP hD [.int (jz z), .int (jz (fo / 10)), .int (jz (fo % 10))] [] (mX8_replace_0_k l G x st sv bu di se wy ta tt rp t0 t1 al a0 n0 g0 a1 n1 g1 sa od sz f ph kp z (fo / 10) (fo % 10) (by omega) (by omega) (by omega) (by omega) (by omega) (by omega) (by exact hf) (by omega) (by omega) (by omega) (by omega) (by omega)) lkL_27 [0, 1, 2, 3, 10, 11] [4, 5, 6, 7, 8, 9] (br := [bGrid G di db h1, bRep G rp q q2 ct ot, bGrid G q b c1, bGrid G q2 b2 c2, bText G ct ca n0 c3, bText G ot oa n1 c4]) rfl rfl (by decide) 0 8 rfl rfl rfl rfl (Nat.le_of_ble_eq_true rfl) hl.1 dL_areReplacedSo_154 ⟨Nat.le_of_ble_eq_true rfl, Nat.le_of_ble_eq_true rfl⟩ ⟨Nat.le_of_ble_eq_true rfl, Nat.le_of_ble_eq_true rfl⟩ (fun u9 H locs hp9 hP hD hS => ?_)
            obtain ⟨u_10, u_11, u_12, u_13, u_14⟩ := u9
            have ha_15 : (sz < 6 → u_10 = od ∧ u_11 = sz + 1) ∧ (sz = 6 → u_10 = (od + 1) % 6 ∧ u_11 = 6) := hp9.1
            have hb_16 : (u_14 = kp ∨ u_14 = kp + 1) ∧ (u_14 : Int) ≤ 6 ∧ u_11 ≤ u_14 ∧ (u_10 = 0 ∨ u_14 = 6) := hp9.2.1
            have hf_17 : ∀ z8 : Int, 0 ≤ z8 → z8 < 6 → u_12 z8 = if z8 < u_14 then some (u_13 z8.toNat).1.1 else none := hp9.2.2.1
            have hp_18 : ∀ i8 : Nat, (i8 : Int) ≠ (u_10 + (u_11 - 1)) % 6 → i8 < kp → u_13 i8 = ph i8 := hp9.2.2.2.1
            have hq_19 : (u_13 ((u_10 + (u_11 - 1)) % 6).toNat).2.1 = (al, n0, n1) := hp9.2.2.2.2.1
            have hr_20 : ∀ j : Int, 0 ≤ j → j < n0 → (u_13 ((u_10 + (u_11 - 1)) % 6).toNat).2.2.1 j = g0 j := hp9.2.2.2.2.2.1
            have hs_21 : ∀ j : Int, 0 ≤ j → j < n1 → (u_13 ((u_10 + (u_11 - 1)) % 6).toNat).2.2.2 j = g1 j := hp9.2.2.2.2.2.2
            have hP : wP G [bGrid G di db h1, bRep G rp q q2 ct ot, bGrid G q b c1, bGrid G q2 b2 c2, bText G ct ca n0 c3, bText G ot oa n1 c4, bBD G x st sv bu di se wy ta tt rp, bState G st t0 t1 al, bText G t0 a0 n0 (up g0 (fo / 10) (fo % 10)), bText G t1 a1 n1 g1, bSaved G sv sa u_10 u_11 u_12, bPool G u_13 u_14] H := hP
            have hD : wD A [bGrid G di db h1, bRep G rp q q2 ct ot, bGrid G q b c1, bGrid G q2 b2 c2, bText G ct ca n0 c3, bText G ot oa n1 c4, bBD G x st sv bu di se wy ta tt rp, bState G st t0 t1 al, bText G t0 a0 n0 (up g0 (fo / 10) (fo % 10)), bText G t1 a1 n1 g1, bSaved G sv sa u_10 u_11 u_12, bPool G u_13 u_14] := hD
            show W p l e rmL_areReplacedSo_0 s m args below meth c H locs 5 47 Q (F0 m 157 ls [.int (jz (g0 (fo / 10)))])
            have hv1 := sv_save hSV.1 ha_15 hb_16 hf_17 hp_18 hq_19 hr_20 hs_21
            have hg4 := upF_b3 (a := g0) (n := n0) (i := fo / 10) (v := fo % 10) (al := 4) (lt3_4 hg0) (by omega)
            obtain ⟨hs2, ho2, hkp2, hk22, hf2⟩ := hv1.1
            have hgw := hg0 (fo / 10) (by omega) (by omega)
            refine lv_istore (lv' := [(8, .int (jz (g0 (fo / 10)))), (0, .ref x), (1, .int (jz z)), (2, .int (jz al)), (3, .int (jz (bst0 al n0 n1 g0 g1))), (4, .int (jz n0)), (5, .int (jz fo)), (6, .int (jz lst)), (7, .int (jz 1))]) hx hb dL_areReplacedSo_157 hl (by decide) rfl (fun ls hl => ?_)
            refine lv_iload hx hb dL_areReplacedSo_159 (lv_at hl 8 rfl) ?_
            refine jv_if_eq (tgt := 199) hx hb dL_areReplacedSo_161 (by decide) (by omega) (fun c_22 => ?_) (fun c_22 => ?_)
            · exfalso; omega
            · refine lv_aload_n hx hb dL_areReplacedSo_164 rfl (lv_at hl 1 rfl) ?_
              refine kV ⟨hx, hb, hml, hown, hts⟩ hK hA hS hP hD [] [] (mX8_distance l G x st sv bu di se wy ta tt rp t0 t1 al a0 n0 (up g0 (fo / 10) (fo % 10)) a1 n1 g1 db h1 (by omega) (by omega) (by exact hg4) (by exact lt3_4 hg1)) lkL_61 [6, 7, 8, 9, 0] [1, 2, 3, 4, 5, 10, 11] (br := [bRep G rp q q2 ct ot, bGrid G q b c1, bGrid G q2 b2 c2, bText G ct ca n0 c3, bText G ot oa n1 c4, bSaved G sv sa u_10 u_11 u_12, bPool G u_13 u_14]) rfl rfl (by decide) 0 8 rfl rfl rfl rfl (Nat.le_of_ble_eq_true rfl) hl.1 dL_areReplacedSo_165 ⟨Nat.le_of_ble_eq_true rfl, Nat.le_of_ble_eq_true rfl⟩ ⟨Nat.le_of_ble_eq_true rfl, Nat.le_of_ble_eq_true rfl⟩ (fun u9 H locs hp9 hP hD hS => ?_)
              obtain ⟨u_23, rfl⟩ : ∃ z, z = u9 := ⟨_, rfl⟩
              have hP : wP G [bRep G rp q q2 ct ot, bGrid G q b c1, bGrid G q2 b2 c2, bText G ct ca n0 c3, bText G ot oa n1 c4, bSaved G sv sa u_10 u_11 u_12, bPool G u_13 u_14, bBD G x st sv bu di se wy ta tt rp, bState G st t0 t1 al, bText G t0 a0 n0 (up g0 (fo / 10) (fo % 10)), bText G t1 a1 n1 g1, bGrid G di db u_23] H := hP
              have hD : wD A [bRep G rp q q2 ct ot, bGrid G q b c1, bGrid G q2 b2 c2, bText G ct ca n0 c3, bText G ot oa n1 c4, bSaved G sv sa u_10 u_11 u_12, bPool G u_13 u_14, bBD G x st sv bu di se wy ta tt rp, bState G st t0 t1 al, bText G t0 a0 n0 (up g0 (fo / 10) (fo % 10)), bText G t1 a1 n1 g1, bGrid G di db u_23] := hD
              have hP : wP G [bRep G rp q q2 ct ot, bGrid G q b c1, bGrid G q2 b2 c2, bText G ct ca n0 c3, bText G ot oa n1 c4, bSaved G sv sa u_10 u_11 u_12, bBD G x st sv bu di se wy ta tt rp, bState G st t0 t1 al, bText G t0 a0 n0 (up g0 (fo / 10) (fo % 10)), bText G t1 a1 n1 g1, bGrid G di db u_23, bPool G u_13 u_14] H := wP_sub hP [0, 1, 2, 3, 4, 5, 7, 8, 9, 10, 11, 6] rfl
              have hD : wD A [bRep G rp q q2 ct ot, bGrid G q b c1, bGrid G q2 b2 c2, bText G ct ca n0 c3, bText G ot oa n1 c4, bSaved G sv sa u_10 u_11 u_12, bBD G x st sv bu di se wy ta tt rp, bState G st t0 t1 al, bText G t0 a0 n0 (up g0 (fo / 10) (fo % 10)), bText G t1 a1 n1 g1, bGrid G di db u_23, bPool G u_13 u_14] := wD_sub hD [0, 1, 2, 3, 4, 5, 7, 8, 9, 10, 11, 6] (by decide) rfl
              show W p l e rmL_areReplacedSo_0 s m args below meth c H locs 5 47 Q (F0 m 168 ls [.int (jz (D 1 (up g0 (fo / 10) (fo % 10)) g1 n0 n1))])
              refine lv_iload hx hb dL_areReplacedSo_168 (lv_at hl 7 rfl) ?_
              refine jv_icmp_ne (tgt := 199) hx hb dL_areReplacedSo_170 (by decide) (by omega) (by omega) (fun c_24 => ?_) (fun c_24 => ?_)
              · exfalso; omega
              · refine lv_iload hx hb dL_areReplacedSo_173 (lv_at hl 0 rfl) ?_
                refine lv_aload_n hx hb dL_areReplacedSo_175 rfl (lv_at hl 1 rfl) ?_
                refine lv_iload_n hx hb dL_areReplacedSo_176 rfl (lv_at hl 2 rfl) ?_
                refine lv_iload hx hb dL_areReplacedSo_177 (lv_at hl 6 rfl) ?_
                refine jv_bipush hx hb dL_areReplacedSo_179 (by decide) ?_
                refine jv_idiv hx hb dL_areReplacedSo_181 (by omega) (by omega) (by omega) (by omega) ?_
                refine lv_iload hx hb dL_areReplacedSo_182 (lv_at hl 0 rfl) ?_
                refine kV ⟨hx, hb, hml, hown, hts⟩ hK hA hS hP hD [.int (jz z), .int (jz (fo / 10)), .int (jz (g0 (fo / 10)))] [.int (jz (g0 (fo / 10)))] (mX8_replace_0_k l G x st sv bu di se wy ta tt rp t0 t1 al a0 n0 (up g0 (fo / 10) (fo % 10)) a1 n1 g1 sa u_10 u_11 u_12 u_13 u_14 z (fo / 10) (g0 (fo / 10)) (by omega) (by omega) (by omega) (by omega) (by omega) (by omega) (by exact hf2) (by omega) (by omega) (by omega) (by omega) (by omega)) lkL_27 [6, 7, 8, 9, 5, 11] [0, 1, 2, 3, 4, 10] (br := [bRep G rp q q2 ct ot, bGrid G q b c1, bGrid G q2 b2 c2, bText G ct ca n0 c3, bText G ot oa n1 c4, bGrid G di db u_23]) rfl rfl (by decide) 0 8 rfl rfl rfl rfl (Nat.le_of_ble_eq_true rfl) hl.1 dL_areReplacedSo_184 ⟨Nat.le_of_ble_eq_true rfl, Nat.le_of_ble_eq_true rfl⟩ ⟨Nat.le_of_ble_eq_true rfl, Nat.le_of_ble_eq_true rfl⟩ (fun u9 H locs hp9 hP hD hS => ?_)
                obtain ⟨u_25, u_26, u_27, u_28, u_29⟩ := u9
                have ha_30 : (u_11 < 6 → u_25 = u_10 ∧ u_26 = u_11 + 1) ∧ (u_11 = 6 → u_25 = (u_10 + 1) % 6 ∧ u_26 = 6) := hp9.1
                have hb_31 : (u_29 = u_14 ∨ u_29 = u_14 + 1) ∧ (u_29 : Int) ≤ 6 ∧ u_26 ≤ u_29 ∧ (u_25 = 0 ∨ u_29 = 6) := hp9.2.1
                have hf_32 : ∀ z8 : Int, 0 ≤ z8 → z8 < 6 → u_27 z8 = if z8 < u_29 then some (u_28 z8.toNat).1.1 else none := hp9.2.2.1
                have hp_33 : ∀ i8 : Nat, (i8 : Int) ≠ (u_25 + (u_26 - 1)) % 6 → i8 < u_14 → u_28 i8 = u_13 i8 := hp9.2.2.2.1
                have hq_34 : (u_28 ((u_25 + (u_26 - 1)) % 6).toNat).2.1 = (al, n0, n1) := hp9.2.2.2.2.1
                have hr_35 : ∀ j : Int, 0 ≤ j → j < n0 → (u_28 ((u_25 + (u_26 - 1)) % 6).toNat).2.2.1 j = (up g0 (fo / 10) (fo % 10)) j := hp9.2.2.2.2.2.1
                have hs_36 : ∀ j : Int, 0 ≤ j → j < n1 → (u_28 ((u_25 + (u_26 - 1)) % 6).toNat).2.2.2 j = g1 j := hp9.2.2.2.2.2.2
                have hP : wP G [bRep G rp q q2 ct ot, bGrid G q b c1, bGrid G q2 b2 c2, bText G ct ca n0 c3, bText G ot oa n1 c4, bGrid G di db u_23, bBD G x st sv bu di se wy ta tt rp, bState G st t0 t1 al, bText G t0 a0 n0 (up (up g0 (fo / 10) (fo % 10)) (fo / 10) (g0 (fo / 10))), bText G t1 a1 n1 g1, bSaved G sv sa u_25 u_26 u_27, bPool G u_28 u_29] H := hP
                have hD : wD A [bRep G rp q q2 ct ot, bGrid G q b c1, bGrid G q2 b2 c2, bText G ct ca n0 c3, bText G ot oa n1 c4, bGrid G di db u_23, bBD G x st sv bu di se wy ta tt rp, bState G st t0 t1 al, bText G t0 a0 n0 (up (up g0 (fo / 10) (fo % 10)) (fo / 10) (g0 (fo / 10))), bText G t1 a1 n1 g1, bSaved G sv sa u_25 u_26 u_27, bPool G u_28 u_29] := hD
                show W p l e rmL_areReplacedSo_0 s m args below meth c H locs 10 94 Q (F0 m 187 ls [.int (jz ((up g0 (fo / 10) (fo % 10)) (fo / 10))), .int (jz (g0 (fo / 10)))])
                have hv2 := sv_save hv1.1 ha_30 hb_31 hf_32 hp_33 hq_34 hr_35 hs_36
                obtain ⟨hs3, ho3, hkp3, hk23, hf3⟩ := hv2.1
                obtain ⟨t2a, t2b, t2c, t2d, t2e, t2f⟩ := SV_two hSV hv1 hv2
                refine jv_iconst hx hb dL_areReplacedSo_187 ?_
                refine jv_imul hx hb dL_areReplacedSo_188 ?_
                refine lv_iload hx hb dL_areReplacedSo_189 (lv_at hl 0 rfl) ?_
                refine jv_iadd hx hb dL_areReplacedSo_191 ?_
                refine jv_icmp_ne (tgt := 199) hx hb dL_areReplacedSo_192 (by decide) (by omega) (by omega) (fun c_37 => ?_) (fun c_37 => ?_)
                · exfalso; omega
                · refine jv_iconst hx hb dL_areReplacedSo_195 ?_
                  refine lv_goto (tgt := 200) hx hb dL_areReplacedSo_196 (by decide) ?_
                  refine lv_istore (lv' := [(7, .int (jz 1)), (8, .int (jz (g0 (fo / 10)))), (0, .ref x), (1, .int (jz z)), (2, .int (jz al)), (3, .int (jz (bst0 al n0 n1 g0 g1))), (4, .int (jz n0)), (5, .int (jz fo)), (6, .int (jz lst))]) hx hb dL_areReplacedSo_200 hl (by decide) rfl (fun ls hl => ?_)
                  refine lv_aload_n hx hb dL_areReplacedSo_202 rfl (lv_at hl 2 rfl) ?_
                  refine kV ⟨hx, hb, hml, hown, hts⟩ hK hA hS hP hD [] [] (mX8_undo_k l G x st sv bu di se wy ta tt rp t0 t1 al a0 n0 (up (up g0 (fo / 10) (fo % 10)) (fo / 10) (g0 (fo / 10))) a1 n1 g1 sa u_25 u_26 u_27 u_28 u_29 (((u_25 + (u_26 - 1)) % 6).toNat) (by omega) (by omega) (by omega) (by omega) (by exact hf3) (by rfl) (by intro _; rw [t2c]; exact ⟨hn0, hn1⟩) (by omega)) lkL_40 [6, 7, 8, 9, 10, 11] [0, 1, 2, 3, 4, 5] (br := [bRep G rp q q2 ct ot, bGrid G q b c1, bGrid G q2 b2 c2, bText G ct ca n0 c3, bText G ot oa n1 c4, bGrid G di db u_23]) rfl rfl (by decide) 0 8 rfl rfl rfl rfl (Nat.le_of_ble_eq_true rfl) hl.1 dL_areReplacedSo_203 ⟨Nat.le_of_ble_eq_true rfl, Nat.le_of_ble_eq_true rfl⟩ ⟨Nat.le_of_ble_eq_true rfl, Nat.le_of_ble_eq_true rfl⟩ (fun u9 H locs hp9 hP hD hS => ?_)
                  obtain ⟨u_38, u_39⟩ := u9
                  have hc_40 : ∀ j : Int, 0 ≤ j → j < (u_28 (((u_25 + (u_26 - 1)) % 6).toNat)).2.1.2.1 → u_38 j = (u_28 (((u_25 + (u_26 - 1)) % 6).toNat)).2.2.1 j := hp9.1
                  have hd_41 : ∀ j : Int, 0 ≤ j → j < (u_28 (((u_25 + (u_26 - 1)) % 6).toNat)).2.1.2.2 → u_39 j = (u_28 (((u_25 + (u_26 - 1)) % 6).toNat)).2.2.2 j := hp9.2
                  have hP : wP G [bRep G rp q q2 ct ot, bGrid G q b c1, bGrid G q2 b2 c2, bText G ct ca n0 c3, bText G ot oa n1 c4, bGrid G di db u_23, bBD G x st sv bu di se wy ta tt rp, bState G st t0 t1 ((u_28 (((u_25 + (u_26 - 1)) % 6).toNat)).2.1.1), bText G t0 a0 ((u_28 (((u_25 + (u_26 - 1)) % 6).toNat)).2.1.2.1) u_38, bText G t1 a1 ((u_28 (((u_25 + (u_26 - 1)) % 6).toNat)).2.1.2.2) u_39, bSaved G sv sa u_25 (u_26 - 1) u_27, bPool G u_28 u_29] H := hP
                  have hD : wD A [bRep G rp q q2 ct ot, bGrid G q b c1, bGrid G q2 b2 c2, bText G ct ca n0 c3, bText G ot oa n1 c4, bGrid G di db u_23, bBD G x st sv bu di se wy ta tt rp, bState G st t0 t1 ((u_28 (((u_25 + (u_26 - 1)) % 6).toNat)).2.1.1), bText G t0 a0 ((u_28 (((u_25 + (u_26 - 1)) % 6).toNat)).2.1.2.1) u_38, bText G t1 a1 ((u_28 (((u_25 + (u_26 - 1)) % 6).toNat)).2.1.2.2) u_39, bSaved G sv sa u_25 (u_26 - 1) u_27, bPool G u_28 u_29] := hD
                  show W p l e rmL_areReplacedSo_0 s m args below meth c H locs 10 94 Q (F0 m 206 ls [.int (jz (u_26 - 1))])
                  have hsu := sv_undo hv2.1 (by omega)
                  refine lv_istore (lv' := [(9, .int (jz (u_26 - 1))), (7, .int (jz 1)), (8, .int (jz (g0 (fo / 10)))), (0, .ref x), (1, .int (jz z)), (2, .int (jz al)), (3, .int (jz (bst0 al n0 n1 g0 g1))), (4, .int (jz n0)), (5, .int (jz fo)), (6, .int (jz lst))]) hx hb dL_areReplacedSo_206 hl (by decide) rfl (fun ls hl => ?_)
                  refine lv_aload_n hx hb dL_areReplacedSo_208 rfl (lv_at hl 3 rfl) ?_
                  refine kV ⟨hx, hb, hml, hown, hts⟩ hK hA hS hP hD [] [] (mX8_undo_k l G x st sv bu di se wy ta tt rp t0 t1 ((u_28 (((u_25 + (u_26 - 1)) % 6).toNat)).2.1.1) a0 ((u_28 (((u_25 + (u_26 - 1)) % 6).toNat)).2.1.2.1) u_38 a1 ((u_28 (((u_25 + (u_26 - 1)) % 6).toNat)).2.1.2.2) u_39 sa u_25 (u_26 - 1) u_27 u_28 u_29 (((u_25 + (u_26 - 1 - 1)) % 6).toNat) (by omega) (by omega) (by omega) (by omega) (by exact hf3) (by rfl) (by intro _; rw [t2d]; exact ⟨hn0, hn1⟩) (by omega)) lkL_40 [6, 7, 8, 9, 10, 11] [0, 1, 2, 3, 4, 5] (br := [bRep G rp q q2 ct ot, bGrid G q b c1, bGrid G q2 b2 c2, bText G ct ca n0 c3, bText G ot oa n1 c4, bGrid G di db u_23]) rfl rfl (by decide) 0 8 rfl rfl rfl rfl (Nat.le_of_ble_eq_true rfl) hl.1 dL_areReplacedSo_209 ⟨Nat.le_of_ble_eq_true rfl, Nat.le_of_ble_eq_true rfl⟩ ⟨Nat.le_of_ble_eq_true rfl, Nat.le_of_ble_eq_true rfl⟩ (fun u9 H locs hp9 hP hD hS => ?_)
                  obtain ⟨u_42, u_43⟩ := u9
                  have hc_44 : ∀ j : Int, 0 ≤ j → j < (u_28 (((u_25 + (u_26 - 1 - 1)) % 6).toNat)).2.1.2.1 → u_42 j = (u_28 (((u_25 + (u_26 - 1 - 1)) % 6).toNat)).2.2.1 j := hp9.1
                  have hd_45 : ∀ j : Int, 0 ≤ j → j < (u_28 (((u_25 + (u_26 - 1 - 1)) % 6).toNat)).2.1.2.2 → u_43 j = (u_28 (((u_25 + (u_26 - 1 - 1)) % 6).toNat)).2.2.2 j := hp9.2
                  have hP : wP G [bRep G rp q q2 ct ot, bGrid G q b c1, bGrid G q2 b2 c2, bText G ct ca n0 c3, bText G ot oa n1 c4, bGrid G di db u_23, bBD G x st sv bu di se wy ta tt rp, bState G st t0 t1 ((u_28 (((u_25 + (u_26 - 1 - 1)) % 6).toNat)).2.1.1), bText G t0 a0 ((u_28 (((u_25 + (u_26 - 1 - 1)) % 6).toNat)).2.1.2.1) u_42, bText G t1 a1 ((u_28 (((u_25 + (u_26 - 1 - 1)) % 6).toNat)).2.1.2.2) u_43, bSaved G sv sa u_25 ((u_26 - 1) - 1) u_27, bPool G u_28 u_29] H := hP
                  have hD : wD A [bRep G rp q q2 ct ot, bGrid G q b c1, bGrid G q2 b2 c2, bText G ct ca n0 c3, bText G ot oa n1 c4, bGrid G di db u_23, bBD G x st sv bu di se wy ta tt rp, bState G st t0 t1 ((u_28 (((u_25 + (u_26 - 1 - 1)) % 6).toNat)).2.1.1), bText G t0 a0 ((u_28 (((u_25 + (u_26 - 1 - 1)) % 6).toNat)).2.1.2.1) u_42, bText G t1 a1 ((u_28 (((u_25 + (u_26 - 1 - 1)) % 6).toNat)).2.1.2.2) u_43, bSaved G sv sa u_25 ((u_26 - 1) - 1) u_27, bPool G u_28 u_29] := hD
                  show W p l e rmL_areReplacedSo_0 s m args below meth c H locs 10 94 Q (F0 m 212 ls [.int (jz ((u_26 - 1) - 1))])
                  have hu0 := hc_44
                  have hu1 := hd_45
                  have e9a : (u_28 ((u_25 + (u_26 - 1 - 1)) % 6).toNat).2.1.1 = al := congrArg (fun y => y.1) t2d
                  have e9b : (u_28 ((u_25 + (u_26 - 1 - 1)) % 6).toNat).2.1.2.1 = n0 := congrArg (fun y => y.2.1) t2d
                  have e9c : (u_28 ((u_25 + (u_26 - 1 - 1)) % 6).toNat).2.1.2.2 = n1 := congrArg (fun y => y.2.2) t2d
                  refine lv_istore (lv' := [(9, .int (jz ((u_26 - 1) - 1))), (7, .int (jz 1)), (8, .int (jz (g0 (fo / 10)))), (0, .ref x), (1, .int (jz z)), (2, .int (jz al)), (3, .int (jz (bst0 al n0 n1 g0 g1))), (4, .int (jz n0)), (5, .int (jz fo)), (6, .int (jz lst))]) hx hb dL_areReplacedSo_212 hl (by decide) rfl (fun ls hl => ?_)
                  refine lv_iload hx hb dL_areReplacedSo_214 (lv_at hl 1 rfl) ?_
                  refine jv_if_eq (tgt := 228) hx hb dL_areReplacedSo_216 (by decide) (by omega) (fun c_46 => ?_) (fun c_46 => ?_)
                  · exfalso; omega
                  · refine lv_iload hx hb dL_areReplacedSo_219 (lv_at hl 0 rfl) ?_
                    refine jv_if_lt (tgt := 228) hx hb dL_areReplacedSo_221 (by decide) (by omega) (fun c_47 => ?_) (fun c_47 => ?_)
                    · exfalso; omega
                    · refine jv_iconst hx hb dL_areReplacedSo_224 ?_
                      refine lv_goto (tgt := 229) hx hb dL_areReplacedSo_225 (by decide) ?_
                      refine lv_istore (lv' := [(7, .int (jz 1)), (9, .int (jz ((u_26 - 1) - 1))), (8, .int (jz (g0 (fo / 10)))), (0, .ref x), (1, .int (jz z)), (2, .int (jz al)), (3, .int (jz (bst0 al n0 n1 g0 g1))), (4, .int (jz n0)), (5, .int (jz fo)), (6, .int (jz lst))]) hx hb dL_areReplacedSo_229 hl (by decide) rfl (fun ls hl => ?_)
                      refine lv_iload hx hb dL_areReplacedSo_231 (lv_at hl 0 rfl) ?_
                      refine jv_if_eq (tgt := 246) hx hb dL_areReplacedSo_233 (by decide) (by omega) (fun c_48 => ?_) (fun c_48 => ?_)
                      · exfalso; omega
                      · refine lv_iload_n hx hb dL_areReplacedSo_236 rfl (lv_at hl 6 rfl) ?_
                        refine lv_iload hx hb dL_areReplacedSo_237 (lv_at hl 8 rfl) ?_
                        refine jv_icmp_ne (tgt := 246) hx hb dL_areReplacedSo_239 (by decide) (by omega) (by omega) (fun c_49 => ?_) (fun c_49 => ?_)
                        · exfalso; omega
                        · refine jv_iconst hx hb dL_areReplacedSo_242 ?_
                          refine lv_goto (tgt := 247) hx hb dL_areReplacedSo_243 (by decide) ?_
                          exact cret_i hx hb hr hlocks hS hP hD (Nat.le_of_ble_eq_true rfl) (Nat.le_of_ble_eq_true rfl) (jz_nb (show 1 = 0 ∨ 1 = 1 by omega)) dL_areReplacedSo_247 [6, 7, 8, 9, 5, 0, 1, 2, 3, 4, 10, 11] (by decide) ⟨u_23, (u_28 (((u_25 + (u_26 - 1 - 1)) % 6).toNat)).2.1.1, (u_28 (((u_25 + (u_26 - 1 - 1)) % 6).toNat)).2.1.2.1, u_42, (u_28 (((u_25 + (u_26 - 1 - 1)) % 6).toNat)).2.1.2.2, u_43, c1, c2, c3, c4, u_25, (u_26 - 1) - 1, u_27, u_28, u_29⟩ rfl (show (((u_28 (((u_25 + (u_26 - 1 - 1)) % 6).toNat)).2.1.1) = al ∧ ((u_28 (((u_25 + (u_26 - 1 - 1)) % 6).toNat)).2.1.2.1) = n0 ∧ ((u_28 (((u_25 + (u_26 - 1 - 1)) % 6).toNat)).2.1.2.2) = n1) ∧ (∀ j : Int, 0 ≤ j → j < n0 → 0 ≤ u_42 j ∧ u_42 j < 3) ∧ (∀ j : Int, 0 ≤ j → j < n1 → 0 ≤ u_43 j ∧ u_43 j < 3) ∧ SV u_25 ((u_26 - 1) - 1) u_27 u_28 u_29 from by exact ⟨⟨e9a, e9b, e9c⟩, fun j q1 q2 => by rw [hu0 j q1 (by rw [e9b]; exact q2), t2e j q1 q2]; exact hg0 j q1 q2, fun j q1 q2 => by rw [hu1 j q1 (by rw [e9c]; exact q2), t2f j q1 q2]; exact hg1 j q1 q2, t2b⟩) (congrArg (fun z : Int => some (Value.int (jz z))) (show 1 = 1 from by first | rfl | omega | (split <;> first | rfl | omega | (exfalso; omega)))) hQ
        · refine jv_iconst hx hb dL_areReplacedSo_33 ?_
          refine lv_istore (lv' := [(9, .int (jz 0)), (0, .ref x), (1, .int (jz z)), (2, .int (jz al)), (3, .int (jz (bst0 al n0 n1 g0 g1))), (4, .int (jz n0)), (5, .int (jz fo)), (6, .int (jz lst)), (7, .int (jz 1)), (8, .int (jz kk))]) hx hb dL_areReplacedSo_34 hl (by decide) rfl (fun ls hl => ?_)
          have K36 : ∀ (n9 : Nat) (h2 : Int → Int) (d1 : Int → Int) (d2 : Int → Int) (d3 : Int → Int) (d4 : Int → Int) (fo : Int) (lst : Int) (le : Int) , ((al - le).toNat) < n9 → (0 ≤ le ∧ le ≤ al) → (lRel (fun i v => D 1 (up g0 i v) g1 n0 n1) al n0 fo lst (bLet (fun i v => D 1 (up g0 i v) g1 n0 n1) kk le.toNat (bAll (fun i v => D 1 (up g0 i v) g1 n0 n1) al kk.toNat))) → ∀ (H : Heap) (locs : List Loc) (ls : Array Slot), wP G [bBD G x st sv bu di se wy ta tt rp, bState G st t0 t1 al, bText G t0 a0 n0 g0, bText G t1 a1 n1 g1, bGrid G di db h2, bRep G rp q q2 ct ot, bGrid G q b d1, bGrid G q2 b2 d2, bText G ct ca n0 d3, bText G ot oa n1 d4, bSaved G sv sa od sz f, bPool G ph kp] H → wD A [bBD G x st sv bu di se wy ta tt rp, bState G st t0 t1 al, bText G t0 a0 n0 g0, bText G t1 a1 n1 g1, bGrid G di db h2, bRep G rp q q2 ct ot, bGrid G q b d1, bGrid G q2 b2 d2, bText G ct ca n0 d3, bText G ot oa n1 d4, bSaved G sv sa od sz f, bPool G ph kp] → va_S A s.heap H locs → lv_has ls 12 [(0, .ref x), (1, .int (jz z)), (2, .int (jz al)), (3, .int (jz (bst0 al n0 n1 g0 g1))), (4, .int (jz n0)), (5, .int (jz fo)), (6, .int (jz lst)), (7, .int (jz 1)), (8, .int (jz kk)), (9, .int (jz le))] → W p l e rmL_areReplacedSo_0 s m args below meth c H locs 0 0 Q (F0 m 36 ls []) := by
            intro n9
            induction n9 with
            | zero => intro h2 d1 d2 d3 d4 fo lst le hm9; exact absurd hm9 (Nat.not_lt_zero _)
            | succ n9 ih36 =>
              intro h2 d1 d2 d3 d4 fo lst le hm9 hle hR8 H locs ls hP hD hS hl
              have hlb8 := lRel_bd hR8 (by omega) (by omega)
              have hFb := FR_bd g0 g1 (k := kk) (v := le) (i := n0) (j := n1) (m := n0) (n := n1) rfl rfl hn0 hn1
              refine lv_iload hx hb dL_areReplacedSo_36 (lv_at hl 9 rfl) ?_
              refine lv_iload_n hx hb dL_areReplacedSo_38 rfl (lv_at hl 2 rfl) ?_
              refine jv_icmp_ge (tgt := 131) hx hb dL_areReplacedSo_39 (by decide) (by omega) (by omega) (fun c_50 => ?_) (fun c_50 => ?_)
              · refine jv_iinc (lv' := [(8, .int (jz (kk + 1))), (0, .ref x), (1, .int (jz z)), (2, .int (jz al)), (3, .int (jz (bst0 al n0 n1 g0 g1))), (4, .int (jz n0)), (5, .int (jz fo)), (6, .int (jz lst)), (7, .int (jz 1)), (9, .int (jz le))]) (k := 8) hx hb dL_areReplacedSo_131 hl rfl (by decide) rfl (fun ls hl => ?_)
                refine lv_goto (tgt := 26) hx hb dL_areReplacedSo_134 (by decide) ?_
                exact ih26 h2 d1 d2 d3 d4 fo lst (kk + 1) (by omega) (by omega) (by rw [bAll_s _ _ (by omega), show al = le by omega]; rw [show al = le by omega] at hR8; exact hR8) H _ _ hP hD hS (lv_sub hl [1, 2, 3, 4, 5, 6, 7, 8, 0] rfl)
              · refine lv_aload_n hx hb dL_areReplacedSo_42 rfl (lv_at hl 0 rfl) ?_
                refine lv_iload_n hx hb dL_areReplacedSo_43 rfl (lv_at hl 1 rfl) ?_
                refine lv_iload hx hb dL_areReplacedSo_44 (lv_at hl 8 rfl) ?_
                refine lv_iload hx hb dL_areReplacedSo_46 (lv_at hl 9 rfl) ?_
                refine kV ⟨hx, hb, hml, hown, hts⟩ hK hA hS hP hD [.int (jz z), .int (jz kk), .int (jz le)] [] (mX8_ifReplaced_0_k l G x st sv bu di se wy ta tt rp t0 t1 al a0 n0 g0 a1 n1 g1 q q2 ct ot b d1 b2 d2 ca n0 d3 oa n1 d4 z kk le (by omega) (by omega) (by exact lt3_4 hg0) (by exact lt3_4 hg1) (by omega) (by omega) (by omega) (by omega) (by omega)) lkL_104 [0, 1, 2, 3, 5, 6, 7, 8, 9] [4, 10, 11] (br := [bGrid G di db h2, bSaved G sv sa od sz f, bPool G ph kp]) rfl rfl (by decide) 0 8 rfl rfl rfl rfl (Nat.le_of_ble_eq_true rfl) hl.1 dL_areReplacedSo_48 ⟨Nat.le_of_ble_eq_true rfl, Nat.le_of_ble_eq_true rfl⟩ ⟨Nat.le_of_ble_eq_true rfl, Nat.le_of_ble_eq_true rfl⟩ (fun u9 H locs hp9 hP hD hS => ?_)
                obtain ⟨u_51, u_52, u_53, u_54⟩ := u9
                have hP : wP G [bGrid G di db h2, bSaved G sv sa od sz f, bPool G ph kp, bBD G x st sv bu di se wy ta tt rp, bState G st t0 t1 al, bText G t0 a0 n0 g0, bText G t1 a1 n1 g1, bRep G rp q q2 ct ot, bGrid G q b u_51, bGrid G q2 b2 u_52, bText G ct ca n0 u_53, bText G ot oa n1 u_54] H := hP
                have hD : wD A [bGrid G di db h2, bSaved G sv sa od sz f, bPool G ph kp, bBD G x st sv bu di se wy ta tt rp, bState G st t0 t1 al, bText G t0 a0 n0 g0, bText G t1 a1 n1 g1, bRep G rp q q2 ct ot, bGrid G q b u_51, bGrid G q2 b2 u_52, bText G ct ca n0 u_53, bText G ot oa n1 u_54] := hD
                have hP : wP G [bGrid G di db h2, bSaved G sv sa od sz f, bBD G x st sv bu di se wy ta tt rp, bState G st t0 t1 al, bText G t0 a0 n0 g0, bText G t1 a1 n1 g1, bRep G rp q q2 ct ot, bGrid G q b u_51, bGrid G q2 b2 u_52, bText G ct ca n0 u_53, bText G ot oa n1 u_54, bPool G ph kp] H := wP_sub hP [0, 1, 3, 4, 5, 6, 7, 8, 9, 10, 11, 2] rfl
                have hD : wD A [bGrid G di db h2, bSaved G sv sa od sz f, bBD G x st sv bu di se wy ta tt rp, bState G st t0 t1 al, bText G t0 a0 n0 g0, bText G t1 a1 n1 g1, bRep G rp q q2 ct ot, bGrid G q b u_51, bGrid G q2 b2 u_52, bText G ct ca n0 u_53, bText G ot oa n1 u_54, bPool G ph kp] := wD_sub hD [0, 1, 3, 4, 5, 6, 7, 8, 9, 10, 11, 2] (by decide) rfl
                show W p l e rmL_areReplacedSo_0 s m args below meth c H locs 0 0 Q (F0 m 51 ls [.int (jz (D 1 (up g0 kk le) g1 n0 n1))])
                refine lv_istore (lv' := [(10, .int (jz (D 1 (up g0 kk le) g1 n0 n1))), (0, .ref x), (1, .int (jz z)), (2, .int (jz al)), (3, .int (jz (bst0 al n0 n1 g0 g1))), (4, .int (jz n0)), (5, .int (jz fo)), (6, .int (jz lst)), (7, .int (jz 1)), (8, .int (jz kk)), (9, .int (jz le))]) hx hb dL_areReplacedSo_51 hl (by decide) rfl (fun ls hl => ?_)
                refine lv_iload hx hb dL_areReplacedSo_53 (lv_at hl 0 rfl) ?_
                refine lv_aload_n hx hb dL_areReplacedSo_55 rfl (lv_at hl 1 rfl) ?_
                refine kV ⟨hx, hb, hml, hown, hts⟩ hK hA hS hP hD [] [.int (jz (D 1 (up g0 kk le) g1 n0 n1))] (mX8_distance l G x st sv bu di se wy ta tt rp t0 t1 al a0 n0 g0 a1 n1 g1 db h2 (by omega) (by omega) (by exact lt3_4 hg0) (by exact lt3_4 hg1)) lkL_61 [2, 3, 4, 5, 0] [1, 6, 7, 8, 9, 10, 11] (br := [bSaved G sv sa od sz f, bRep G rp q q2 ct ot, bGrid G q b u_51, bGrid G q2 b2 u_52, bText G ct ca n0 u_53, bText G ot oa n1 u_54, bPool G ph kp]) rfl rfl (by decide) 0 8 rfl rfl rfl rfl (Nat.le_of_ble_eq_true rfl) hl.1 dL_areReplacedSo_56 ⟨Nat.le_of_ble_eq_true rfl, Nat.le_of_ble_eq_true rfl⟩ ⟨Nat.le_of_ble_eq_true rfl, Nat.le_of_ble_eq_true rfl⟩ (fun u9 H locs hp9 hP hD hS => ?_)
                obtain ⟨u_55, rfl⟩ : ∃ z, z = u9 := ⟨_, rfl⟩
                have hP : wP G [bSaved G sv sa od sz f, bRep G rp q q2 ct ot, bGrid G q b u_51, bGrid G q2 b2 u_52, bText G ct ca n0 u_53, bText G ot oa n1 u_54, bPool G ph kp, bBD G x st sv bu di se wy ta tt rp, bState G st t0 t1 al, bText G t0 a0 n0 g0, bText G t1 a1 n1 g1, bGrid G di db u_55] H := hP
                have hD : wD A [bSaved G sv sa od sz f, bRep G rp q q2 ct ot, bGrid G q b u_51, bGrid G q2 b2 u_52, bText G ct ca n0 u_53, bText G ot oa n1 u_54, bPool G ph kp, bBD G x st sv bu di se wy ta tt rp, bState G st t0 t1 al, bText G t0 a0 n0 g0, bText G t1 a1 n1 g1, bGrid G di db u_55] := hD
                have hP : wP G [bSaved G sv sa od sz f, bRep G rp q q2 ct ot, bGrid G q b u_51, bGrid G q2 b2 u_52, bText G ct ca n0 u_53, bText G ot oa n1 u_54, bBD G x st sv bu di se wy ta tt rp, bState G st t0 t1 al, bText G t0 a0 n0 g0, bText G t1 a1 n1 g1, bGrid G di db u_55, bPool G ph kp] H := wP_sub hP [0, 1, 2, 3, 4, 5, 7, 8, 9, 10, 11, 6] rfl
                have hD : wD A [bSaved G sv sa od sz f, bRep G rp q q2 ct ot, bGrid G q b u_51, bGrid G q2 b2 u_52, bText G ct ca n0 u_53, bText G ot oa n1 u_54, bBD G x st sv bu di se wy ta tt rp, bState G st t0 t1 al, bText G t0 a0 n0 g0, bText G t1 a1 n1 g1, bGrid G di db u_55, bPool G ph kp] := wD_sub hD [0, 1, 2, 3, 4, 5, 7, 8, 9, 10, 11, 6] (by decide) rfl
                show W p l e rmL_areReplacedSo_0 s m args below meth c H locs 0 0 Q (F0 m 59 ls [.int (jz (D 1 g0 g1 n0 n1)), .int (jz (D 1 (up g0 kk le) g1 n0 n1))])
                refine jv_isub hx hb dL_areReplacedSo_59 ?_
                refine lv_istore (lv' := [(11, .int (jz ((D 1 (up g0 kk le) g1 n0 n1) - (D 1 g0 g1 n0 n1)))), (10, .int (jz (D 1 (up g0 kk le) g1 n0 n1))), (0, .ref x), (1, .int (jz z)), (2, .int (jz al)), (3, .int (jz (bst0 al n0 n1 g0 g1))), (4, .int (jz n0)), (5, .int (jz fo)), (6, .int (jz lst)), (7, .int (jz 1)), (8, .int (jz kk)), (9, .int (jz le))]) hx hb dL_areReplacedSo_60 hl (by decide) rfl (fun ls hl => ?_)
                refine lv_iload hx hb dL_areReplacedSo_62 (lv_at hl 9 rfl) ?_
                refine jv_if_eq (tgt := 84) hx hb dL_areReplacedSo_64 (by decide) (by omega) (fun c_56 => ?_) (fun c_56 => ?_)
                · exfalso; omega
                · refine lv_iload hx hb dL_areReplacedSo_67 (lv_at hl 0 rfl) ?_
                  refine jv_iconst hx hb dL_areReplacedSo_69 ?_
                  refine jv_icmp_ge (tgt := 84) hx hb dL_areReplacedSo_70 (by decide) (by omega) (by omega) (fun c_57 => ?_) (fun c_57 => ?_)
                  · exfalso; omega
                  · refine lv_iload hx hb dL_areReplacedSo_73 (lv_at hl 0 rfl) ?_
                    refine jv_bipush hx hb dL_areReplacedSo_75 (by decide) ?_
                    refine jv_icmp_le (tgt := 84) hx hb dL_areReplacedSo_77 (by decide) (by omega) (by omega) (fun c_58 => ?_) (fun c_58 => ?_)
                    · exfalso; omega
                    · refine jv_iconst hx hb dL_areReplacedSo_80 ?_
                      refine lv_goto (tgt := 85) hx hb dL_areReplacedSo_81 (by decide) ?_
                      refine lv_istore (lv' := [(7, .int (jz 1)), (11, .int (jz ((D 1 (up g0 kk le) g1 n0 n1) - (D 1 g0 g1 n0 n1)))), (10, .int (jz (D 1 (up g0 kk le) g1 n0 n1))), (0, .ref x), (1, .int (jz z)), (2, .int (jz al)), (3, .int (jz (bst0 al n0 n1 g0 g1))), (4, .int (jz n0)), (5, .int (jz fo)), (6, .int (jz lst)), (8, .int (jz kk)), (9, .int (jz le))]) hx hb dL_areReplacedSo_85 hl (by decide) rfl (fun ls hl => ?_)
                      refine lv_iload hx hb dL_areReplacedSo_87 (lv_at hl 2 rfl) ?_
                      refine lv_iload hx hb dL_areReplacedSo_89 (lv_at hl 9 rfl) ?_
                      refine jv_icmp_ge (tgt := 105) hx hb dL_areReplacedSo_91 (by decide) (by omega) (by omega) (fun c_59 => ?_) (fun c_59 => ?_)
                      · refine lv_iload hx hb dL_areReplacedSo_105 (lv_at hl 8 rfl) ?_
                        refine lv_istore (lv' := [(5, .int (jz fo)), (7, .int (jz 1)), (11, .int (jz ((D 1 (up g0 kk le) g1 n0 n1) - (D 1 g0 g1 n0 n1)))), (10, .int (jz (D 1 (up g0 kk le) g1 n0 n1))), (0, .ref x), (1, .int (jz z)), (2, .int (jz al)), (3, .int (jz (bst0 al n0 n1 g0 g1))), (4, .int (jz n0)), (6, .int (jz lst)), (8, .int (jz kk)), (9, .int (jz le))]) hx hb dL_areReplacedSo_107 hl (by decide) rfl (fun ls hl => ?_)
                        refine lv_iload hx hb dL_areReplacedSo_109 (lv_at hl 3 rfl) ?_
                        refine lv_iload hx hb dL_areReplacedSo_111 (lv_at hl 9 rfl) ?_
                        refine jv_icmp_ge (tgt := 121) hx hb dL_areReplacedSo_113 (by decide) (by omega) (by omega) (fun c_60 => ?_) (fun c_60 => ?_)
                        · refine lv_iload hx hb dL_areReplacedSo_121 (lv_at hl 9 rfl) ?_
                          refine lv_istore (lv' := [(6, .int (jz lst)), (5, .int (jz fo)), (7, .int (jz 1)), (11, .int (jz ((D 1 (up g0 kk le) g1 n0 n1) - (D 1 g0 g1 n0 n1)))), (10, .int (jz (D 1 (up g0 kk le) g1 n0 n1))), (0, .ref x), (1, .int (jz z)), (2, .int (jz al)), (3, .int (jz (bst0 al n0 n1 g0 g1))), (4, .int (jz n0)), (8, .int (jz kk)), (9, .int (jz le))]) hx hb dL_areReplacedSo_123 hl (by decide) rfl (fun ls hl => ?_)
                          refine jv_iinc (lv' := [(9, .int (jz (le + 1))), (6, .int (jz lst)), (5, .int (jz fo)), (7, .int (jz 1)), (11, .int (jz ((D 1 (up g0 kk le) g1 n0 n1) - (D 1 g0 g1 n0 n1)))), (10, .int (jz (D 1 (up g0 kk le) g1 n0 n1))), (0, .ref x), (1, .int (jz z)), (2, .int (jz al)), (3, .int (jz (bst0 al n0 n1 g0 g1))), (4, .int (jz n0)), (8, .int (jz kk))]) (k := 11) hx hb dL_areReplacedSo_125 hl rfl (by decide) rfl (fun ls hl => ?_)
                          refine lv_goto (tgt := 36) hx hb dL_areReplacedSo_128 (by decide) ?_
                          exact ih36 u_55 u_51 u_52 u_53 u_54 fo lst (le + 1) (by omega) (by omega) (by rw [bLet_s _ _ (by omega)]; first | exact lRel_up hR8 rfl (by omega) (by omega) (by omega) (by omega) (by assumption) | exact lRel_no hR8 (by omega) (by omega) | (exfalso; omega)) H _ _ (wP_sub (bc := [bBD G x st sv bu di se wy ta tt rp, bState G st t0 t1 al, bText G t0 a0 n0 g0, bText G t1 a1 n1 g1, bGrid G di db u_55, bRep G rp q q2 ct ot, bGrid G q b u_51, bGrid G q2 b2 u_52, bText G ct ca n0 u_53, bText G ot oa n1 u_54, bSaved G sv sa od sz f, bPool G ph kp]) hP [6, 7, 8, 9, 10, 1, 2, 3, 4, 5, 0, 11] rfl) (wD_sub (bc := [bBD G x st sv bu di se wy ta tt rp, bState G st t0 t1 al, bText G t0 a0 n0 g0, bText G t1 a1 n1 g1, bGrid G di db u_55, bRep G rp q q2 ct ot, bGrid G q b u_51, bGrid G q2 b2 u_52, bText G ct ca n0 u_53, bText G ot oa n1 u_54, bSaved G sv sa od sz f, bPool G ph kp]) hD [6, 7, 8, 9, 10, 1, 2, 3, 4, 5, 0, 11] (by decide) rfl) hS (lv_sub hl [6, 7, 8, 9, 10, 2, 1, 3, 11, 0] rfl)
                        · refine lv_iload hx hb dL_areReplacedSo_116 (lv_at hl 3 rfl) ?_
                          refine lv_goto (tgt := 123) hx hb dL_areReplacedSo_118 (by decide) ?_
                          refine lv_istore (lv' := [(6, .int (jz (D 1 (up g0 kk le) g1 n0 n1))), (5, .int (jz fo)), (7, .int (jz 1)), (11, .int (jz ((D 1 (up g0 kk le) g1 n0 n1) - (D 1 g0 g1 n0 n1)))), (10, .int (jz (D 1 (up g0 kk le) g1 n0 n1))), (0, .ref x), (1, .int (jz z)), (2, .int (jz al)), (3, .int (jz (bst0 al n0 n1 g0 g1))), (4, .int (jz n0)), (8, .int (jz kk)), (9, .int (jz le))]) hx hb dL_areReplacedSo_123 hl (by decide) rfl (fun ls hl => ?_)
                          refine jv_iinc (lv' := [(9, .int (jz (le + 1))), (6, .int (jz (D 1 (up g0 kk le) g1 n0 n1))), (5, .int (jz fo)), (7, .int (jz 1)), (11, .int (jz ((D 1 (up g0 kk le) g1 n0 n1) - (D 1 g0 g1 n0 n1)))), (10, .int (jz (D 1 (up g0 kk le) g1 n0 n1))), (0, .ref x), (1, .int (jz z)), (2, .int (jz al)), (3, .int (jz (bst0 al n0 n1 g0 g1))), (4, .int (jz n0)), (8, .int (jz kk))]) (k := 11) hx hb dL_areReplacedSo_125 hl rfl (by decide) rfl (fun ls hl => ?_)
                          refine lv_goto (tgt := 36) hx hb dL_areReplacedSo_128 (by decide) ?_
                          exact ih36 u_55 u_51 u_52 u_53 u_54 fo (D 1 (up g0 kk le) g1 n0 n1) (le + 1) (by omega) (by omega) (by rw [bLet_s _ _ (by omega)]; first | exact lRel_up hR8 rfl (by omega) (by omega) (by omega) (by omega) (by assumption) | exact lRel_no hR8 (by omega) (by omega) | (exfalso; omega)) H _ _ (wP_sub (bc := [bBD G x st sv bu di se wy ta tt rp, bState G st t0 t1 al, bText G t0 a0 n0 g0, bText G t1 a1 n1 g1, bGrid G di db u_55, bRep G rp q q2 ct ot, bGrid G q b u_51, bGrid G q2 b2 u_52, bText G ct ca n0 u_53, bText G ot oa n1 u_54, bSaved G sv sa od sz f, bPool G ph kp]) hP [6, 7, 8, 9, 10, 1, 2, 3, 4, 5, 0, 11] rfl) (wD_sub (bc := [bBD G x st sv bu di se wy ta tt rp, bState G st t0 t1 al, bText G t0 a0 n0 g0, bText G t1 a1 n1 g1, bGrid G di db u_55, bRep G rp q q2 ct ot, bGrid G q b u_51, bGrid G q2 b2 u_52, bText G ct ca n0 u_53, bText G ot oa n1 u_54, bSaved G sv sa od sz f, bPool G ph kp]) hD [6, 7, 8, 9, 10, 1, 2, 3, 4, 5, 0, 11] (by decide) rfl) hS (lv_sub hl [6, 7, 8, 9, 10, 2, 1, 3, 11, 0] rfl)
                      · refine jv_bipush hx hb dL_areReplacedSo_94 (by decide) ?_
                        refine lv_iload hx hb dL_areReplacedSo_96 (lv_at hl 10 rfl) ?_
                        refine jv_imul hx hb dL_areReplacedSo_98 ?_
                        refine lv_iload hx hb dL_areReplacedSo_99 (lv_at hl 11 rfl) ?_
                        refine jv_iadd hx hb dL_areReplacedSo_101 ?_
                        refine lv_goto (tgt := 107) hx hb dL_areReplacedSo_102 (by decide) ?_
                        refine lv_istore (lv' := [(5, .int (jz ((10 * kk) + le))), (7, .int (jz 1)), (11, .int (jz ((D 1 (up g0 kk le) g1 n0 n1) - (D 1 g0 g1 n0 n1)))), (10, .int (jz (D 1 (up g0 kk le) g1 n0 n1))), (0, .ref x), (1, .int (jz z)), (2, .int (jz al)), (3, .int (jz (bst0 al n0 n1 g0 g1))), (4, .int (jz n0)), (6, .int (jz lst)), (8, .int (jz kk)), (9, .int (jz le))]) hx hb dL_areReplacedSo_107 hl (by decide) rfl (fun ls hl => ?_)
                        refine lv_iload hx hb dL_areReplacedSo_109 (lv_at hl 3 rfl) ?_
                        refine lv_iload hx hb dL_areReplacedSo_111 (lv_at hl 9 rfl) ?_
                        refine jv_icmp_ge (tgt := 121) hx hb dL_areReplacedSo_113 (by decide) (by omega) (by omega) (fun c_61 => ?_) (fun c_61 => ?_)
                        · refine lv_iload hx hb dL_areReplacedSo_121 (lv_at hl 9 rfl) ?_
                          refine lv_istore (lv' := [(6, .int (jz lst)), (5, .int (jz ((10 * kk) + le))), (7, .int (jz 1)), (11, .int (jz ((D 1 (up g0 kk le) g1 n0 n1) - (D 1 g0 g1 n0 n1)))), (10, .int (jz (D 1 (up g0 kk le) g1 n0 n1))), (0, .ref x), (1, .int (jz z)), (2, .int (jz al)), (3, .int (jz (bst0 al n0 n1 g0 g1))), (4, .int (jz n0)), (8, .int (jz kk)), (9, .int (jz le))]) hx hb dL_areReplacedSo_123 hl (by decide) rfl (fun ls hl => ?_)
                          refine jv_iinc (lv' := [(9, .int (jz (le + 1))), (6, .int (jz lst)), (5, .int (jz ((10 * kk) + le))), (7, .int (jz 1)), (11, .int (jz ((D 1 (up g0 kk le) g1 n0 n1) - (D 1 g0 g1 n0 n1)))), (10, .int (jz (D 1 (up g0 kk le) g1 n0 n1))), (0, .ref x), (1, .int (jz z)), (2, .int (jz al)), (3, .int (jz (bst0 al n0 n1 g0 g1))), (4, .int (jz n0)), (8, .int (jz kk))]) (k := 11) hx hb dL_areReplacedSo_125 hl rfl (by decide) rfl (fun ls hl => ?_)
                          refine lv_goto (tgt := 36) hx hb dL_areReplacedSo_128 (by decide) ?_
                          exact ih36 u_55 u_51 u_52 u_53 u_54 ((10 * kk) + le) lst (le + 1) (by omega) (by omega) (by rw [bLet_s _ _ (by omega)]; first | exact lRel_up hR8 rfl (by omega) (by omega) (by omega) (by omega) (by assumption) | exact lRel_no hR8 (by omega) (by omega) | (exfalso; omega)) H _ _ (wP_sub (bc := [bBD G x st sv bu di se wy ta tt rp, bState G st t0 t1 al, bText G t0 a0 n0 g0, bText G t1 a1 n1 g1, bGrid G di db u_55, bRep G rp q q2 ct ot, bGrid G q b u_51, bGrid G q2 b2 u_52, bText G ct ca n0 u_53, bText G ot oa n1 u_54, bSaved G sv sa od sz f, bPool G ph kp]) hP [6, 7, 8, 9, 10, 1, 2, 3, 4, 5, 0, 11] rfl) (wD_sub (bc := [bBD G x st sv bu di se wy ta tt rp, bState G st t0 t1 al, bText G t0 a0 n0 g0, bText G t1 a1 n1 g1, bGrid G di db u_55, bRep G rp q q2 ct ot, bGrid G q b u_51, bGrid G q2 b2 u_52, bText G ct ca n0 u_53, bText G ot oa n1 u_54, bSaved G sv sa od sz f, bPool G ph kp]) hD [6, 7, 8, 9, 10, 1, 2, 3, 4, 5, 0, 11] (by decide) rfl) hS (lv_sub hl [6, 7, 8, 9, 10, 2, 1, 3, 11, 0] rfl)
                        · refine lv_iload hx hb dL_areReplacedSo_116 (lv_at hl 3 rfl) ?_
                          refine lv_goto (tgt := 123) hx hb dL_areReplacedSo_118 (by decide) ?_
                          refine lv_istore (lv' := [(6, .int (jz (D 1 (up g0 kk le) g1 n0 n1))), (5, .int (jz ((10 * kk) + le))), (7, .int (jz 1)), (11, .int (jz ((D 1 (up g0 kk le) g1 n0 n1) - (D 1 g0 g1 n0 n1)))), (10, .int (jz (D 1 (up g0 kk le) g1 n0 n1))), (0, .ref x), (1, .int (jz z)), (2, .int (jz al)), (3, .int (jz (bst0 al n0 n1 g0 g1))), (4, .int (jz n0)), (8, .int (jz kk)), (9, .int (jz le))]) hx hb dL_areReplacedSo_123 hl (by decide) rfl (fun ls hl => ?_)
                          refine jv_iinc (lv' := [(9, .int (jz (le + 1))), (6, .int (jz (D 1 (up g0 kk le) g1 n0 n1))), (5, .int (jz ((10 * kk) + le))), (7, .int (jz 1)), (11, .int (jz ((D 1 (up g0 kk le) g1 n0 n1) - (D 1 g0 g1 n0 n1)))), (10, .int (jz (D 1 (up g0 kk le) g1 n0 n1))), (0, .ref x), (1, .int (jz z)), (2, .int (jz al)), (3, .int (jz (bst0 al n0 n1 g0 g1))), (4, .int (jz n0)), (8, .int (jz kk))]) (k := 11) hx hb dL_areReplacedSo_125 hl rfl (by decide) rfl (fun ls hl => ?_)
                          refine lv_goto (tgt := 36) hx hb dL_areReplacedSo_128 (by decide) ?_
                          exact ih36 u_55 u_51 u_52 u_53 u_54 ((10 * kk) + le) (D 1 (up g0 kk le) g1 n0 n1) (le + 1) (by omega) (by omega) (by rw [bLet_s _ _ (by omega)]; first | exact lRel_up hR8 rfl (by omega) (by omega) (by omega) (by omega) (by assumption) | exact lRel_no hR8 (by omega) (by omega) | (exfalso; omega)) H _ _ (wP_sub (bc := [bBD G x st sv bu di se wy ta tt rp, bState G st t0 t1 al, bText G t0 a0 n0 g0, bText G t1 a1 n1 g1, bGrid G di db u_55, bRep G rp q q2 ct ot, bGrid G q b u_51, bGrid G q2 b2 u_52, bText G ct ca n0 u_53, bText G ot oa n1 u_54, bSaved G sv sa od sz f, bPool G ph kp]) hP [6, 7, 8, 9, 10, 1, 2, 3, 4, 5, 0, 11] rfl) (wD_sub (bc := [bBD G x st sv bu di se wy ta tt rp, bState G st t0 t1 al, bText G t0 a0 n0 g0, bText G t1 a1 n1 g1, bGrid G di db u_55, bRep G rp q q2 ct ot, bGrid G q b u_51, bGrid G q2 b2 u_52, bText G ct ca n0 u_53, bText G ot oa n1 u_54, bSaved G sv sa od sz f, bPool G ph kp]) hD [6, 7, 8, 9, 10, 1, 2, 3, 4, 5, 0, 11] (by decide) rfl) hS (lv_sub hl [6, 7, 8, 9, 10, 2, 1, 3, 11, 0] rfl)
          exact K36 (((al - 0).toNat) + 1) h1 c1 c2 c3 c4 fo lst 0 (Nat.lt_succ_self _) (by omega) (by exact hR9) H _ _ hP hD hS (lv_sub hl [1, 2, 3, 4, 5, 6, 7, 8, 9, 0] rfl)
    exact K26 (((n0 - 0).toNat) + 1) dh u_1 u_2 u_3 u_4 ((-1)) 99 0 (Nat.lt_succ_self _) (by omega) (by exact Or.inl ⟨rfl, rfl, rfl⟩) H _ _ (wP_sub (bc := [bBD G x st sv bu di se wy ta tt rp, bState G st t0 t1 al, bText G t0 a0 n0 g0, bText G t1 a1 n1 g1, bGrid G di db dh, bRep G rp q q2 ct ot, bGrid G q b u_1, bGrid G q2 b2 u_2, bText G ct ca n0 u_3, bText G ot oa n1 u_4, bSaved G sv sa od sz f, bPool G ph kp]) hP [7, 8, 9, 10, 0, 2, 3, 4, 5, 6, 1, 11] rfl) (wD_sub (bc := [bBD G x st sv bu di se wy ta tt rp, bState G st t0 t1 al, bText G t0 a0 n0 g0, bText G t1 a1 n1 g1, bGrid G di db dh, bRep G rp q q2 ct ot, bGrid G q b u_1, bGrid G q2 b2 u_2, bText G ct ca n0 u_3, bText G ot oa n1 u_4, bSaved G sv sa od sz f, bPool G ph kp]) hD [7, 8, 9, 10, 0, 2, 3, 4, 5, 6, 1, 11] (by decide) rfl) hS (lv_sub hl [6, 7, 8, 5, 4, 3, 2, 1, 0] rfl)
  exact KH s.heap [] hP hD hS
abbrev rmL_areReplacedSo_1 : Room := { frames := 5, cells := 10, slots := 94, locals := 120 }
set_option maxHeartbeats 4000000 in
set_option maxRecDepth 100000 in
theorem mL_areReplacedSo_1 (l : Launch) (G : GG) (x : Nat) (st : Nat) (sv : Nat) (bu : Nat) (di : Nat) (se : Nat) (wy : Nat) (ta : Nat) (tt : Nat) (rp : Nat) (t0 : Nat) (t1 : Nat) (al : Int) (a0 : Nat) (n0 : Int) (g0 : Int → Int) (a1 : Nat) (n1 : Int) (g1 : Int → Int) (db : Nat) (dh : Int → Int) (q : Nat) (q2 : Nat) (ct : Nat) (ot : Nat) (b : Nat) (h : Int → Int) (b2 : Nat) (h2 : Int → Int) (ca : Nat) (cn : Int) (cg : Int → Int) (oa : Nat) (on : Int) (og : Int → Int) (sa : Nat) (od : Int) (sz : Int) (f : Int → Option Nat) (ph : Nat → SG) (kp : Nat) (z : Int) (hn0 : 0 ≤ n0 ∧ n0 ≤ 20) (hn1 : 0 ≤ n1 ∧ n1 ≤ 20) (hg0 : ∀ j : Int, 0 ≤ j → j < n0 → 0 ≤ g0 j ∧ g0 j < 3) (hg1 : ∀ j : Int, 0 ≤ j → j < n1 → 0 ≤ g1 j ∧ g1 j < 3) (hal : 3 ≤ al ∧ al ≤ 4) (hz : z = 1) (hSV : SV od sz f ph kp) : Ct l yL_areReplacedSo cL_areReplacedSo 12 (some .boolean) rmL_areReplacedSo_1 G [.ref x, .int (jz z), .int (jz al)] [bBD G x st sv bu di se wy ta tt rp, bState G st t0 t1 al, bText G t0 a0 n0 g0, bText G t1 a1 n1 g1, bGrid G di db dh, bRep G rp q q2 ct ot, bGrid G q b h, bGrid G q2 b2 h2, bText G ct ca cn cg, bText G ot oa on og, bSaved G sv sa od sz f, bPool G ph kp] (fun uo : (Int → Int) × Int × Int × (Int → Int) × Int × (Int → Int) × (Int → Int) × (Int → Int) × (Int → Int) × (Int → Int) × Int × Int × (Int → Option Nat) × (Nat → SG) × Nat => some (.int (jz 1))) (fun uo => ((uo.2.1 = al ∧ uo.2.2.1 = n0 ∧ uo.2.2.2.2.1 = n1) ∧ (∀ j : Int, 0 ≤ j → j < n0 → 0 ≤ uo.2.2.2.1 j ∧ uo.2.2.2.1 j < 3) ∧ (∀ j : Int, 0 ≤ j → j < n1 → 0 ≤ uo.2.2.2.2.2.1 j ∧ uo.2.2.2.2.2.1 j < 3) ∧ SV uo.2.2.2.2.2.2.2.2.2.2.1 uo.2.2.2.2.2.2.2.2.2.2.2.1 uo.2.2.2.2.2.2.2.2.2.2.2.2.1 uo.2.2.2.2.2.2.2.2.2.2.2.2.2.1 uo.2.2.2.2.2.2.2.2.2.2.2.2.2.2)) (fun uo => [bBD G x st sv bu di se wy ta tt rp, bState G st t0 t1 uo.2.1, bText G t0 a0 uo.2.2.1 uo.2.2.2.1, bText G t1 a1 uo.2.2.2.2.1 uo.2.2.2.2.2.1, bGrid G di db uo.1, bRep G rp q q2 ct ot, bGrid G q b uo.2.2.2.2.2.2.1, bGrid G q2 b2 uo.2.2.2.2.2.2.2.1, bText G ct ca n1 uo.2.2.2.2.2.2.2.2.1, bText G ot oa n0 uo.2.2.2.2.2.2.2.2.2.1, bSaved G sv sa uo.2.2.2.2.2.2.2.2.2.2.1 uo.2.2.2.2.2.2.2.2.2.2.2.1 uo.2.2.2.2.2.2.2.2.2.2.2.2.1, bPool G uo.2.2.2.2.2.2.2.2.2.2.2.2.2.1 uo.2.2.2.2.2.2.2.2.2.2.2.2.2.2]) := by
  refine cof (by decide) (Nat.le_of_ble_eq_true rfl) ?_
  intro p e s m args below meth c A ls hx hb hr hml hown hts hlocks hin hA hK hP hD hS hl Q hQ
  have hown : s.vm.findClass RL = some m.cls := hown
  have hl : lv_has ls 12 [(0, .ref x), (1, .int (jz z)), (2, .int (jz al))] := hl
  have KH : ∀ (H : Heap) (locs : List Loc), wP G [bBD G x st sv bu di se wy ta tt rp, bState G st t0 t1 al, bText G t0 a0 n0 g0, bText G t1 a1 n1 g1, bGrid G di db dh, bRep G rp q q2 ct ot, bGrid G q b h, bGrid G q2 b2 h2, bText G ct ca cn cg, bText G ot oa on og, bSaved G sv sa od sz f, bPool G ph kp] H → wD A [bBD G x st sv bu di se wy ta tt rp, bState G st t0 t1 al, bText G t0 a0 n0 g0, bText G t1 a1 n1 g1, bGrid G di db dh, bRep G rp q q2 ct ot, bGrid G q b h, bGrid G q2 b2 h2, bText G ct ca cn cg, bText G ot oa on og, bSaved G sv sa od sz f, bPool G ph kp] → va_S A s.heap H locs → W p l e rmL_areReplacedSo_1 s m args below meth c H locs 0 0 Q (F0 m 0 ls []) := by
    intro H locs hP hD hS
    obtain ⟨hs, ho, hkp, hk2, hf⟩ := hSV.1
    have hsy := D_sym g1 g0 n1 n0
    have hdb := D_bd (c := 1) (Or.inr rfl) g0 g1 (i := n0) (j := n1) (by omega) (by omega)
    refine lv_aload_n hx hb dL_areReplacedSo_0 rfl (lv_at hl 0 rfl) ?_
    refine lv_iload_n hx hb dL_areReplacedSo_1 rfl (lv_at hl 1 rfl) ?_
    refine kV ⟨hx, hb, hml, hown, hts⟩ hK hA hS hP hD [.int (jz z)] [] (mX8_bestReplacement_1 l G x st sv bu di se wy ta tt rp t0 t1 al a0 n0 g0 a1 n1 g1 q q2 ct ot b h b2 h2 ca cn cg oa on og z (by omega) (by omega) (by exact lt3_4 hg0) (by exact lt3_4 hg1) (by omega) (by omega)) lkL_101 [0, 1, 2, 3, 5, 6, 7, 8, 9] [4, 10, 11] (br := [bGrid G di db dh, bSaved G sv sa od sz f, bPool G ph kp]) rfl rfl (by decide) 0 8 rfl rfl rfl rfl (Nat.le_of_ble_eq_true rfl) hl.1 dL_areReplacedSo_2 ⟨Nat.le_of_ble_eq_true rfl, Nat.le_of_ble_eq_true rfl⟩ ⟨Nat.le_of_ble_eq_true rfl, Nat.le_of_ble_eq_true rfl⟩ (fun u9 H locs hp9 hP hD hS => ?_)
    obtain ⟨u_1, u_2, u_3, u_4⟩ := u9
    have hP : wP G [bGrid G di db dh, bSaved G sv sa od sz f, bPool G ph kp, bBD G x st sv bu di se wy ta tt rp, bState G st t0 t1 al, bText G t0 a0 n0 g0, bText G t1 a1 n1 g1, bRep G rp q q2 ct ot, bGrid G q b u_1, bGrid G q2 b2 u_2, bText G ct ca n1 u_3, bText G ot oa n0 u_4] H := hP
    have hD : wD A [bGrid G di db dh, bSaved G sv sa od sz f, bPool G ph kp, bBD G x st sv bu di se wy ta tt rp, bState G st t0 t1 al, bText G t0 a0 n0 g0, bText G t1 a1 n1 g1, bRep G rp q q2 ct ot, bGrid G q b u_1, bGrid G q2 b2 u_2, bText G ct ca n1 u_3, bText G ot oa n0 u_4] := hD
    have hP : wP G [bGrid G di db dh, bSaved G sv sa od sz f, bBD G x st sv bu di se wy ta tt rp, bState G st t0 t1 al, bText G t0 a0 n0 g0, bText G t1 a1 n1 g1, bRep G rp q q2 ct ot, bGrid G q b u_1, bGrid G q2 b2 u_2, bText G ct ca n1 u_3, bText G ot oa n0 u_4, bPool G ph kp] H := wP_sub hP [0, 1, 3, 4, 5, 6, 7, 8, 9, 10, 11, 2] rfl
    have hD : wD A [bGrid G di db dh, bSaved G sv sa od sz f, bBD G x st sv bu di se wy ta tt rp, bState G st t0 t1 al, bText G t0 a0 n0 g0, bText G t1 a1 n1 g1, bRep G rp q q2 ct ot, bGrid G q b u_1, bGrid G q2 b2 u_2, bText G ct ca n1 u_3, bText G ot oa n0 u_4, bPool G ph kp] := wD_sub hD [0, 1, 3, 4, 5, 6, 7, 8, 9, 10, 11, 2] (by decide) rfl
    show W p l e rmL_areReplacedSo_1 s m args below meth c H locs 0 0 Q (F0 m 5 ls [.int (jz (bst0 al n1 n0 g1 g0))])
    refine lv_istore_n (lv' := [(3, .int (jz (bst0 al n1 n0 g1 g0))), (0, .ref x), (1, .int (jz z)), (2, .int (jz al))]) hx hb dL_areReplacedSo_5 rfl hl (by decide) rfl (fun ls hl => ?_)
    refine lv_aload_n hx hb dL_areReplacedSo_6 rfl (lv_at hl 1 rfl) ?_
    refine lv_iload_n hx hb dL_areReplacedSo_7 rfl (lv_at hl 2 rfl) ?_
    refine kV ⟨hx, hb, hml, hown, hts⟩ hK hA hS hP hD [.int (jz z)] [] (mX8_length_1 l G x st sv bu di se wy ta tt rp t0 t1 al a0 n0 g0 a1 n1 g1 z (by omega)) lkL_8 [2, 3, 4, 5] [0, 1, 6, 7, 8, 9, 10, 11] (br := [bGrid G di db dh, bSaved G sv sa od sz f, bRep G rp q q2 ct ot, bGrid G q b u_1, bGrid G q2 b2 u_2, bText G ct ca n1 u_3, bText G ot oa n0 u_4, bPool G ph kp]) rfl rfl (by decide) 0 8 rfl rfl rfl rfl (Nat.le_of_ble_eq_true rfl) hl.1 dL_areReplacedSo_8 ⟨Nat.le_of_ble_eq_true rfl, Nat.le_of_ble_eq_true rfl⟩ ⟨Nat.le_of_ble_eq_true rfl, Nat.le_of_ble_eq_true rfl⟩ (fun u9 H locs hp9 hP hD hS => ?_)
    have hP : wP G [bGrid G di db dh, bSaved G sv sa od sz f, bRep G rp q q2 ct ot, bGrid G q b u_1, bGrid G q2 b2 u_2, bText G ct ca n1 u_3, bText G ot oa n0 u_4, bPool G ph kp, bBD G x st sv bu di se wy ta tt rp, bState G st t0 t1 al, bText G t0 a0 n0 g0, bText G t1 a1 n1 g1] H := hP
    have hD : wD A [bGrid G di db dh, bSaved G sv sa od sz f, bRep G rp q q2 ct ot, bGrid G q b u_1, bGrid G q2 b2 u_2, bText G ct ca n1 u_3, bText G ot oa n0 u_4, bPool G ph kp, bBD G x st sv bu di se wy ta tt rp, bState G st t0 t1 al, bText G t0 a0 n0 g0, bText G t1 a1 n1 g1] := hD
    have hP : wP G [bGrid G di db dh, bSaved G sv sa od sz f, bRep G rp q q2 ct ot, bGrid G q b u_1, bGrid G q2 b2 u_2, bText G ct ca n1 u_3, bText G ot oa n0 u_4, bBD G x st sv bu di se wy ta tt rp, bState G st t0 t1 al, bText G t0 a0 n0 g0, bText G t1 a1 n1 g1, bPool G ph kp] H := wP_sub hP [0, 1, 2, 3, 4, 5, 6, 8, 9, 10, 11, 7] rfl
    have hD : wD A [bGrid G di db dh, bSaved G sv sa od sz f, bRep G rp q q2 ct ot, bGrid G q b u_1, bGrid G q2 b2 u_2, bText G ct ca n1 u_3, bText G ot oa n0 u_4, bBD G x st sv bu di se wy ta tt rp, bState G st t0 t1 al, bText G t0 a0 n0 g0, bText G t1 a1 n1 g1, bPool G ph kp] := wD_sub hD [0, 1, 2, 3, 4, 5, 6, 8, 9, 10, 11, 7] (by decide) rfl
    show W p l e rmL_areReplacedSo_1 s m args below meth c H locs 0 0 Q (F0 m 11 ls [.int (jz n1)])
    refine lv_istore (lv' := [(4, .int (jz n1)), (3, .int (jz (bst0 al n1 n0 g1 g0))), (0, .ref x), (1, .int (jz z)), (2, .int (jz al))]) hx hb dL_areReplacedSo_11 hl (by decide) rfl (fun ls hl => ?_)
    refine jv_iconst hx hb dL_areReplacedSo_13 ?_
    refine lv_istore (lv' := [(5, .int (jz ((-1)))), (4, .int (jz n1)), (3, .int (jz (bst0 al n1 n0 g1 g0))), (0, .ref x), (1, .int (jz z)), (2, .int (jz al))]) hx hb dL_areReplacedSo_14 hl (by decide) rfl (fun ls hl => ?_)
    refine jv_bipush hx hb dL_areReplacedSo_16 (by decide) ?_
    refine lv_istore (lv' := [(6, .int (jz 99)), (5, .int (jz ((-1)))), (4, .int (jz n1)), (3, .int (jz (bst0 al n1 n0 g1 g0))), (0, .ref x), (1, .int (jz z)), (2, .int (jz al))]) hx hb dL_areReplacedSo_18 hl (by decide) rfl (fun ls hl => ?_)
    refine jv_iconst hx hb dL_areReplacedSo_20 ?_
    refine lv_istore (lv' := [(7, .int (jz 1)), (6, .int (jz 99)), (5, .int (jz ((-1)))), (4, .int (jz n1)), (3, .int (jz (bst0 al n1 n0 g1 g0))), (0, .ref x), (1, .int (jz z)), (2, .int (jz al))]) hx hb dL_areReplacedSo_21 hl (by decide) rfl (fun ls hl => ?_)
    refine jv_iconst hx hb dL_areReplacedSo_23 ?_
    refine lv_istore (lv' := [(8, .int (jz 0)), (7, .int (jz 1)), (6, .int (jz 99)), (5, .int (jz ((-1)))), (4, .int (jz n1)), (3, .int (jz (bst0 al n1 n0 g1 g0))), (0, .ref x), (1, .int (jz z)), (2, .int (jz al))]) hx hb dL_areReplacedSo_24 hl (by decide) rfl (fun ls hl => ?_)
    have K26 : ∀ (n9 : Nat) (h1 : Int → Int) (c1 : Int → Int) (c2 : Int → Int) (c3 : Int → Int) (c4 : Int → Int) (fo : Int) (lst : Int) (kk : Int) , ((n1 - kk).toNat) < n9 → (0 ≤ kk ∧ kk ≤ n1) → (lRel (fun i v => D 1 (up g1 i v) g0 n1 n0) al n1 fo lst (bAll (fun i v => D 1 (up g1 i v) g0 n1 n0) al kk.toNat)) → ∀ (H : Heap) (locs : List Loc) (ls : Array Slot), wP G [bBD G x st sv bu di se wy ta tt rp, bState G st t0 t1 al, bText G t0 a0 n0 g0, bText G t1 a1 n1 g1, bGrid G di db h1, bRep G rp q q2 ct ot, bGrid G q b c1, bGrid G q2 b2 c2, bText G ct ca n1 c3, bText G ot oa n0 c4, bSaved G sv sa od sz f, bPool G ph kp] H → wD A [bBD G x st sv bu di se wy ta tt rp, bState G st t0 t1 al, bText G t0 a0 n0 g0, bText G t1 a1 n1 g1, bGrid G di db h1, bRep G rp q q2 ct ot, bGrid G q b c1, bGrid G q2 b2 c2, bText G ct ca n1 c3, bText G ot oa n0 c4, bSaved G sv sa od sz f, bPool G ph kp] → va_S A s.heap H locs → lv_has ls 12 [(0, .ref x), (1, .int (jz z)), (2, .int (jz al)), (3, .int (jz (bst0 al n1 n0 g1 g0))), (4, .int (jz n1)), (5, .int (jz fo)), (6, .int (jz lst)), (7, .int (jz 1)), (8, .int (jz kk))] → W p l e rmL_areReplacedSo_1 s m args below meth c H locs 0 0 Q (F0 m 26 ls []) := by
      intro n9
      induction n9 with
      | zero => intro h1 c1 c2 c3 c4 fo lst kk hm9; exact absurd hm9 (Nat.not_lt_zero _)
      | succ n9 ih26 =>
        intro h1 c1 c2 c3 c4 fo lst kk hm9 hkk hR9 H locs ls hP hD hS hl
        have hlb := lRel_bd hR9 (by omega) (by omega)
        refine lv_iload hx hb dL_areReplacedSo_26 (lv_at hl 8 rfl) ?_
        refine lv_iload hx hb dL_areReplacedSo_28 (lv_at hl 4 rfl) ?_
        refine jv_icmp_ge (tgt := 137) hx hb dL_areReplacedSo_30 (by decide) (by omega) (by omega) (fun c_6 => ?_) (fun c_6 => ?_)
        · have hbst : bst0 al n1 n0 g1 g0 = fo := by unfold bst0 bestF; rw [show n1.toNat = kk.toNat by omega]; exact lRel_1 hR9
          refine lv_iload hx hb dL_areReplacedSo_137 (lv_at hl 5 rfl) ?_
          refine jv_if_lt (tgt := 231) hx hb dL_areReplacedSo_139 (by decide) (by omega) (fun c_7 => ?_) (fun c_7 => ?_)
          · refine lv_iload hx hb dL_areReplacedSo_231 (lv_at hl 7 rfl) ?_
            refine jv_if_eq (tgt := 246) hx hb dL_areReplacedSo_233 (by decide) (by omega) (fun c_8 => ?_) (fun c_8 => ?_)
            · exfalso; omega
            · refine lv_iload_n hx hb dL_areReplacedSo_236 rfl (lv_at hl 3 rfl) ?_
              refine lv_iload hx hb dL_areReplacedSo_237 (lv_at hl 5 rfl) ?_
              refine jv_icmp_ne (tgt := 246) hx hb dL_areReplacedSo_239 (by decide) (by omega) (by omega) (fun c_9 => ?_) (fun c_9 => ?_)
              · exfalso; omega
              · refine jv_iconst hx hb dL_areReplacedSo_242 ?_
                refine lv_goto (tgt := 247) hx hb dL_areReplacedSo_243 (by decide) ?_
                exact cret_i hx hb hr hlocks hS hP hD (Nat.le_of_ble_eq_true rfl) (Nat.le_of_ble_eq_true rfl) (jz_nb (show 1 = 0 ∨ 1 = 1 by omega)) dL_areReplacedSo_247 [0, 1, 2, 3, 4, 5, 6, 7, 8, 9, 10, 11] (by decide) ⟨h1, al, n0, g0, n1, g1, c1, c2, c3, c4, od, sz, f, ph, kp⟩ rfl (show (al = al ∧ n0 = n0 ∧ n1 = n1) ∧ (∀ j : Int, 0 ≤ j → j < n0 → 0 ≤ g0 j ∧ g0 j < 3) ∧ (∀ j : Int, 0 ≤ j → j < n1 → 0 ≤ g1 j ∧ g1 j < 3) ∧ SV od sz f ph kp from by exact ⟨⟨rfl, rfl, rfl⟩, hg0, hg1, hSV⟩) (congrArg (fun z : Int => some (Value.int (jz z))) (show 1 = 1 from by first | rfl | omega | (split <;> first | rfl | omega | (exfalso; omega)))) hQ
          · have hlf := hlb.2.2.2.2 (by omega)
            have hlf3 : lst = D 1 g0 (up g1 (fo / 10) (fo % 10)) n0 n1 := hlf.2.2.trans (D_sym _ _ _ _)
            refine lv_aload_n hx hb dL_areReplacedSo_142 rfl (lv_at hl 0 rfl) ?_
            refine lv_iload_n hx hb dL_areReplacedSo_143 rfl (lv_at hl 1 rfl) ?_
            refine lv_iload hx hb dL_areReplacedSo_144 (lv_at hl 5 rfl) ?_
            refine jv_bipush hx hb dL_areReplacedSo_146 (by decide) ?_
            refine jv_idiv hx hb dL_areReplacedSo_148 (by omega) (by omega) (by omega) (by omega) ?_
            refine lv_iload hx hb dL_areReplacedSo_149 (lv_at hl 5 rfl) ?_
            refine jv_bipush hx hb dL_areReplacedSo_151 (by decide) ?_
            refine jv_irem hx hb dL_areReplacedSo_153 (by omega) (by omega) (by omega) (by omega) ?_
            refine kV ⟨hx, hb, hml, hown, hts⟩ hK hA hS hP hD [.int (jz z), .int (jz (fo / 10)), .int (jz (fo % 10))] [] (mX8_replace_1_k l G x st sv bu di se wy ta tt rp t0 t1 al a0 n0 g0 a1 n1 g1 sa od sz f ph kp z (fo / 10) (fo % 10) (by omega) (by omega) (by omega) (by omega) (by omega) (by omega) (by exact hf) (by omega) (by omega) (by omega) (by omega) (by omega)) lkL_27 [0, 1, 2, 3, 10, 11] [4, 5, 6, 7, 8, 9] (br := [bGrid G di db h1, bRep G rp q q2 ct ot, bGrid G q b c1, bGrid G q2 b2 c2, bText G ct ca n1 c3, bText G ot oa n0 c4]) rfl rfl (by decide) 0 8 rfl rfl rfl rfl (Nat.le_of_ble_eq_true rfl) hl.1 dL_areReplacedSo_154 ⟨Nat.le_of_ble_eq_true rfl, Nat.le_of_ble_eq_true rfl⟩ ⟨Nat.le_of_ble_eq_true rfl, Nat.le_of_ble_eq_true rfl⟩ (fun u9 H locs hp9 hP hD hS => ?_)
            obtain ⟨u_10, u_11, u_12, u_13, u_14⟩ := u9
            have ha_15 : (sz < 6 → u_10 = od ∧ u_11 = sz + 1) ∧ (sz = 6 → u_10 = (od + 1) % 6 ∧ u_11 = 6) := hp9.1
            have hb_16 : (u_14 = kp ∨ u_14 = kp + 1) ∧ (u_14 : Int) ≤ 6 ∧ u_11 ≤ u_14 ∧ (u_10 = 0 ∨ u_14 = 6) := hp9.2.1
            have hf_17 : ∀ z8 : Int, 0 ≤ z8 → z8 < 6 → u_12 z8 = if z8 < u_14 then some (u_13 z8.toNat).1.1 else none := hp9.2.2.1
            have hp_18 : ∀ i8 : Nat, (i8 : Int) ≠ (u_10 + (u_11 - 1)) % 6 → i8 < kp → u_13 i8 = ph i8 := hp9.2.2.2.1
            have hq_19 : (u_13 ((u_10 + (u_11 - 1)) % 6).toNat).2.1 = (al, n0, n1) := hp9.2.2.2.2.1
            have hr_20 : ∀ j : Int, 0 ≤ j → j < n0 → (u_13 ((u_10 + (u_11 - 1)) % 6).toNat).2.2.1 j = g0 j := hp9.2.2.2.2.2.1
            have hs_21 : ∀ j : Int, 0 ≤ j → j < n1 → (u_13 ((u_10 + (u_11 - 1)) % 6).toNat).2.2.2 j = g1 j := hp9.2.2.2.2.2.2
            have hP : wP G [bGrid G di db h1, bRep G rp q q2 ct ot, bGrid G q b c1, bGrid G q2 b2 c2, bText G ct ca n1 c3, bText G ot oa n0 c4, bBD G x st sv bu di se wy ta tt rp, bState G st t0 t1 al, bText G t0 a0 n0 g0, bText G t1 a1 n1 (up g1 (fo / 10) (fo % 10)), bSaved G sv sa u_10 u_11 u_12, bPool G u_13 u_14] H := hP
            have hD : wD A [bGrid G di db h1, bRep G rp q q2 ct ot, bGrid G q b c1, bGrid G q2 b2 c2, bText G ct ca n1 c3, bText G ot oa n0 c4, bBD G x st sv bu di se wy ta tt rp, bState G st t0 t1 al, bText G t0 a0 n0 g0, bText G t1 a1 n1 (up g1 (fo / 10) (fo % 10)), bSaved G sv sa u_10 u_11 u_12, bPool G u_13 u_14] := hD
            show W p l e rmL_areReplacedSo_1 s m args below meth c H locs 5 47 Q (F0 m 157 ls [.int (jz (g1 (fo / 10)))])
            have hv1 := sv_save hSV.1 ha_15 hb_16 hf_17 hp_18 hq_19 hr_20 hs_21
            have hg4 := upF_b3 (a := g1) (n := n1) (i := fo / 10) (v := fo % 10) (al := 4) (lt3_4 hg1) (by omega)
            obtain ⟨hs2, ho2, hkp2, hk22, hf2⟩ := hv1.1
            have hgw := hg1 (fo / 10) (by omega) (by omega)
            refine lv_istore (lv' := [(8, .int (jz (g1 (fo / 10)))), (0, .ref x), (1, .int (jz z)), (2, .int (jz al)), (3, .int (jz (bst0 al n1 n0 g1 g0))), (4, .int (jz n1)), (5, .int (jz fo)), (6, .int (jz lst)), (7, .int (jz 1))]) hx hb dL_areReplacedSo_157 hl (by decide) rfl (fun ls hl => ?_)
            refine lv_iload hx hb dL_areReplacedSo_159 (lv_at hl 8 rfl) ?_
            refine jv_if_eq (tgt := 199) hx hb dL_areReplacedSo_161 (by decide) (by omega) (fun c_22 => ?_) (fun c_22 => ?_)
            · exfalso; omega
            · refine lv_aload_n hx hb dL_areReplacedSo_164 rfl (lv_at hl 1 rfl) ?_
              refine kV ⟨hx, hb, hml, hown, hts⟩ hK hA hS hP hD [] [] (mX8_distance l G x st sv bu di se wy ta tt rp t0 t1 al a0 n0 g0 a1 n1 (up g1 (fo / 10) (fo % 10)) db h1 (by omega) (by omega) (by exact lt3_4 hg0) (by exact hg4)) lkL_61 [6, 7, 8, 9, 0] [1, 2, 3, 4, 5, 10, 11] (br := [bRep G rp q q2 ct ot, bGrid G q b c1, bGrid G q2 b2 c2, bText G ct ca n1 c3, bText G ot oa n0 c4, bSaved G sv sa u_10 u_11 u_12, bPool G u_13 u_14]) rfl rfl (by decide) 0 8 rfl rfl rfl rfl (Nat.le_of_ble_eq_true rfl) hl.1 dL_areReplacedSo_165 ⟨Nat.le_of_ble_eq_true rfl, Nat.le_of_ble_eq_true rfl⟩ ⟨Nat.le_of_ble_eq_true rfl, Nat.le_of_ble_eq_true rfl⟩ (fun u9 H locs hp9 hP hD hS => ?_)
              obtain ⟨u_23, rfl⟩ : ∃ z, z = u9 := ⟨_, rfl⟩
              have hP : wP G [bRep G rp q q2 ct ot, bGrid G q b c1, bGrid G q2 b2 c2, bText G ct ca n1 c3, bText G ot oa n0 c4, bSaved G sv sa u_10 u_11 u_12, bPool G u_13 u_14, bBD G x st sv bu di se wy ta tt rp, bState G st t0 t1 al, bText G t0 a0 n0 g0, bText G t1 a1 n1 (up g1 (fo / 10) (fo % 10)), bGrid G di db u_23] H := hP
              have hD : wD A [bRep G rp q q2 ct ot, bGrid G q b c1, bGrid G q2 b2 c2, bText G ct ca n1 c3, bText G ot oa n0 c4, bSaved G sv sa u_10 u_11 u_12, bPool G u_13 u_14, bBD G x st sv bu di se wy ta tt rp, bState G st t0 t1 al, bText G t0 a0 n0 g0, bText G t1 a1 n1 (up g1 (fo / 10) (fo % 10)), bGrid G di db u_23] := hD
              have hP : wP G [bRep G rp q q2 ct ot, bGrid G q b c1, bGrid G q2 b2 c2, bText G ct ca n1 c3, bText G ot oa n0 c4, bSaved G sv sa u_10 u_11 u_12, bBD G x st sv bu di se wy ta tt rp, bState G st t0 t1 al, bText G t0 a0 n0 g0, bText G t1 a1 n1 (up g1 (fo / 10) (fo % 10)), bGrid G di db u_23, bPool G u_13 u_14] H := wP_sub hP [0, 1, 2, 3, 4, 5, 7, 8, 9, 10, 11, 6] rfl
              have hD : wD A [bRep G rp q q2 ct ot, bGrid G q b c1, bGrid G q2 b2 c2, bText G ct ca n1 c3, bText G ot oa n0 c4, bSaved G sv sa u_10 u_11 u_12, bBD G x st sv bu di se wy ta tt rp, bState G st t0 t1 al, bText G t0 a0 n0 g0, bText G t1 a1 n1 (up g1 (fo / 10) (fo % 10)), bGrid G di db u_23, bPool G u_13 u_14] := wD_sub hD [0, 1, 2, 3, 4, 5, 7, 8, 9, 10, 11, 6] (by decide) rfl
              show W p l e rmL_areReplacedSo_1 s m args below meth c H locs 5 47 Q (F0 m 168 ls [.int (jz (D 1 g0 (up g1 (fo / 10) (fo % 10)) n0 n1))])
              refine lv_iload hx hb dL_areReplacedSo_168 (lv_at hl 7 rfl) ?_
              refine jv_icmp_ne (tgt := 199) hx hb dL_areReplacedSo_170 (by decide) (by omega) (by omega) (fun c_24 => ?_) (fun c_24 => ?_)
              · exfalso; omega
              · refine lv_iload hx hb dL_areReplacedSo_173 (lv_at hl 0 rfl) ?_
                refine lv_aload_n hx hb dL_areReplacedSo_175 rfl (lv_at hl 1 rfl) ?_
                refine lv_iload_n hx hb dL_areReplacedSo_176 rfl (lv_at hl 2 rfl) ?_
                refine lv_iload hx hb dL_areReplacedSo_177 (lv_at hl 6 rfl) ?_
                refine jv_bipush hx hb dL_areReplacedSo_179 (by decide) ?_
                refine jv_idiv hx hb dL_areReplacedSo_181 (by omega) (by omega) (by omega) (by omega) ?_
                refine lv_iload hx hb dL_areReplacedSo_182 (lv_at hl 0 rfl) ?_
                refine kV ⟨hx, hb, hml, hown, hts⟩ hK hA hS hP hD [.int (jz z), .int (jz (fo / 10)), .int (jz (g1 (fo / 10)))] [.int (jz (g1 (fo / 10)))] (mX8_replace_1_k l G x st sv bu di se wy ta tt rp t0 t1 al a0 n0 g0 a1 n1 (up g1 (fo / 10) (fo % 10)) sa u_10 u_11 u_12 u_13 u_14 z (fo / 10) (g1 (fo / 10)) (by omega) (by omega) (by omega) (by omega) (by omega) (by omega) (by exact hf2) (by omega) (by omega) (by omega) (by omega) (by omega)) lkL_27 [6, 7, 8, 9, 5, 11] [0, 1, 2, 3, 4, 10] (br := [bRep G rp q q2 ct ot, bGrid G q b c1, bGrid G q2 b2 c2, bText G ct ca n1 c3, bText G ot oa n0 c4, bGrid G di db u_23]) rfl rfl (by decide) 0 8 rfl rfl rfl rfl (Nat.le_of_ble_eq_true rfl) hl.1 dL_areReplacedSo_184 ⟨Nat.le_of_ble_eq_true rfl, Nat.le_of_ble_eq_true rfl⟩ ⟨Nat.le_of_ble_eq_true rfl, Nat.le_of_ble_eq_true rfl⟩ (fun u9 H locs hp9 hP hD hS => ?_)
                obtain ⟨u_25, u_26, u_27, u_28, u_29⟩ := u9
                have ha_30 : (u_11 < 6 → u_25 = u_10 ∧ u_26 = u_11 + 1) ∧ (u_11 = 6 → u_25 = (u_10 + 1) % 6 ∧ u_26 = 6) := hp9.1
                have hb_31 : (u_29 = u_14 ∨ u_29 = u_14 + 1) ∧ (u_29 : Int) ≤ 6 ∧ u_26 ≤ u_29 ∧ (u_25 = 0 ∨ u_29 = 6) := hp9.2.1
                have hf_32 : ∀ z8 : Int, 0 ≤ z8 → z8 < 6 → u_27 z8 = if z8 < u_29 then some (u_28 z8.toNat).1.1 else none := hp9.2.2.1
                have hp_33 : ∀ i8 : Nat, (i8 : Int) ≠ (u_25 + (u_26 - 1)) % 6 → i8 < u_14 → u_28 i8 = u_13 i8 := hp9.2.2.2.1
                have hq_34 : (u_28 ((u_25 + (u_26 - 1)) % 6).toNat).2.1 = (al, n0, n1) := hp9.2.2.2.2.1
                have hr_35 : ∀ j : Int, 0 ≤ j → j < n0 → (u_28 ((u_25 + (u_26 - 1)) % 6).toNat).2.2.1 j = g0 j := hp9.2.2.2.2.2.1
                have hs_36 : ∀ j : Int, 0 ≤ j → j < n1 → (u_28 ((u_25 + (u_26 - 1)) % 6).toNat).2.2.2 j = (up g1 (fo / 10) (fo % 10)) j := hp9.2.2.2.2.2.2
                have hP : wP G [bRep G rp q q2 ct ot, bGrid G q b c1, bGrid G q2 b2 c2, bText G ct ca n1 c3, bText G ot oa n0 c4, bGrid G di db u_23, bBD G x st sv bu di se wy ta tt rp, bState G st t0 t1 al, bText G t0 a0 n0 g0, bText G t1 a1 n1 (up (up g1 (fo / 10) (fo % 10)) (fo / 10) (g1 (fo / 10))), bSaved G sv sa u_25 u_26 u_27, bPool G u_28 u_29] H := hP
                have hD : wD A [bRep G rp q q2 ct ot, bGrid G q b c1, bGrid G q2 b2 c2, bText G ct ca n1 c3, bText G ot oa n0 c4, bGrid G di db u_23, bBD G x st sv bu di se wy ta tt rp, bState G st t0 t1 al, bText G t0 a0 n0 g0, bText G t1 a1 n1 (up (up g1 (fo / 10) (fo % 10)) (fo / 10) (g1 (fo / 10))), bSaved G sv sa u_25 u_26 u_27, bPool G u_28 u_29] := hD
                show W p l e rmL_areReplacedSo_1 s m args below meth c H locs 10 94 Q (F0 m 187 ls [.int (jz ((up g1 (fo / 10) (fo % 10)) (fo / 10))), .int (jz (g1 (fo / 10)))])
                have hv2 := sv_save hv1.1 ha_30 hb_31 hf_32 hp_33 hq_34 hr_35 hs_36
                obtain ⟨hs3, ho3, hkp3, hk23, hf3⟩ := hv2.1
                obtain ⟨t2a, t2b, t2c, t2d, t2e, t2f⟩ := SV_two hSV hv1 hv2
                refine jv_iconst hx hb dL_areReplacedSo_187 ?_
                refine jv_imul hx hb dL_areReplacedSo_188 ?_
                refine lv_iload hx hb dL_areReplacedSo_189 (lv_at hl 0 rfl) ?_
                refine jv_iadd hx hb dL_areReplacedSo_191 ?_
                refine jv_icmp_ne (tgt := 199) hx hb dL_areReplacedSo_192 (by decide) (by omega) (by omega) (fun c_37 => ?_) (fun c_37 => ?_)
                · exfalso; omega
                · refine jv_iconst hx hb dL_areReplacedSo_195 ?_
                  refine lv_goto (tgt := 200) hx hb dL_areReplacedSo_196 (by decide) ?_
                  refine lv_istore (lv' := [(7, .int (jz 1)), (8, .int (jz (g1 (fo / 10)))), (0, .ref x), (1, .int (jz z)), (2, .int (jz al)), (3, .int (jz (bst0 al n1 n0 g1 g0))), (4, .int (jz n1)), (5, .int (jz fo)), (6, .int (jz lst))]) hx hb dL_areReplacedSo_200 hl (by decide) rfl (fun ls hl => ?_)
                  refine lv_aload_n hx hb dL_areReplacedSo_202 rfl (lv_at hl 2 rfl) ?_
                  refine kV ⟨hx, hb, hml, hown, hts⟩ hK hA hS hP hD [] [] (mX8_undo_k l G x st sv bu di se wy ta tt rp t0 t1 al a0 n0 g0 a1 n1 (up (up g1 (fo / 10) (fo % 10)) (fo / 10) (g1 (fo / 10))) sa u_25 u_26 u_27 u_28 u_29 (((u_25 + (u_26 - 1)) % 6).toNat) (by omega) (by omega) (by omega) (by omega) (by exact hf3) (by rfl) (by intro _; rw [t2c]; exact ⟨hn0, hn1⟩) (by omega)) lkL_40 [6, 7, 8, 9, 10, 11] [0, 1, 2, 3, 4, 5] (br := [bRep G rp q q2 ct ot, bGrid G q b c1, bGrid G q2 b2 c2, bText G ct ca n1 c3, bText G ot oa n0 c4, bGrid G di db u_23]) rfl rfl (by decide) 0 8 rfl rfl rfl rfl (Nat.le_of_ble_eq_true rfl) hl.1 dL_areReplacedSo_203 ⟨Nat.le_of_ble_eq_true rfl, Nat.le_of_ble_eq_true rfl⟩ ⟨Nat.le_of_ble_eq_true rfl, Nat.le_of_ble_eq_true rfl⟩ (fun u9 H locs hp9 hP hD hS => ?_)
                  obtain ⟨u_38, u_39⟩ := u9
                  have hc_40 : ∀ j : Int, 0 ≤ j → j < (u_28 (((u_25 + (u_26 - 1)) % 6).toNat)).2.1.2.1 → u_38 j = (u_28 (((u_25 + (u_26 - 1)) % 6).toNat)).2.2.1 j := hp9.1
                  have hd_41 : ∀ j : Int, 0 ≤ j → j < (u_28 (((u_25 + (u_26 - 1)) % 6).toNat)).2.1.2.2 → u_39 j = (u_28 (((u_25 + (u_26 - 1)) % 6).toNat)).2.2.2 j := hp9.2
                  have hP : wP G [bRep G rp q q2 ct ot, bGrid G q b c1, bGrid G q2 b2 c2, bText G ct ca n1 c3, bText G ot oa n0 c4, bGrid G di db u_23, bBD G x st sv bu di se wy ta tt rp, bState G st t0 t1 ((u_28 (((u_25 + (u_26 - 1)) % 6).toNat)).2.1.1), bText G t0 a0 ((u_28 (((u_25 + (u_26 - 1)) % 6).toNat)).2.1.2.1) u_38, bText G t1 a1 ((u_28 (((u_25 + (u_26 - 1)) % 6).toNat)).2.1.2.2) u_39, bSaved G sv sa u_25 (u_26 - 1) u_27, bPool G u_28 u_29] H := hP
                  have hD : wD A [bRep G rp q q2 ct ot, bGrid G q b c1, bGrid G q2 b2 c2, bText G ct ca n1 c3, bText G ot oa n0 c4, bGrid G di db u_23, bBD G x st sv bu di se wy ta tt rp, bState G st t0 t1 ((u_28 (((u_25 + (u_26 - 1)) % 6).toNat)).2.1.1), bText G t0 a0 ((u_28 (((u_25 + (u_26 - 1)) % 6).toNat)).2.1.2.1) u_38, bText G t1 a1 ((u_28 (((u_25 + (u_26 - 1)) % 6).toNat)).2.1.2.2) u_39, bSaved G sv sa u_25 (u_26 - 1) u_27, bPool G u_28 u_29] := hD
                  show W p l e rmL_areReplacedSo_1 s m args below meth c H locs 10 94 Q (F0 m 206 ls [.int (jz (u_26 - 1))])
                  have hsu := sv_undo hv2.1 (by omega)
                  refine lv_istore (lv' := [(9, .int (jz (u_26 - 1))), (7, .int (jz 1)), (8, .int (jz (g1 (fo / 10)))), (0, .ref x), (1, .int (jz z)), (2, .int (jz al)), (3, .int (jz (bst0 al n1 n0 g1 g0))), (4, .int (jz n1)), (5, .int (jz fo)), (6, .int (jz lst))]) hx hb dL_areReplacedSo_206 hl (by decide) rfl (fun ls hl => ?_)
                  refine lv_aload_n hx hb dL_areReplacedSo_208 rfl (lv_at hl 3 rfl) ?_
                  refine kV ⟨hx, hb, hml, hown, hts⟩ hK hA hS hP hD [] [] (mX8_undo_k l G x st sv bu di se wy ta tt rp t0 t1 ((u_28 (((u_25 + (u_26 - 1)) % 6).toNat)).2.1.1) a0 ((u_28 (((u_25 + (u_26 - 1)) % 6).toNat)).2.1.2.1) u_38 a1 ((u_28 (((u_25 + (u_26 - 1)) % 6).toNat)).2.1.2.2) u_39 sa u_25 (u_26 - 1) u_27 u_28 u_29 (((u_25 + (u_26 - 1 - 1)) % 6).toNat) (by omega) (by omega) (by omega) (by omega) (by exact hf3) (by rfl) (by intro _; rw [t2d]; exact ⟨hn0, hn1⟩) (by omega)) lkL_40 [6, 7, 8, 9, 10, 11] [0, 1, 2, 3, 4, 5] (br := [bRep G rp q q2 ct ot, bGrid G q b c1, bGrid G q2 b2 c2, bText G ct ca n1 c3, bText G ot oa n0 c4, bGrid G di db u_23]) rfl rfl (by decide) 0 8 rfl rfl rfl rfl (Nat.le_of_ble_eq_true rfl) hl.1 dL_areReplacedSo_209 ⟨Nat.le_of_ble_eq_true rfl, Nat.le_of_ble_eq_true rfl⟩ ⟨Nat.le_of_ble_eq_true rfl, Nat.le_of_ble_eq_true rfl⟩ (fun u9 H locs hp9 hP hD hS => ?_)
                  obtain ⟨u_42, u_43⟩ := u9
                  have hc_44 : ∀ j : Int, 0 ≤ j → j < (u_28 (((u_25 + (u_26 - 1 - 1)) % 6).toNat)).2.1.2.1 → u_42 j = (u_28 (((u_25 + (u_26 - 1 - 1)) % 6).toNat)).2.2.1 j := hp9.1
                  have hd_45 : ∀ j : Int, 0 ≤ j → j < (u_28 (((u_25 + (u_26 - 1 - 1)) % 6).toNat)).2.1.2.2 → u_43 j = (u_28 (((u_25 + (u_26 - 1 - 1)) % 6).toNat)).2.2.2 j := hp9.2
                  have hP : wP G [bRep G rp q q2 ct ot, bGrid G q b c1, bGrid G q2 b2 c2, bText G ct ca n1 c3, bText G ot oa n0 c4, bGrid G di db u_23, bBD G x st sv bu di se wy ta tt rp, bState G st t0 t1 ((u_28 (((u_25 + (u_26 - 1 - 1)) % 6).toNat)).2.1.1), bText G t0 a0 ((u_28 (((u_25 + (u_26 - 1 - 1)) % 6).toNat)).2.1.2.1) u_42, bText G t1 a1 ((u_28 (((u_25 + (u_26 - 1 - 1)) % 6).toNat)).2.1.2.2) u_43, bSaved G sv sa u_25 ((u_26 - 1) - 1) u_27, bPool G u_28 u_29] H := hP
                  have hD : wD A [bRep G rp q q2 ct ot, bGrid G q b c1, bGrid G q2 b2 c2, bText G ct ca n1 c3, bText G ot oa n0 c4, bGrid G di db u_23, bBD G x st sv bu di se wy ta tt rp, bState G st t0 t1 ((u_28 (((u_25 + (u_26 - 1 - 1)) % 6).toNat)).2.1.1), bText G t0 a0 ((u_28 (((u_25 + (u_26 - 1 - 1)) % 6).toNat)).2.1.2.1) u_42, bText G t1 a1 ((u_28 (((u_25 + (u_26 - 1 - 1)) % 6).toNat)).2.1.2.2) u_43, bSaved G sv sa u_25 ((u_26 - 1) - 1) u_27, bPool G u_28 u_29] := hD
                  show W p l e rmL_areReplacedSo_1 s m args below meth c H locs 10 94 Q (F0 m 212 ls [.int (jz ((u_26 - 1) - 1))])
                  have hu0 := hc_44
                  have hu1 := hd_45
                  have e9a : (u_28 ((u_25 + (u_26 - 1 - 1)) % 6).toNat).2.1.1 = al := congrArg (fun y => y.1) t2d
                  have e9b : (u_28 ((u_25 + (u_26 - 1 - 1)) % 6).toNat).2.1.2.1 = n0 := congrArg (fun y => y.2.1) t2d
                  have e9c : (u_28 ((u_25 + (u_26 - 1 - 1)) % 6).toNat).2.1.2.2 = n1 := congrArg (fun y => y.2.2) t2d
                  refine lv_istore (lv' := [(9, .int (jz ((u_26 - 1) - 1))), (7, .int (jz 1)), (8, .int (jz (g1 (fo / 10)))), (0, .ref x), (1, .int (jz z)), (2, .int (jz al)), (3, .int (jz (bst0 al n1 n0 g1 g0))), (4, .int (jz n1)), (5, .int (jz fo)), (6, .int (jz lst))]) hx hb dL_areReplacedSo_212 hl (by decide) rfl (fun ls hl => ?_)
                  refine lv_iload hx hb dL_areReplacedSo_214 (lv_at hl 1 rfl) ?_
                  refine jv_if_eq (tgt := 228) hx hb dL_areReplacedSo_216 (by decide) (by omega) (fun c_46 => ?_) (fun c_46 => ?_)
                  · exfalso; omega
                  · refine lv_iload hx hb dL_areReplacedSo_219 (lv_at hl 0 rfl) ?_
                    refine jv_if_lt (tgt := 228) hx hb dL_areReplacedSo_221 (by decide) (by omega) (fun c_47 => ?_) (fun c_47 => ?_)
                    · exfalso; omega
                    · refine jv_iconst hx hb dL_areReplacedSo_224 ?_
                      refine lv_goto (tgt := 229) hx hb dL_areReplacedSo_225 (by decide) ?_
                      refine lv_istore (lv' := [(7, .int (jz 1)), (9, .int (jz ((u_26 - 1) - 1))), (8, .int (jz (g1 (fo / 10)))), (0, .ref x), (1, .int (jz z)), (2, .int (jz al)), (3, .int (jz (bst0 al n1 n0 g1 g0))), (4, .int (jz n1)), (5, .int (jz fo)), (6, .int (jz lst))]) hx hb dL_areReplacedSo_229 hl (by decide) rfl (fun ls hl => ?_)
                      refine lv_iload hx hb dL_areReplacedSo_231 (lv_at hl 0 rfl) ?_
                      refine jv_if_eq (tgt := 246) hx hb dL_areReplacedSo_233 (by decide) (by omega) (fun c_48 => ?_) (fun c_48 => ?_)
                      · exfalso; omega
                      · refine lv_iload_n hx hb dL_areReplacedSo_236 rfl (lv_at hl 6 rfl) ?_
                        refine lv_iload hx hb dL_areReplacedSo_237 (lv_at hl 8 rfl) ?_
                        refine jv_icmp_ne (tgt := 246) hx hb dL_areReplacedSo_239 (by decide) (by omega) (by omega) (fun c_49 => ?_) (fun c_49 => ?_)
                        · exfalso; omega
                        · refine jv_iconst hx hb dL_areReplacedSo_242 ?_
                          refine lv_goto (tgt := 247) hx hb dL_areReplacedSo_243 (by decide) ?_
                          exact cret_i hx hb hr hlocks hS hP hD (Nat.le_of_ble_eq_true rfl) (Nat.le_of_ble_eq_true rfl) (jz_nb (show 1 = 0 ∨ 1 = 1 by omega)) dL_areReplacedSo_247 [6, 7, 8, 9, 5, 0, 1, 2, 3, 4, 10, 11] (by decide) ⟨u_23, (u_28 (((u_25 + (u_26 - 1 - 1)) % 6).toNat)).2.1.1, (u_28 (((u_25 + (u_26 - 1 - 1)) % 6).toNat)).2.1.2.1, u_42, (u_28 (((u_25 + (u_26 - 1 - 1)) % 6).toNat)).2.1.2.2, u_43, c1, c2, c3, c4, u_25, (u_26 - 1) - 1, u_27, u_28, u_29⟩ rfl (show (((u_28 (((u_25 + (u_26 - 1 - 1)) % 6).toNat)).2.1.1) = al ∧ ((u_28 (((u_25 + (u_26 - 1 - 1)) % 6).toNat)).2.1.2.1) = n0 ∧ ((u_28 (((u_25 + (u_26 - 1 - 1)) % 6).toNat)).2.1.2.2) = n1) ∧ (∀ j : Int, 0 ≤ j → j < n0 → 0 ≤ u_42 j ∧ u_42 j < 3) ∧ (∀ j : Int, 0 ≤ j → j < n1 → 0 ≤ u_43 j ∧ u_43 j < 3) ∧ SV u_25 ((u_26 - 1) - 1) u_27 u_28 u_29 from by exact ⟨⟨e9a, e9b, e9c⟩, fun j q1 q2 => by rw [hu0 j q1 (by rw [e9b]; exact q2), t2e j q1 q2]; exact hg0 j q1 q2, fun j q1 q2 => by rw [hu1 j q1 (by rw [e9c]; exact q2), t2f j q1 q2]; exact hg1 j q1 q2, t2b⟩) (congrArg (fun z : Int => some (Value.int (jz z))) (show 1 = 1 from by first | rfl | omega | (split <;> first | rfl | omega | (exfalso; omega)))) hQ
        · refine jv_iconst hx hb dL_areReplacedSo_33 ?_
          refine lv_istore (lv' := [(9, .int (jz 0)), (0, .ref x), (1, .int (jz z)), (2, .int (jz al)), (3, .int (jz (bst0 al n1 n0 g1 g0))), (4, .int (jz n1)), (5, .int (jz fo)), (6, .int (jz lst)), (7, .int (jz 1)), (8, .int (jz kk))]) hx hb dL_areReplacedSo_34 hl (by decide) rfl (fun ls hl => ?_)
          have K36 : ∀ (n9 : Nat) (h2 : Int → Int) (d1 : Int → Int) (d2 : Int → Int) (d3 : Int → Int) (d4 : Int → Int) (fo : Int) (lst : Int) (le : Int) , ((al - le).toNat) < n9 → (0 ≤ le ∧ le ≤ al) → (lRel (fun i v => D 1 (up g1 i v) g0 n1 n0) al n1 fo lst (bLet (fun i v => D 1 (up g1 i v) g0 n1 n0) kk le.toNat (bAll (fun i v => D 1 (up g1 i v) g0 n1 n0) al kk.toNat))) → ∀ (H : Heap) (locs : List Loc) (ls : Array Slot), wP G [bBD G x st sv bu di se wy ta tt rp, bState G st t0 t1 al, bText G t0 a0 n0 g0, bText G t1 a1 n1 g1, bGrid G di db h2, bRep G rp q q2 ct ot, bGrid G q b d1, bGrid G q2 b2 d2, bText G ct ca n1 d3, bText G ot oa n0 d4, bSaved G sv sa od sz f, bPool G ph kp] H → wD A [bBD G x st sv bu di se wy ta tt rp, bState G st t0 t1 al, bText G t0 a0 n0 g0, bText G t1 a1 n1 g1, bGrid G di db h2, bRep G rp q q2 ct ot, bGrid G q b d1, bGrid G q2 b2 d2, bText G ct ca n1 d3, bText G ot oa n0 d4, bSaved G sv sa od sz f, bPool G ph kp] → va_S A s.heap H locs → lv_has ls 12 [(0, .ref x), (1, .int (jz z)), (2, .int (jz al)), (3, .int (jz (bst0 al n1 n0 g1 g0))), (4, .int (jz n1)), (5, .int (jz fo)), (6, .int (jz lst)), (7, .int (jz 1)), (8, .int (jz kk)), (9, .int (jz le))] → W p l e rmL_areReplacedSo_1 s m args below meth c H locs 0 0 Q (F0 m 36 ls []) := by
            intro n9
            induction n9 with
            | zero => intro h2 d1 d2 d3 d4 fo lst le hm9; exact absurd hm9 (Nat.not_lt_zero _)
            | succ n9 ih36 =>
              intro h2 d1 d2 d3 d4 fo lst le hm9 hle hR8 H locs ls hP hD hS hl
              have hlb8 := lRel_bd hR8 (by omega) (by omega)
              have hFb := FR_bd g1 g0 (k := kk) (v := le) (i := n1) (j := n0) (m := n1) (n := n0) rfl rfl hn1 hn0
              refine lv_iload hx hb dL_areReplacedSo_36 (lv_at hl 9 rfl) ?_
              refine lv_iload_n hx hb dL_areReplacedSo_38 rfl (lv_at hl 2 rfl) ?_
              refine jv_icmp_ge (tgt := 131) hx hb dL_areReplacedSo_39 (by decide) (by omega) (by omega) (fun c_50 => ?_) (fun c_50 => ?_)
              · refine jv_iinc (lv' := [(8, .int (jz (kk + 1))), (0, .ref x), (1, .int (jz z)), (2, .int (jz al)), (3, .int (jz (bst0 al n1 n0 g1 g0))), (4, .int (jz n1)), (5, .int (jz fo)), (6, .int (jz lst)), (7, .int (jz 1)), (9, .int (jz le))]) (k := 8) hx hb dL_areReplacedSo_131 hl rfl (by decide) rfl (fun ls hl => ?_)
                refine lv_goto (tgt := 26) hx hb dL_areReplacedSo_134 (by decide) ?_
                exact ih26 h2 d1 d2 d3 d4 fo lst (kk + 1) (by omega) (by omega) (by rw [bAll_s _ _ (by omega), show al = le by omega]; rw [show al = le by omega] at hR8; exact hR8) H _ _ hP hD hS (lv_sub hl [1, 2, 3, 4, 5, 6, 7, 8, 0] rfl)
              · refine lv_aload_n hx hb dL_areReplacedSo_42 rfl (lv_at hl 0 rfl) ?_
                refine lv_iload_n hx hb dL_areReplacedSo_43 rfl (lv_at hl 1 rfl) ?_
                refine lv_iload hx hb dL_areReplacedSo_44 (lv_at hl 8 rfl) ?_
                refine lv_iload hx hb dL_areReplacedSo_46 (lv_at hl 9 rfl) ?_
                refine kV ⟨hx, hb, hml, hown, hts⟩ hK hA hS hP hD [.int (jz z), .int (jz kk), .int (jz le)] [] (mX8_ifReplaced_1_k l G x st sv bu di se wy ta tt rp t0 t1 al a0 n0 g0 a1 n1 g1 q q2 ct ot b d1 b2 d2 ca n1 d3 oa n0 d4 z kk le (by omega) (by omega) (by exact lt3_4 hg0) (by exact lt3_4 hg1) (by omega) (by omega) (by omega) (by omega) (by omega)) lkL_104 [0, 1, 2, 3, 5, 6, 7, 8, 9] [4, 10, 11] (br := [bGrid G di db h2, bSaved G sv sa od sz f, bPool G ph kp]) rfl rfl (by decide) 0 8 rfl rfl rfl rfl (Nat.le_of_ble_eq_true rfl) hl.1 dL_areReplacedSo_48 ⟨Nat.le_of_ble_eq_true rfl, Nat.le_of_ble_eq_true rfl⟩ ⟨Nat.le_of_ble_eq_true rfl, Nat.le_of_ble_eq_true rfl⟩ (fun u9 H locs hp9 hP hD hS => ?_)
                obtain ⟨u_51, u_52, u_53, u_54⟩ := u9
                have hP : wP G [bGrid G di db h2, bSaved G sv sa od sz f, bPool G ph kp, bBD G x st sv bu di se wy ta tt rp, bState G st t0 t1 al, bText G t0 a0 n0 g0, bText G t1 a1 n1 g1, bRep G rp q q2 ct ot, bGrid G q b u_51, bGrid G q2 b2 u_52, bText G ct ca n1 u_53, bText G ot oa n0 u_54] H := hP
                have hD : wD A [bGrid G di db h2, bSaved G sv sa od sz f, bPool G ph kp, bBD G x st sv bu di se wy ta tt rp, bState G st t0 t1 al, bText G t0 a0 n0 g0, bText G t1 a1 n1 g1, bRep G rp q q2 ct ot, bGrid G q b u_51, bGrid G q2 b2 u_52, bText G ct ca n1 u_53, bText G ot oa n0 u_54] := hD
                have hP : wP G [bGrid G di db h2, bSaved G sv sa od sz f, bBD G x st sv bu di se wy ta tt rp, bState G st t0 t1 al, bText G t0 a0 n0 g0, bText G t1 a1 n1 g1, bRep G rp q q2 ct ot, bGrid G q b u_51, bGrid G q2 b2 u_52, bText G ct ca n1 u_53, bText G ot oa n0 u_54, bPool G ph kp] H := wP_sub hP [0, 1, 3, 4, 5, 6, 7, 8, 9, 10, 11, 2] rfl
                have hD : wD A [bGrid G di db h2, bSaved G sv sa od sz f, bBD G x st sv bu di se wy ta tt rp, bState G st t0 t1 al, bText G t0 a0 n0 g0, bText G t1 a1 n1 g1, bRep G rp q q2 ct ot, bGrid G q b u_51, bGrid G q2 b2 u_52, bText G ct ca n1 u_53, bText G ot oa n0 u_54, bPool G ph kp] := wD_sub hD [0, 1, 3, 4, 5, 6, 7, 8, 9, 10, 11, 2] (by decide) rfl
                show W p l e rmL_areReplacedSo_1 s m args below meth c H locs 0 0 Q (F0 m 51 ls [.int (jz (D 1 (up g1 kk le) g0 n1 n0))])
                refine lv_istore (lv' := [(10, .int (jz (D 1 (up g1 kk le) g0 n1 n0))), (0, .ref x), (1, .int (jz z)), (2, .int (jz al)), (3, .int (jz (bst0 al n1 n0 g1 g0))), (4, .int (jz n1)), (5, .int (jz fo)), (6, .int (jz lst)), (7, .int (jz 1)), (8, .int (jz kk)), (9, .int (jz le))]) hx hb dL_areReplacedSo_51 hl (by decide) rfl (fun ls hl => ?_)
                refine lv_iload hx hb dL_areReplacedSo_53 (lv_at hl 0 rfl) ?_
                refine lv_aload_n hx hb dL_areReplacedSo_55 rfl (lv_at hl 1 rfl) ?_
                refine kV ⟨hx, hb, hml, hown, hts⟩ hK hA hS hP hD [] [.int (jz (D 1 (up g1 kk le) g0 n1 n0))] (mX8_distance l G x st sv bu di se wy ta tt rp t0 t1 al a0 n0 g0 a1 n1 g1 db h2 (by omega) (by omega) (by exact lt3_4 hg0) (by exact lt3_4 hg1)) lkL_61 [2, 3, 4, 5, 0] [1, 6, 7, 8, 9, 10, 11] (br := [bSaved G sv sa od sz f, bRep G rp q q2 ct ot, bGrid G q b u_51, bGrid G q2 b2 u_52, bText G ct ca n1 u_53, bText G ot oa n0 u_54, bPool G ph kp]) rfl rfl (by decide) 0 8 rfl rfl rfl rfl (Nat.le_of_ble_eq_true rfl) hl.1 dL_areReplacedSo_56 ⟨Nat.le_of_ble_eq_true rfl, Nat.le_of_ble_eq_true rfl⟩ ⟨Nat.le_of_ble_eq_true rfl, Nat.le_of_ble_eq_true rfl⟩ (fun u9 H locs hp9 hP hD hS => ?_)
                obtain ⟨u_55, rfl⟩ : ∃ z, z = u9 := ⟨_, rfl⟩
                have hP : wP G [bSaved G sv sa od sz f, bRep G rp q q2 ct ot, bGrid G q b u_51, bGrid G q2 b2 u_52, bText G ct ca n1 u_53, bText G ot oa n0 u_54, bPool G ph kp, bBD G x st sv bu di se wy ta tt rp, bState G st t0 t1 al, bText G t0 a0 n0 g0, bText G t1 a1 n1 g1, bGrid G di db u_55] H := hP
                have hD : wD A [bSaved G sv sa od sz f, bRep G rp q q2 ct ot, bGrid G q b u_51, bGrid G q2 b2 u_52, bText G ct ca n1 u_53, bText G ot oa n0 u_54, bPool G ph kp, bBD G x st sv bu di se wy ta tt rp, bState G st t0 t1 al, bText G t0 a0 n0 g0, bText G t1 a1 n1 g1, bGrid G di db u_55] := hD
                have hP : wP G [bSaved G sv sa od sz f, bRep G rp q q2 ct ot, bGrid G q b u_51, bGrid G q2 b2 u_52, bText G ct ca n1 u_53, bText G ot oa n0 u_54, bBD G x st sv bu di se wy ta tt rp, bState G st t0 t1 al, bText G t0 a0 n0 g0, bText G t1 a1 n1 g1, bGrid G di db u_55, bPool G ph kp] H := wP_sub hP [0, 1, 2, 3, 4, 5, 7, 8, 9, 10, 11, 6] rfl
                have hD : wD A [bSaved G sv sa od sz f, bRep G rp q q2 ct ot, bGrid G q b u_51, bGrid G q2 b2 u_52, bText G ct ca n1 u_53, bText G ot oa n0 u_54, bBD G x st sv bu di se wy ta tt rp, bState G st t0 t1 al, bText G t0 a0 n0 g0, bText G t1 a1 n1 g1, bGrid G di db u_55, bPool G ph kp] := wD_sub hD [0, 1, 2, 3, 4, 5, 7, 8, 9, 10, 11, 6] (by decide) rfl
                show W p l e rmL_areReplacedSo_1 s m args below meth c H locs 0 0 Q (F0 m 59 ls [.int (jz (D 1 g0 g1 n0 n1)), .int (jz (D 1 (up g1 kk le) g0 n1 n0))])
                refine jv_isub hx hb dL_areReplacedSo_59 ?_
                refine lv_istore (lv' := [(11, .int (jz ((D 1 (up g1 kk le) g0 n1 n0) - (D 1 g0 g1 n0 n1)))), (10, .int (jz (D 1 (up g1 kk le) g0 n1 n0))), (0, .ref x), (1, .int (jz z)), (2, .int (jz al)), (3, .int (jz (bst0 al n1 n0 g1 g0))), (4, .int (jz n1)), (5, .int (jz fo)), (6, .int (jz lst)), (7, .int (jz 1)), (8, .int (jz kk)), (9, .int (jz le))]) hx hb dL_areReplacedSo_60 hl (by decide) rfl (fun ls hl => ?_)
                refine lv_iload hx hb dL_areReplacedSo_62 (lv_at hl 9 rfl) ?_
                refine jv_if_eq (tgt := 84) hx hb dL_areReplacedSo_64 (by decide) (by omega) (fun c_56 => ?_) (fun c_56 => ?_)
                · exfalso; omega
                · refine lv_iload hx hb dL_areReplacedSo_67 (lv_at hl 0 rfl) ?_
                  refine jv_iconst hx hb dL_areReplacedSo_69 ?_
                  refine jv_icmp_ge (tgt := 84) hx hb dL_areReplacedSo_70 (by decide) (by omega) (by omega) (fun c_57 => ?_) (fun c_57 => ?_)
                  · exfalso; omega
                  · refine lv_iload hx hb dL_areReplacedSo_73 (lv_at hl 0 rfl) ?_
                    refine jv_bipush hx hb dL_areReplacedSo_75 (by decide) ?_
                    refine jv_icmp_le (tgt := 84) hx hb dL_areReplacedSo_77 (by decide) (by omega) (by omega) (fun c_58 => ?_) (fun c_58 => ?_)
                    · exfalso; omega
                    · refine jv_iconst hx hb dL_areReplacedSo_80 ?_
                      refine lv_goto (tgt := 85) hx hb dL_areReplacedSo_81 (by decide) ?_
                      refine lv_istore (lv' := [(7, .int (jz 1)), (11, .int (jz ((D 1 (up g1 kk le) g0 n1 n0) - (D 1 g0 g1 n0 n1)))), (10, .int (jz (D 1 (up g1 kk le) g0 n1 n0))), (0, .ref x), (1, .int (jz z)), (2, .int (jz al)), (3, .int (jz (bst0 al n1 n0 g1 g0))), (4, .int (jz n1)), (5, .int (jz fo)), (6, .int (jz lst)), (8, .int (jz kk)), (9, .int (jz le))]) hx hb dL_areReplacedSo_85 hl (by decide) rfl (fun ls hl => ?_)
                      refine lv_iload hx hb dL_areReplacedSo_87 (lv_at hl 2 rfl) ?_
                      refine lv_iload hx hb dL_areReplacedSo_89 (lv_at hl 9 rfl) ?_
                      refine jv_icmp_ge (tgt := 105) hx hb dL_areReplacedSo_91 (by decide) (by omega) (by omega) (fun c_59 => ?_) (fun c_59 => ?_)
                      · refine lv_iload hx hb dL_areReplacedSo_105 (lv_at hl 8 rfl) ?_
                        refine lv_istore (lv' := [(5, .int (jz fo)), (7, .int (jz 1)), (11, .int (jz ((D 1 (up g1 kk le) g0 n1 n0) - (D 1 g0 g1 n0 n1)))), (10, .int (jz (D 1 (up g1 kk le) g0 n1 n0))), (0, .ref x), (1, .int (jz z)), (2, .int (jz al)), (3, .int (jz (bst0 al n1 n0 g1 g0))), (4, .int (jz n1)), (6, .int (jz lst)), (8, .int (jz kk)), (9, .int (jz le))]) hx hb dL_areReplacedSo_107 hl (by decide) rfl (fun ls hl => ?_)
                        refine lv_iload hx hb dL_areReplacedSo_109 (lv_at hl 3 rfl) ?_
                        refine lv_iload hx hb dL_areReplacedSo_111 (lv_at hl 9 rfl) ?_
                        refine jv_icmp_ge (tgt := 121) hx hb dL_areReplacedSo_113 (by decide) (by omega) (by omega) (fun c_60 => ?_) (fun c_60 => ?_)
                        · refine lv_iload hx hb dL_areReplacedSo_121 (lv_at hl 9 rfl) ?_
                          refine lv_istore (lv' := [(6, .int (jz lst)), (5, .int (jz fo)), (7, .int (jz 1)), (11, .int (jz ((D 1 (up g1 kk le) g0 n1 n0) - (D 1 g0 g1 n0 n1)))), (10, .int (jz (D 1 (up g1 kk le) g0 n1 n0))), (0, .ref x), (1, .int (jz z)), (2, .int (jz al)), (3, .int (jz (bst0 al n1 n0 g1 g0))), (4, .int (jz n1)), (8, .int (jz kk)), (9, .int (jz le))]) hx hb dL_areReplacedSo_123 hl (by decide) rfl (fun ls hl => ?_)
                          refine jv_iinc (lv' := [(9, .int (jz (le + 1))), (6, .int (jz lst)), (5, .int (jz fo)), (7, .int (jz 1)), (11, .int (jz ((D 1 (up g1 kk le) g0 n1 n0) - (D 1 g0 g1 n0 n1)))), (10, .int (jz (D 1 (up g1 kk le) g0 n1 n0))), (0, .ref x), (1, .int (jz z)), (2, .int (jz al)), (3, .int (jz (bst0 al n1 n0 g1 g0))), (4, .int (jz n1)), (8, .int (jz kk))]) (k := 11) hx hb dL_areReplacedSo_125 hl rfl (by decide) rfl (fun ls hl => ?_)
                          refine lv_goto (tgt := 36) hx hb dL_areReplacedSo_128 (by decide) ?_
                          exact ih36 u_55 u_51 u_52 u_53 u_54 fo lst (le + 1) (by omega) (by omega) (by rw [bLet_s _ _ (by omega)]; first | exact lRel_up hR8 rfl (by omega) (by omega) (by omega) (by omega) (by assumption) | exact lRel_no hR8 (by omega) (by omega) | (exfalso; omega)) H _ _ (wP_sub (bc := [bBD G x st sv bu di se wy ta tt rp, bState G st t0 t1 al, bText G t0 a0 n0 g0, bText G t1 a1 n1 g1, bGrid G di db u_55, bRep G rp q q2 ct ot, bGrid G q b u_51, bGrid G q2 b2 u_52, bText G ct ca n1 u_53, bText G ot oa n0 u_54, bSaved G sv sa od sz f, bPool G ph kp]) hP [6, 7, 8, 9, 10, 1, 2, 3, 4, 5, 0, 11] rfl) (wD_sub (bc := [bBD G x st sv bu di se wy ta tt rp, bState G st t0 t1 al, bText G t0 a0 n0 g0, bText G t1 a1 n1 g1, bGrid G di db u_55, bRep G rp q q2 ct ot, bGrid G q b u_51, bGrid G q2 b2 u_52, bText G ct ca n1 u_53, bText G ot oa n0 u_54, bSaved G sv sa od sz f, bPool G ph kp]) hD [6, 7, 8, 9, 10, 1, 2, 3, 4, 5, 0, 11] (by decide) rfl) hS (lv_sub hl [6, 7, 8, 9, 10, 2, 1, 3, 11, 0] rfl)
                        · refine lv_iload hx hb dL_areReplacedSo_116 (lv_at hl 3 rfl) ?_
                          refine lv_goto (tgt := 123) hx hb dL_areReplacedSo_118 (by decide) ?_
                          refine lv_istore (lv' := [(6, .int (jz (D 1 (up g1 kk le) g0 n1 n0))), (5, .int (jz fo)), (7, .int (jz 1)), (11, .int (jz ((D 1 (up g1 kk le) g0 n1 n0) - (D 1 g0 g1 n0 n1)))), (10, .int (jz (D 1 (up g1 kk le) g0 n1 n0))), (0, .ref x), (1, .int (jz z)), (2, .int (jz al)), (3, .int (jz (bst0 al n1 n0 g1 g0))), (4, .int (jz n1)), (8, .int (jz kk)), (9, .int (jz le))]) hx hb dL_areReplacedSo_123 hl (by decide) rfl (fun ls hl => ?_)
                          refine jv_iinc (lv' := [(9, .int (jz (le + 1))), (6, .int (jz (D 1 (up g1 kk le) g0 n1 n0))), (5, .int (jz fo)), (7, .int (jz 1)), (11, .int (jz ((D 1 (up g1 kk le) g0 n1 n0) - (D 1 g0 g1 n0 n1)))), (10, .int (jz (D 1 (up g1 kk le) g0 n1 n0))), (0, .ref x), (1, .int (jz z)), (2, .int (jz al)), (3, .int (jz (bst0 al n1 n0 g1 g0))), (4, .int (jz n1)), (8, .int (jz kk))]) (k := 11) hx hb dL_areReplacedSo_125 hl rfl (by decide) rfl (fun ls hl => ?_)
                          refine lv_goto (tgt := 36) hx hb dL_areReplacedSo_128 (by decide) ?_
                          exact ih36 u_55 u_51 u_52 u_53 u_54 fo (D 1 (up g1 kk le) g0 n1 n0) (le + 1) (by omega) (by omega) (by rw [bLet_s _ _ (by omega)]; first | exact lRel_up hR8 rfl (by omega) (by omega) (by omega) (by omega) (by assumption) | exact lRel_no hR8 (by omega) (by omega) | (exfalso; omega)) H _ _ (wP_sub (bc := [bBD G x st sv bu di se wy ta tt rp, bState G st t0 t1 al, bText G t0 a0 n0 g0, bText G t1 a1 n1 g1, bGrid G di db u_55, bRep G rp q q2 ct ot, bGrid G q b u_51, bGrid G q2 b2 u_52, bText G ct ca n1 u_53, bText G ot oa n0 u_54, bSaved G sv sa od sz f, bPool G ph kp]) hP [6, 7, 8, 9, 10, 1, 2, 3, 4, 5, 0, 11] rfl) (wD_sub (bc := [bBD G x st sv bu di se wy ta tt rp, bState G st t0 t1 al, bText G t0 a0 n0 g0, bText G t1 a1 n1 g1, bGrid G di db u_55, bRep G rp q q2 ct ot, bGrid G q b u_51, bGrid G q2 b2 u_52, bText G ct ca n1 u_53, bText G ot oa n0 u_54, bSaved G sv sa od sz f, bPool G ph kp]) hD [6, 7, 8, 9, 10, 1, 2, 3, 4, 5, 0, 11] (by decide) rfl) hS (lv_sub hl [6, 7, 8, 9, 10, 2, 1, 3, 11, 0] rfl)
                      · refine jv_bipush hx hb dL_areReplacedSo_94 (by decide) ?_
                        refine lv_iload hx hb dL_areReplacedSo_96 (lv_at hl 10 rfl) ?_
                        refine jv_imul hx hb dL_areReplacedSo_98 ?_
                        refine lv_iload hx hb dL_areReplacedSo_99 (lv_at hl 11 rfl) ?_
                        refine jv_iadd hx hb dL_areReplacedSo_101 ?_
                        refine lv_goto (tgt := 107) hx hb dL_areReplacedSo_102 (by decide) ?_
                        refine lv_istore (lv' := [(5, .int (jz ((10 * kk) + le))), (7, .int (jz 1)), (11, .int (jz ((D 1 (up g1 kk le) g0 n1 n0) - (D 1 g0 g1 n0 n1)))), (10, .int (jz (D 1 (up g1 kk le) g0 n1 n0))), (0, .ref x), (1, .int (jz z)), (2, .int (jz al)), (3, .int (jz (bst0 al n1 n0 g1 g0))), (4, .int (jz n1)), (6, .int (jz lst)), (8, .int (jz kk)), (9, .int (jz le))]) hx hb dL_areReplacedSo_107 hl (by decide) rfl (fun ls hl => ?_)
                        refine lv_iload hx hb dL_areReplacedSo_109 (lv_at hl 3 rfl) ?_
                        refine lv_iload hx hb dL_areReplacedSo_111 (lv_at hl 9 rfl) ?_
                        refine jv_icmp_ge (tgt := 121) hx hb dL_areReplacedSo_113 (by decide) (by omega) (by omega) (fun c_61 => ?_) (fun c_61 => ?_)
                        · refine lv_iload hx hb dL_areReplacedSo_121 (lv_at hl 9 rfl) ?_
                          refine lv_istore (lv' := [(6, .int (jz lst)), (5, .int (jz ((10 * kk) + le))), (7, .int (jz 1)), (11, .int (jz ((D 1 (up g1 kk le) g0 n1 n0) - (D 1 g0 g1 n0 n1)))), (10, .int (jz (D 1 (up g1 kk le) g0 n1 n0))), (0, .ref x), (1, .int (jz z)), (2, .int (jz al)), (3, .int (jz (bst0 al n1 n0 g1 g0))), (4, .int (jz n1)), (8, .int (jz kk)), (9, .int (jz le))]) hx hb dL_areReplacedSo_123 hl (by decide) rfl (fun ls hl => ?_)
                          refine jv_iinc (lv' := [(9, .int (jz (le + 1))), (6, .int (jz lst)), (5, .int (jz ((10 * kk) + le))), (7, .int (jz 1)), (11, .int (jz ((D 1 (up g1 kk le) g0 n1 n0) - (D 1 g0 g1 n0 n1)))), (10, .int (jz (D 1 (up g1 kk le) g0 n1 n0))), (0, .ref x), (1, .int (jz z)), (2, .int (jz al)), (3, .int (jz (bst0 al n1 n0 g1 g0))), (4, .int (jz n1)), (8, .int (jz kk))]) (k := 11) hx hb dL_areReplacedSo_125 hl rfl (by decide) rfl (fun ls hl => ?_)
                          refine lv_goto (tgt := 36) hx hb dL_areReplacedSo_128 (by decide) ?_
                          exact ih36 u_55 u_51 u_52 u_53 u_54 ((10 * kk) + le) lst (le + 1) (by omega) (by omega) (by rw [bLet_s _ _ (by omega)]; first | exact lRel_up hR8 rfl (by omega) (by omega) (by omega) (by omega) (by assumption) | exact lRel_no hR8 (by omega) (by omega) | (exfalso; omega)) H _ _ (wP_sub (bc := [bBD G x st sv bu di se wy ta tt rp, bState G st t0 t1 al, bText G t0 a0 n0 g0, bText G t1 a1 n1 g1, bGrid G di db u_55, bRep G rp q q2 ct ot, bGrid G q b u_51, bGrid G q2 b2 u_52, bText G ct ca n1 u_53, bText G ot oa n0 u_54, bSaved G sv sa od sz f, bPool G ph kp]) hP [6, 7, 8, 9, 10, 1, 2, 3, 4, 5, 0, 11] rfl) (wD_sub (bc := [bBD G x st sv bu di se wy ta tt rp, bState G st t0 t1 al, bText G t0 a0 n0 g0, bText G t1 a1 n1 g1, bGrid G di db u_55, bRep G rp q q2 ct ot, bGrid G q b u_51, bGrid G q2 b2 u_52, bText G ct ca n1 u_53, bText G ot oa n0 u_54, bSaved G sv sa od sz f, bPool G ph kp]) hD [6, 7, 8, 9, 10, 1, 2, 3, 4, 5, 0, 11] (by decide) rfl) hS (lv_sub hl [6, 7, 8, 9, 10, 2, 1, 3, 11, 0] rfl)
                        · refine lv_iload hx hb dL_areReplacedSo_116 (lv_at hl 3 rfl) ?_
                          refine lv_goto (tgt := 123) hx hb dL_areReplacedSo_118 (by decide) ?_
                          refine lv_istore (lv' := [(6, .int (jz (D 1 (up g1 kk le) g0 n1 n0))), (5, .int (jz ((10 * kk) + le))), (7, .int (jz 1)), (11, .int (jz ((D 1 (up g1 kk le) g0 n1 n0) - (D 1 g0 g1 n0 n1)))), (10, .int (jz (D 1 (up g1 kk le) g0 n1 n0))), (0, .ref x), (1, .int (jz z)), (2, .int (jz al)), (3, .int (jz (bst0 al n1 n0 g1 g0))), (4, .int (jz n1)), (8, .int (jz kk)), (9, .int (jz le))]) hx hb dL_areReplacedSo_123 hl (by decide) rfl (fun ls hl => ?_)
                          refine jv_iinc (lv' := [(9, .int (jz (le + 1))), (6, .int (jz (D 1 (up g1 kk le) g0 n1 n0))), (5, .int (jz ((10 * kk) + le))), (7, .int (jz 1)), (11, .int (jz ((D 1 (up g1 kk le) g0 n1 n0) - (D 1 g0 g1 n0 n1)))), (10, .int (jz (D 1 (up g1 kk le) g0 n1 n0))), (0, .ref x), (1, .int (jz z)), (2, .int (jz al)), (3, .int (jz (bst0 al n1 n0 g1 g0))), (4, .int (jz n1)), (8, .int (jz kk))]) (k := 11) hx hb dL_areReplacedSo_125 hl rfl (by decide) rfl (fun ls hl => ?_)
                          refine lv_goto (tgt := 36) hx hb dL_areReplacedSo_128 (by decide) ?_
                          exact ih36 u_55 u_51 u_52 u_53 u_54 ((10 * kk) + le) (D 1 (up g1 kk le) g0 n1 n0) (le + 1) (by omega) (by omega) (by rw [bLet_s _ _ (by omega)]; first | exact lRel_up hR8 rfl (by omega) (by omega) (by omega) (by omega) (by assumption) | exact lRel_no hR8 (by omega) (by omega) | (exfalso; omega)) H _ _ (wP_sub (bc := [bBD G x st sv bu di se wy ta tt rp, bState G st t0 t1 al, bText G t0 a0 n0 g0, bText G t1 a1 n1 g1, bGrid G di db u_55, bRep G rp q q2 ct ot, bGrid G q b u_51, bGrid G q2 b2 u_52, bText G ct ca n1 u_53, bText G ot oa n0 u_54, bSaved G sv sa od sz f, bPool G ph kp]) hP [6, 7, 8, 9, 10, 1, 2, 3, 4, 5, 0, 11] rfl) (wD_sub (bc := [bBD G x st sv bu di se wy ta tt rp, bState G st t0 t1 al, bText G t0 a0 n0 g0, bText G t1 a1 n1 g1, bGrid G di db u_55, bRep G rp q q2 ct ot, bGrid G q b u_51, bGrid G q2 b2 u_52, bText G ct ca n1 u_53, bText G ot oa n0 u_54, bSaved G sv sa od sz f, bPool G ph kp]) hD [6, 7, 8, 9, 10, 1, 2, 3, 4, 5, 0, 11] (by decide) rfl) hS (lv_sub hl [6, 7, 8, 9, 10, 2, 1, 3, 11, 0] rfl)
          exact K36 (((al - 0).toNat) + 1) h1 c1 c2 c3 c4 fo lst 0 (Nat.lt_succ_self _) (by omega) (by exact hR9) H _ _ hP hD hS (lv_sub hl [1, 2, 3, 4, 5, 6, 7, 8, 9, 0] rfl)
    exact K26 (((n1 - 0).toNat) + 1) dh u_1 u_2 u_3 u_4 ((-1)) 99 0 (Nat.lt_succ_self _) (by omega) (by exact Or.inl ⟨rfl, rfl, rfl⟩) H _ _ (wP_sub (bc := [bBD G x st sv bu di se wy ta tt rp, bState G st t0 t1 al, bText G t0 a0 n0 g0, bText G t1 a1 n1 g1, bGrid G di db dh, bRep G rp q q2 ct ot, bGrid G q b u_1, bGrid G q2 b2 u_2, bText G ct ca n1 u_3, bText G ot oa n0 u_4, bSaved G sv sa od sz f, bPool G ph kp]) hP [7, 8, 9, 10, 0, 2, 3, 4, 5, 6, 1, 11] rfl) (wD_sub (bc := [bBD G x st sv bu di se wy ta tt rp, bState G st t0 t1 al, bText G t0 a0 n0 g0, bText G t1 a1 n1 g1, bGrid G di db dh, bRep G rp q q2 ct ot, bGrid G q b u_1, bGrid G q2 b2 u_2, bText G ct ca n1 u_3, bText G ot oa n0 u_4, bSaved G sv sa od sz f, bPool G ph kp]) hD [7, 8, 9, 10, 0, 2, 3, 4, 5, 6, 1, 11] (by decide) rfl) hS (lv_sub hl [6, 7, 8, 5, 4, 3, 2, 1, 0] rfl)
  exact KH s.heap [] hP hD hS
