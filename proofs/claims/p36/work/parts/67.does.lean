abbrev rmL_does : Room := { frames := 6, cells := 5, slots := 47, locals := 143 }
set_option maxHeartbeats 4000000 in
set_option maxRecDepth 100000 in
theorem mL_does (l : Launch) (G : GG) (x : Nat) (st : Nat) (sv : Nat) (bu : Nat) (di : Nat) (se : Nat) (wy : Nat) (ta : Nat) (tt : Nat) (rp : Nat) (t0 : Nat) (t1 : Nat) (al : Int) (a0 : Nat) (n0 : Int) (g0 : Int → Int) (a1 : Nat) (n1 : Int) (g1 : Int → Int) (db : Nat) (dh : Int → Int) (ta : Nat) (tm : Nat) (bs : Int) (hi : Int) (mi : Int) (si : Int) (F : Int → Int64) (sa : Nat) (od : Int) (sz : Int) (f : Int → Option Nat) (ph : Nat → SG) (kp : Nat) (v : Int) (M : Int → Bool) (B : Int) (hn0 : 0 ≤ n0 ∧ n0 ≤ 20) (hn1 : 0 ≤ n1 ∧ n1 ≤ 20) (hg0 : ∀ j : Int, 0 ≤ j → j < n0 → 0 ≤ g0 j ∧ g0 j < 3) (hg1 : ∀ j : Int, 0 ≤ j → j < n1 → 0 ≤ g1 j ∧ g1 j < 3) (hal : 3 ≤ al ∧ al ≤ 4) (hbs : bs = 1 ∨ bs = 2) (hM : rM F M) (hct : (-B ≤ hi ∧ hi ≤ B) ∧ (-B ≤ mi ∧ mi ≤ B) ∧ (-B ≤ si ∧ si ≤ B) ∧ 0 ≤ B ∧ B ≤ 1000000) (hSV : SV od sz f ph kp) (hv : jr v) : Ct l yL_does cL_does 5 (some .int) rmL_does G [.ref x, .int (jz v)] [bBD G x st sv bu di se wy ta tt rp, bState G st t0 t1 al, bText G t0 a0 n0 g0, bText G t1 a1 n1 g1, bGrid G di db dh, bTab G ta tm bs hi mi si F, bSaved G sv sa od sz f, bPool G ph kp] (fun uo : Nat × Nat × Int × Nat × Int × (Int → Int) × Nat × Int × (Int → Int) × (Int → Int) × Int × Int × Int × Int × (Int → Int64) × (Int → Bool) × Int × Int × (Int → Option Nat) × (Nat → SG) × Nat × Int => some (.int (jz uo.2.2.2.2.2.2.2.2.2.2.2.2.2.2.2.2.2.2.2.2.2))) (fun uo => ((0 ≤ uo.2.2.2.2.2.2.2.2.2.2.2.2.2.2.2.2.2.2.2.2.2 ∧ uo.2.2.2.2.2.2.2.2.2.2.2.2.2.2.2.2.2.2.2.2.2 ≤ 100) ∧ (3 ≤ uo.2.2.1 ∧ uo.2.2.1 ≤ 4) ∧ (0 ≤ uo.2.2.2.2.1 ∧ uo.2.2.2.2.1 ≤ 20) ∧ (0 ≤ uo.2.2.2.2.2.2.2.1 ∧ uo.2.2.2.2.2.2.2.1 ≤ 20)) ∧ (∀ j : Int, 0 ≤ j → j < uo.2.2.2.2.1 → 0 ≤ uo.2.2.2.2.2.1 j ∧ uo.2.2.2.2.2.1 j < 3) ∧ (∀ j : Int, 0 ≤ j → j < uo.2.2.2.2.2.2.2.1 → 0 ≤ uo.2.2.2.2.2.2.2.2.1 j ∧ uo.2.2.2.2.2.2.2.2.1 j < 3) ∧ (SV uo.2.2.2.2.2.2.2.2.2.2.2.2.2.2.2.2.1 uo.2.2.2.2.2.2.2.2.2.2.2.2.2.2.2.2.2.1 uo.2.2.2.2.2.2.2.2.2.2.2.2.2.2.2.2.2.2.1 uo.2.2.2.2.2.2.2.2.2.2.2.2.2.2.2.2.2.2.2.1 uo.2.2.2.2.2.2.2.2.2.2.2.2.2.2.2.2.2.2.2.2.1) ∧ (uo.2.2.2.2.2.2.2.2.2.2.1 = if an v 15 = 10 ∧ an (sh v 5) 3 = 0 then 1 + an (sh v 7) 1 else bs) ∧ (rM uo.2.2.2.2.2.2.2.2.2.2.2.2.2.2.1 uo.2.2.2.2.2.2.2.2.2.2.2.2.2.2.2.1) ∧ ((-(B + 2000) ≤ uo.2.2.2.2.2.2.2.2.2.2.2.1 ∧ uo.2.2.2.2.2.2.2.2.2.2.2.1 ≤ B + 2000) ∧ (-(B + 2000) ≤ uo.2.2.2.2.2.2.2.2.2.2.2.2.1 ∧ uo.2.2.2.2.2.2.2.2.2.2.2.2.1 ≤ B + 2000) ∧ (-(B + 2000) ≤ uo.2.2.2.2.2.2.2.2.2.2.2.2.2.1 ∧ uo.2.2.2.2.2.2.2.2.2.2.2.2.2.1 ≤ B + 2000))) (fun uo => [bBD G x st sv bu di se wy ta tt rp, bState G st uo.1 uo.2.1 uo.2.2.1, bText G uo.1 uo.2.2.2.1 uo.2.2.2.2.1 uo.2.2.2.2.2.1, bText G uo.2.1 uo.2.2.2.2.2.2.1 uo.2.2.2.2.2.2.2.1 uo.2.2.2.2.2.2.2.2.1, bGrid G di db uo.2.2.2.2.2.2.2.2.2.1, bTab G ta tm uo.2.2.2.2.2.2.2.2.2.2.1 uo.2.2.2.2.2.2.2.2.2.2.2.1 uo.2.2.2.2.2.2.2.2.2.2.2.2.1 uo.2.2.2.2.2.2.2.2.2.2.2.2.2.1 uo.2.2.2.2.2.2.2.2.2.2.2.2.2.2.1, bSaved G sv sa uo.2.2.2.2.2.2.2.2.2.2.2.2.2.2.2.2.1 uo.2.2.2.2.2.2.2.2.2.2.2.2.2.2.2.2.2.1 uo.2.2.2.2.2.2.2.2.2.2.2.2.2.2.2.2.2.2.1, bPool G uo.2.2.2.2.2.2.2.2.2.2.2.2.2.2.2.2.2.2.2.1 uo.2.2.2.2.2.2.2.2.2.2.2.2.2.2.2.2.2.2.2.2.1]) := by
  refine cof (by decide) (Nat.le_of_ble_eq_true rfl) ?_
  intro p e s m args below meth c A ls hx hb hr hml hown hts hlocks hin hA hK hP hD hS hl Q hQ
  have hown : s.vm.findClass RL = some m.cls := hown
  have hl : lv_has ls 5 [(0, .ref x), (1, .int (jz v))] := hl
  have KH : ∀ (H : Heap) (locs : List Loc), wP G [bBD G x st sv bu di se wy ta tt rp, bState G st t0 t1 al, bText G t0 a0 n0 g0, bText G t1 a1 n1 g1, bGrid G di db dh, bTab G ta tm bs hi mi si F, bSaved G sv sa od sz f, bPool G ph kp] H → wD A [bBD G x st sv bu di se wy ta tt rp, bState G st t0 t1 al, bText G t0 a0 n0 g0, bText G t1 a1 n1 g1, bGrid G di db dh, bTab G ta tm bs hi mi si F, bSaved G sv sa od sz f, bPool G ph kp] → va_S A s.heap H locs → W p l e rmL_does s m args below meth c H locs 0 0 Q (F0 m 0 ls []) := by
    intro H locs hP hD hS
    obtain ⟨hs, ho, hkp, hk2, hf⟩ := hSV.1
    have hdb := D_bd (c := 1) (Or.inr rfl) g0 g1 (i := n0) (j := n1) (by omega) (by omega)
    have hwb := whB_bd (t := bs) hbs hn0 hn1
    refine lv_iload_n hx hb dL_does_0 rfl (lv_at hl 1 rfl) ?_
    refine jv_iconst hx hb dL_does_1 ?_
    refine jv_ishr hx hb dL_does_2 ?_
    refine jv_iconst hx hb dL_does_3 ?_
    refine jv_iand hx hb dL_does_4 ?_
    have ha_1 := an_bd (sh v 4) (y := 1) (by decide) (by decide)
    refine lv_istore_n (lv' := [(2, .int (jz (an (sh v 4) 1))), (0, .ref x), (1, .int (jz v))]) hx hb dL_does_5 rfl hl (by decide) rfl (fun ls hl => ?_)
    refine lv_aload_n hx hb dL_does_6 rfl (lv_at hl 1 rfl) ?_
    refine lv_iload_n hx hb dL_does_7 rfl (lv_at hl 0 rfl) ?_
    by_cases hz8 : an (sh v 4) 1 = 0
    · refine kV ⟨hx, hb, hml, hown, hts⟩ hK hA hS hP hD [.int (jz (an (sh v 4) 1))] [] (mX8_length_0 l G x st sv bu di se wy ta tt rp t0 t1 al a0 n0 g0 a1 n1 g1 (an (sh v 4) 1) (by omega)) lkL_8 [0, 1, 2, 3] [4, 5, 6, 7] (br := [bGrid G di db dh, bTab G ta tm bs hi mi si F, bSaved G sv sa od sz f, bPool G ph kp]) rfl rfl (by decide) 0 8 rfl rfl rfl rfl (Nat.le_of_ble_eq_true rfl) hl.1 dL_does_8 ⟨Nat.le_of_ble_eq_true rfl, Nat.le_of_ble_eq_true rfl⟩ ⟨Nat.le_of_ble_eq_true rfl, Nat.le_of_ble_eq_true rfl⟩ (fun u9 H locs hp9 hP hD hS => ?_)
      have hP : wP G [bGrid G di db dh, bTab G ta tm bs hi mi si F, bSaved G sv sa od sz f, bPool G ph kp, bBD G x st sv bu di se wy ta tt rp, bState G st t0 t1 al, bText G t0 a0 n0 g0, bText G t1 a1 n1 g1] H := hP
      have hD : wD A [bGrid G di db dh, bTab G ta tm bs hi mi si F, bSaved G sv sa od sz f, bPool G ph kp, bBD G x st sv bu di se wy ta tt rp, bState G st t0 t1 al, bText G t0 a0 n0 g0, bText G t1 a1 n1 g1] := hD
      have hP : wP G [bGrid G di db dh, bTab G ta tm bs hi mi si F, bSaved G sv sa od sz f, bBD G x st sv bu di se wy ta tt rp, bState G st t0 t1 al, bText G t0 a0 n0 g0, bText G t1 a1 n1 g1, bPool G ph kp] H := wP_sub hP [0, 1, 2, 4, 5, 6, 7, 3] rfl
      have hD : wD A [bGrid G di db dh, bTab G ta tm bs hi mi si F, bSaved G sv sa od sz f, bBD G x st sv bu di se wy ta tt rp, bState G st t0 t1 al, bText G t0 a0 n0 g0, bText G t1 a1 n1 g1, bPool G ph kp] := wD_sub hD [0, 1, 2, 4, 5, 6, 7, 3] (by decide) rfl
      show W p l e rmL_does s m args below meth c H locs 0 0 Q (F0 m 11 ls [.int (jz n0)])
      refine lv_istore_n (lv' := [(3, .int (jz n0)), (2, .int (jz (an (sh v 4) 1))), (0, .ref x), (1, .int (jz v))]) hx hb dL_does_11 rfl hl (by decide) rfl (fun ls hl => ?_)
      refine lv_iload_n hx hb dL_does_12 rfl (lv_at hl 3 rfl) ?_
      refine jv_iconst hx hb dL_does_13 ?_
      refine jv_ishr hx hb dL_does_14 ?_
      refine jv_iconst hx hb dL_does_15 ?_
      refine kS ⟨hx, hb, hml, hown, hts⟩ hK hA hS hP hD [.int (jz (sh v 5)), .int (jz 3)] [] (mL_low l G (sh v 5) 3 (by omega)) lkL_14 [] [0, 1, 2, 3, 4, 5, 6, 7] (br := [bGrid G di db dh, bTab G ta tm bs hi mi si F, bSaved G sv sa od sz f, bBD G x st sv bu di se wy ta tt rp, bState G st t0 t1 al, bText G t0 a0 n0 g0, bText G t1 a1 n1 g1, bPool G ph kp]) rfl rfl (by decide) rfl rfl (Nat.le_of_ble_eq_true rfl) hl.1 dL_does_16 ⟨Nat.le_of_ble_eq_true rfl, Nat.le_of_ble_eq_true rfl⟩ ⟨Nat.le_of_ble_eq_true rfl, Nat.le_of_ble_eq_true rfl⟩ (fun u9 H locs hp9 hP hD hS => ?_)
      obtain ⟨u_3, rfl⟩ : ∃ z, z = u9 := ⟨_, rfl⟩
      have hc_4 : 0 ≤ u_3 ∧ u_3 < 3 := hp9
      have hP : wP G [bGrid G di db dh, bTab G ta tm bs hi mi si F, bSaved G sv sa od sz f, bBD G x st sv bu di se wy ta tt rp, bState G st t0 t1 al, bText G t0 a0 n0 g0, bText G t1 a1 n1 g1, bPool G ph kp] H := hP
      have hD : wD A [bGrid G di db dh, bTab G ta tm bs hi mi si F, bSaved G sv sa od sz f, bBD G x st sv bu di se wy ta tt rp, bState G st t0 t1 al, bText G t0 a0 n0 g0, bText G t1 a1 n1 g1, bPool G ph kp] := hD
      show W p l e rmL_does s m args below meth c H locs 0 0 Q (F0 m 19 ls [.int (jz u_3)])
      refine lv_istore (lv' := [(4, .int (jz u_3)), (3, .int (jz n0)), (2, .int (jz (an (sh v 4) 1))), (0, .ref x), (1, .int (jz v))]) hx hb dL_does_19 hl (by decide) rfl (fun ls hl => ?_)
      refine lv_iload_n hx hb dL_does_21 rfl (lv_at hl 4 rfl) ?_
      refine jv_bipush hx hb dL_does_22 (by decide) ?_
      refine jv_iand hx hb dL_does_24 ?_
      have ha_5 := an_bd v (y := 15) (by decide) (by decide)
      have K92 : ∀ (nn : Int) (le : Int) , (an v 15 ≤ 5) → ((an (sh v 4) 1 = 0 → nn = n0) ∧ (an (sh v 4) 1 = 1 → nn = n1)) → (0 ≤ le ∧ le < 3) → ∀ (H : Heap) (locs : List Loc) (ls : Array Slot), wP G [bGrid G di db dh, bTab G ta tm bs hi mi si F, bSaved G sv sa od sz f, bBD G x st sv bu di se wy ta tt rp, bState G st t0 t1 al, bText G t0 a0 n0 g0, bText G t1 a1 n1 g1, bPool G ph kp] H → wD A [bGrid G di db dh, bTab G ta tm bs hi mi si F, bSaved G sv sa od sz f, bBD G x st sv bu di se wy ta tt rp, bState G st t0 t1 al, bText G t0 a0 n0 g0, bText G t1 a1 n1 g1, bPool G ph kp] → va_S A s.heap H locs → lv_has ls 5 [(0, .ref x), (1, .int (jz v)), (2, .int (jz (an (sh v 4) 1))), (3, .int (jz nn)), (4, .int (jz le))] → W p l e rmL_does s m args below meth c H locs 0 0 Q (F0 m 92 ls []) := by
        intro nn le h5 hnn hle H locs ls hP hD hS hl
        refine lv_iload_n hx hb dL_does_92 rfl (lv_at hl 3 rfl) ?_
        refine jv_bipush hx hb dL_does_93 (by decide) ?_
        refine jv_icmp_ne (tgt := 102) hx hb dL_does_95 (by decide) (by omega) (by omega) (fun c_6 => ?_) (fun c_6 => ?_)
        · refine lv_aload_n hx hb dL_does_102 rfl (lv_at hl 0 rfl) ?_
          refine lv_iload_n hx hb dL_does_103 rfl (lv_at hl 2 rfl) ?_
          refine lv_iload_n hx hb dL_does_104 rfl (lv_at hl 1 rfl) ?_
          refine jv_bipush hx hb dL_does_105 (by decide) ?_
          refine jv_ishr hx hb dL_does_107 ?_
          refine lv_iload_n hx hb dL_does_108 rfl (lv_at hl 3 rfl) ?_
          refine jv_iconst hx hb dL_does_109 ?_
          refine jv_iadd hx hb dL_does_110 ?_
          refine kS ⟨hx, hb, hml, hown, hts⟩ hK hA hS hP hD [.int (jz (sh v 7)), .int (jz (nn + 1))] [.int (jz (an (sh v 4) 1)), .ref x] (mL_low l G (sh v 7) (nn + 1) (by omega)) lkL_14 [] [0, 1, 2, 3, 4, 5, 6, 7] (br := [bGrid G di db dh, bTab G ta tm bs hi mi si F, bSaved G sv sa od sz f, bBD G x st sv bu di se wy ta tt rp, bState G st t0 t1 al, bText G t0 a0 n0 g0, bText G t1 a1 n1 g1, bPool G ph kp]) rfl rfl (by decide) rfl rfl (Nat.le_of_ble_eq_true rfl) hl.1 dL_does_111 ⟨Nat.le_of_ble_eq_true rfl, Nat.le_of_ble_eq_true rfl⟩ ⟨Nat.le_of_ble_eq_true rfl, Nat.le_of_ble_eq_true rfl⟩ (fun u9 H locs hp9 hP hD hS => ?_)
          obtain ⟨u_7, rfl⟩ : ∃ z, z = u9 := ⟨_, rfl⟩
          have hc_8 : 0 ≤ u_7 ∧ u_7 < (nn + 1) := hp9
          have hP : wP G [bGrid G di db dh, bTab G ta tm bs hi mi si F, bSaved G sv sa od sz f, bBD G x st sv bu di se wy ta tt rp, bState G st t0 t1 al, bText G t0 a0 n0 g0, bText G t1 a1 n1 g1, bPool G ph kp] H := hP
          have hD : wD A [bGrid G di db dh, bTab G ta tm bs hi mi si F, bSaved G sv sa od sz f, bBD G x st sv bu di se wy ta tt rp, bState G st t0 t1 al, bText G t0 a0 n0 g0, bText G t1 a1 n1 g1, bPool G ph kp] := hD
          show W p l e rmL_does s m args below meth c H locs 0 0 Q (F0 m 114 ls [.int (jz u_7), .int (jz (an (sh v 4) 1)), .ref x])
          refine lv_iload hx hb dL_does_114 (lv_at hl 4 rfl) ?_
          refine kV ⟨hx, hb, hml, hown, hts⟩ hK hA hS hP hD [.int (jz (an (sh v 4) 1)), .int (jz u_7), .int (jz le)] [] (mX8_insert_0_k l G x st sv bu di se wy ta tt rp t0 t1 al a0 n0 g0 a1 n1 g1 sa od sz f ph kp (an (sh v 4) 1) u_7 le (by omega) (by omega) (by omega) (by omega) (by omega) (by omega) (by exact hf) (by omega) (by omega) (by omega) (by omega) (by omega)) lkL_20 [3, 4, 5, 6, 2, 7] [0, 1] (br := [bGrid G di db dh, bTab G ta tm bs hi mi si F]) rfl rfl (by decide) 0 8 rfl rfl rfl rfl (Nat.le_of_ble_eq_true rfl) hl.1 dL_does_116 ⟨Nat.le_of_ble_eq_true rfl, Nat.le_of_ble_eq_true rfl⟩ ⟨Nat.le_of_ble_eq_true rfl, Nat.le_of_ble_eq_true rfl⟩ (fun u9 H locs hp9 hP hD hS => ?_)
          obtain ⟨u_9, u_10, u_11, u_12, u_13⟩ := u9
          have ha_14 : (sz < 6 → u_9 = od ∧ u_10 = sz + 1) ∧ (sz = 6 → u_9 = (od + 1) % 6 ∧ u_10 = 6) := hp9.1
          have hb_15 : (u_13 = kp ∨ u_13 = kp + 1) ∧ (u_13 : Int) ≤ 6 ∧ u_10 ≤ u_13 ∧ (u_9 = 0 ∨ u_13 = 6) := hp9.2.1
          have hf_16 : ∀ z8 : Int, 0 ≤ z8 → z8 < 6 → u_11 z8 = if z8 < u_13 then some (u_12 z8.toNat).1.1 else none := hp9.2.2.1
          have hp_17 : ∀ i8 : Nat, (i8 : Int) ≠ (u_9 + (u_10 - 1)) % 6 → i8 < kp → u_12 i8 = ph i8 := hp9.2.2.2.1
          have hq_18 : (u_12 ((u_9 + (u_10 - 1)) % 6).toNat).2.1 = (al, n0, n1) := hp9.2.2.2.2.1
          have hr_19 : ∀ j : Int, 0 ≤ j → j < n0 → (u_12 ((u_9 + (u_10 - 1)) % 6).toNat).2.2.1 j = g0 j := hp9.2.2.2.2.2.1
          have hs_20 : ∀ j : Int, 0 ≤ j → j < n1 → (u_12 ((u_9 + (u_10 - 1)) % 6).toNat).2.2.2 j = g1 j := hp9.2.2.2.2.2.2
          have hP : wP G [bGrid G di db dh, bTab G ta tm bs hi mi si F, bBD G x st sv bu di se wy ta tt rp, bState G st t0 t1 al, bText G t0 a0 (n0 + 1) (insF g0 u_7 n0 le), bText G t1 a1 n1 g1, bSaved G sv sa u_9 u_10 u_11, bPool G u_12 u_13] H := hP
          have hD : wD A [bGrid G di db dh, bTab G ta tm bs hi mi si F, bBD G x st sv bu di se wy ta tt rp, bState G st t0 t1 al, bText G t0 a0 (n0 + 1) (insF g0 u_7 n0 le), bText G t1 a1 n1 g1, bSaved G sv sa u_9 u_10 u_11, bPool G u_12 u_13] := hD
          show W p l e rmL_does s m args below meth c H locs 5 47 Q (F0 m 119 ls [.int (jz (n0 + 1))])
          have hpv := sv_save hSV.1 ha_14 hb_15 hf_16 hp_17 hq_18 hr_19 hs_20
          have hpd := SV_save hSV hpv hal hn0 hn1 hg0 hg1
          exact cret_i hx hb hr hlocks hS hP hD (Nat.le_of_ble_eq_true rfl) (Nat.le_of_ble_eq_true rfl) rfl dL_does_119 [2, 3, 4, 5, 0, 1, 6, 7] (by decide) ⟨t0, t1, al, a0, n0 + 1, insF g0 u_7 n0 le, a1, n1, g1, dh, bs, hi, mi, si, F, M, u_9, u_10, u_11, u_12, u_13, n0 + 1⟩ rfl ⟨(show (0 ≤ (n0 + 1) ∧ (n0 + 1) ≤ 100) ∧ (3 ≤ al ∧ al ≤ 4) ∧ (0 ≤ (n0 + 1) ∧ (n0 + 1) ≤ 20) ∧ (0 ≤ n1 ∧ n1 ≤ 20) from by omega), (show ∀ j : Int, 0 ≤ j → j < (n0 + 1) → 0 ≤ (insF g0 u_7 n0 le) j ∧ (insF g0 u_7 n0 le) j < 3 from by exact insF_b3 hg0 (by omega) (by omega)), (show ∀ j : Int, 0 ≤ j → j < n1 → 0 ≤ g1 j ∧ g1 j < 3 from by exact hg1), (show SV u_9 u_10 u_11 u_12 u_13 from by exact hpd), (show bs = if an v 15 = 10 ∧ an (sh v 5) 3 = 0 then 1 + an (sh v 7) 1 else bs from by rw [if_neg (by omega)]), (show rM F M from by exact hM), (show (-(B + 2000) ≤ hi ∧ hi ≤ B + 2000) ∧ (-(B + 2000) ≤ mi ∧ mi ≤ B + 2000) ∧ (-(B + 2000) ≤ si ∧ si ≤ B + 2000) from by omega)⟩ (congrArg (fun z : Int => some (Value.int (jz z))) (show (n0 + 1) = n0 + 1 from by first | rfl | omega | (split <;> first | rfl | omega | (exfalso; omega)))) hQ
        · refine jv_iconst hx hb dL_does_98 ?_
          refine lv_goto (tgt := 119) hx hb dL_does_99 (by decide) ?_
          exact cret_i hx hb hr hlocks hS hP hD (Nat.le_of_ble_eq_true rfl) (Nat.le_of_ble_eq_true rfl) rfl dL_does_119 [3, 4, 5, 6, 0, 1, 2, 7] (by decide) ⟨t0, t1, al, a0, n0, g0, a1, n1, g1, dh, bs, hi, mi, si, F, M, od, sz, f, ph, kp, 0⟩ rfl ⟨(show (0 ≤ 0 ∧ 0 ≤ 100) ∧ (3 ≤ al ∧ al ≤ 4) ∧ (0 ≤ n0 ∧ n0 ≤ 20) ∧ (0 ≤ n1 ∧ n1 ≤ 20) from by omega), (show ∀ j : Int, 0 ≤ j → j < n0 → 0 ≤ g0 j ∧ g0 j < 3 from by exact hg0), (show ∀ j : Int, 0 ≤ j → j < n1 → 0 ≤ g1 j ∧ g1 j < 3 from by exact hg1), (show SV od sz f ph kp from by exact hSV), (show bs = if an v 15 = 10 ∧ an (sh v 5) 3 = 0 then 1 + an (sh v 7) 1 else bs from by rw [if_neg (by omega)]), (show rM F M from by exact hM), (show (-(B + 2000) ≤ hi ∧ hi ≤ B + 2000) ∧ (-(B + 2000) ≤ mi ∧ mi ≤ B + 2000) ∧ (-(B + 2000) ≤ si ∧ si ≤ B + 2000) from by omega)⟩ (congrArg (fun z : Int => some (Value.int (jz z))) (show 0 = 0 from by first | rfl | omega | (split <;> first | rfl | omega | (exfalso; omega)))) hQ
      rcases (show an v 15 = 0 ∨ an v 15 = 1 ∨ an v 15 = 2 ∨ an v 15 = 3 ∨ an v 15 = 4 ∨ an v 15 = 5 ∨ an v 15 = 6 ∨ an v 15 = 7 ∨ an v 15 = 8 ∨ an v 15 = 9 ∨ an v 15 = 10 ∨ an v 15 = 11 ∨ an v 15 = 12 ∨ 12 < (an v 15) by omega) with c_21 | c_21 | c_21 | c_21 | c_21 | c_21 | c_21 | c_21 | c_21 | c_21 | c_21 | c_21 | c_21 | c_21
      · refine jv_table (z := 0) (off := 67) (tgt := 92) hx hb dL_does_25 c_21 (by decide) (by decide) (by decide) rfl (by decide) ?_
        exact K92 n0 u_3 (by omega) (by omega) (by omega) H _ _ hP hD hS (lv_sub hl [3, 4, 2, 1, 0] rfl)
      · refine jv_table (z := 1) (off := 67) (tgt := 92) hx hb dL_does_25 c_21 (by decide) (by decide) (by decide) rfl (by decide) ?_
        exact K92 n0 u_3 (by omega) (by omega) (by omega) H _ _ hP hD hS (lv_sub hl [3, 4, 2, 1, 0] rfl)
      · refine jv_table (z := 2) (off := 67) (tgt := 92) hx hb dL_does_25 c_21 (by decide) (by decide) (by decide) rfl (by decide) ?_
        exact K92 n0 u_3 (by omega) (by omega) (by omega) H _ _ hP hD hS (lv_sub hl [3, 4, 2, 1, 0] rfl)
      · refine jv_table (z := 3) (off := 67) (tgt := 92) hx hb dL_does_25 c_21 (by decide) (by decide) (by decide) rfl (by decide) ?_
        exact K92 n0 u_3 (by omega) (by omega) (by omega) H _ _ hP hD hS (lv_sub hl [3, 4, 2, 1, 0] rfl)
      · refine jv_table (z := 4) (off := 67) (tgt := 92) hx hb dL_does_25 c_21 (by decide) (by decide) (by decide) rfl (by decide) ?_
        exact K92 n0 u_3 (by omega) (by omega) (by omega) H _ _ hP hD hS (lv_sub hl [3, 4, 2, 1, 0] rfl)
      · refine jv_table (z := 5) (off := 67) (tgt := 92) hx hb dL_does_25 c_21 (by decide) (by decide) (by decide) rfl (by decide) ?_
        exact K92 n0 u_3 (by omega) (by omega) (by omega) H _ _ hP hD hS (lv_sub hl [3, 4, 2, 1, 0] rfl)
      · refine jv_table (z := 6) (off := 95) (tgt := 120) hx hb dL_does_25 c_21 (by decide) (by decide) (by decide) rfl (by decide) ?_
        refine lv_iload_n hx hb dL_does_120 rfl (lv_at hl 1 rfl) ?_
        refine jv_if_ne (tgt := 128) hx hb dL_does_121 (by decide) (by omega) (fun c_22 => ?_) (fun c_22 => ?_)
        · refine lv_aload_n hx hb dL_does_128 rfl (lv_at hl 3 rfl) ?_
          refine lv_iload_n hx hb dL_does_129 rfl (lv_at hl 2 rfl) ?_
          refine lv_iload_n hx hb dL_does_130 rfl (lv_at hl 4 rfl) ?_
          refine jv_bipush hx hb dL_does_131 (by decide) ?_
          refine jv_ishr hx hb dL_does_133 ?_
          refine lv_iload_n hx hb dL_does_134 rfl (lv_at hl 1 rfl) ?_
          refine kS ⟨hx, hb, hml, hown, hts⟩ hK hA hS hP hD [.int (jz (sh v 7)), .int (jz n0)] [.int (jz (an (sh v 4) 1)), .ref x] (mL_low l G (sh v 7) n0 (by omega)) lkL_14 [] [0, 1, 2, 3, 4, 5, 6, 7] (br := [bGrid G di db dh, bTab G ta tm bs hi mi si F, bSaved G sv sa od sz f, bBD G x st sv bu di se wy ta tt rp, bState G st t0 t1 al, bText G t0 a0 n0 g0, bText G t1 a1 n1 g1, bPool G ph kp]) rfl rfl (by decide) rfl rfl (Nat.le_of_ble_eq_true rfl) hl.1 dL_does_135 ⟨Nat.le_of_ble_eq_true rfl, Nat.le_of_ble_eq_true rfl⟩ ⟨Nat.le_of_ble_eq_true rfl, Nat.le_of_ble_eq_true rfl⟩ (fun u9 H locs hp9 hP hD hS => ?_)
          obtain ⟨u_23, rfl⟩ : ∃ z, z = u9 := ⟨_, rfl⟩
          have hc_24 : 0 ≤ u_23 ∧ u_23 < n0 := hp9
          have hP : wP G [bGrid G di db dh, bTab G ta tm bs hi mi si F, bSaved G sv sa od sz f, bBD G x st sv bu di se wy ta tt rp, bState G st t0 t1 al, bText G t0 a0 n0 g0, bText G t1 a1 n1 g1, bPool G ph kp] H := hP
          have hD : wD A [bGrid G di db dh, bTab G ta tm bs hi mi si F, bSaved G sv sa od sz f, bBD G x st sv bu di se wy ta tt rp, bState G st t0 t1 al, bText G t0 a0 n0 g0, bText G t1 a1 n1 g1, bPool G ph kp] := hD
          show W p l e rmL_does s m args below meth c H locs 0 0 Q (F0 m 138 ls [.int (jz u_23), .int (jz (an (sh v 4) 1)), .ref x])
          refine kV ⟨hx, hb, hml, hown, hts⟩ hK hA hS hP hD [.int (jz (an (sh v 4) 1)), .int (jz u_23)] [] (mX8_remove_0_k l G x st sv bu di se wy ta tt rp t0 t1 al a0 n0 g0 a1 n1 g1 sa od sz f ph kp (an (sh v 4) 1) u_23 (by omega) (by omega) (by omega) (by omega) (by omega) (by omega) (by exact hf) (by omega) (by omega) (by omega)) lkL_24 [3, 4, 5, 6, 2, 7] [0, 1] (br := [bGrid G di db dh, bTab G ta tm bs hi mi si F]) rfl rfl (by decide) 0 8 rfl rfl rfl rfl (Nat.le_of_ble_eq_true rfl) hl.1 dL_does_138 ⟨Nat.le_of_ble_eq_true rfl, Nat.le_of_ble_eq_true rfl⟩ ⟨Nat.le_of_ble_eq_true rfl, Nat.le_of_ble_eq_true rfl⟩ (fun u9 H locs hp9 hP hD hS => ?_)
          obtain ⟨u_25, u_26, u_27, u_28, u_29⟩ := u9
          have ha_30 : (sz < 6 → u_25 = od ∧ u_26 = sz + 1) ∧ (sz = 6 → u_25 = (od + 1) % 6 ∧ u_26 = 6) := hp9.1
          have hb_31 : (u_29 = kp ∨ u_29 = kp + 1) ∧ (u_29 : Int) ≤ 6 ∧ u_26 ≤ u_29 ∧ (u_25 = 0 ∨ u_29 = 6) := hp9.2.1
          have hf_32 : ∀ z8 : Int, 0 ≤ z8 → z8 < 6 → u_27 z8 = if z8 < u_29 then some (u_28 z8.toNat).1.1 else none := hp9.2.2.1
          have hp_33 : ∀ i8 : Nat, (i8 : Int) ≠ (u_25 + (u_26 - 1)) % 6 → i8 < kp → u_28 i8 = ph i8 := hp9.2.2.2.1
          have hq_34 : (u_28 ((u_25 + (u_26 - 1)) % 6).toNat).2.1 = (al, n0, n1) := hp9.2.2.2.2.1
          have hr_35 : ∀ j : Int, 0 ≤ j → j < n0 → (u_28 ((u_25 + (u_26 - 1)) % 6).toNat).2.2.1 j = g0 j := hp9.2.2.2.2.2.1
          have hs_36 : ∀ j : Int, 0 ≤ j → j < n1 → (u_28 ((u_25 + (u_26 - 1)) % 6).toNat).2.2.2 j = g1 j := hp9.2.2.2.2.2.2
          have hP : wP G [bGrid G di db dh, bTab G ta tm bs hi mi si F, bBD G x st sv bu di se wy ta tt rp, bState G st t0 t1 al, bText G t0 a0 (n0 - 1) (delF g0 u_23 n0), bText G t1 a1 n1 g1, bSaved G sv sa u_25 u_26 u_27, bPool G u_28 u_29] H := hP
          have hD : wD A [bGrid G di db dh, bTab G ta tm bs hi mi si F, bBD G x st sv bu di se wy ta tt rp, bState G st t0 t1 al, bText G t0 a0 (n0 - 1) (delF g0 u_23 n0), bText G t1 a1 n1 g1, bSaved G sv sa u_25 u_26 u_27, bPool G u_28 u_29] := hD
          show W p l e rmL_does s m args below meth c H locs 5 47 Q (F0 m 141 ls [.int (jz (g0 u_23))])
          have hpv := sv_save hSV.1 ha_30 hb_31 hf_32 hp_33 hq_34 hr_35 hs_36
          have hpd := SV_save hSV hpv hal hn0 hn1 hg0 hg1
          have hgw := hg0 u_23 (by omega) (by omega)
          exact cret_i hx hb hr hlocks hS hP hD (Nat.le_of_ble_eq_true rfl) (Nat.le_of_ble_eq_true rfl) rfl dL_does_141 [2, 3, 4, 5, 0, 1, 6, 7] (by decide) ⟨t0, t1, al, a0, n0 - 1, delF g0 u_23 n0, a1, n1, g1, dh, bs, hi, mi, si, F, M, u_25, u_26, u_27, u_28, u_29, g0 u_23⟩ rfl ⟨(show (0 ≤ (g0 u_23) ∧ (g0 u_23) ≤ 100) ∧ (3 ≤ al ∧ al ≤ 4) ∧ (0 ≤ (n0 - 1) ∧ (n0 - 1) ≤ 20) ∧ (0 ≤ n1 ∧ n1 ≤ 20) from by omega), (show ∀ j : Int, 0 ≤ j → j < (n0 - 1) → 0 ≤ (delF g0 u_23 n0) j ∧ (delF g0 u_23 n0) j < 3 from by exact delF_b3 hg0 (by omega)), (show ∀ j : Int, 0 ≤ j → j < n1 → 0 ≤ g1 j ∧ g1 j < 3 from by exact hg1), (show SV u_25 u_26 u_27 u_28 u_29 from by exact hpd), (show bs = if an v 15 = 10 ∧ an (sh v 5) 3 = 0 then 1 + an (sh v 7) 1 else bs from by rw [if_neg (by omega)]), (show rM F M from by exact hM), (show (-(B + 2000) ≤ hi ∧ hi ≤ B + 2000) ∧ (-(B + 2000) ≤ mi ∧ mi ≤ B + 2000) ∧ (-(B + 2000) ≤ si ∧ si ≤ B + 2000) from by omega)⟩ (congrArg (fun z : Int => some (Value.int (jz z))) (show (g0 u_23) = g0 u_23 from by first | rfl | omega | (split <;> first | rfl | omega | (exfalso; omega)))) hQ
        · refine jv_iconst hx hb dL_does_124 ?_
          refine lv_goto (tgt := 141) hx hb dL_does_125 (by decide) ?_
          exact cret_i hx hb hr hlocks hS hP hD (Nat.le_of_ble_eq_true rfl) (Nat.le_of_ble_eq_true rfl) rfl dL_does_141 [3, 4, 5, 6, 0, 1, 2, 7] (by decide) ⟨t0, t1, al, a0, n0, g0, a1, n1, g1, dh, bs, hi, mi, si, F, M, od, sz, f, ph, kp, 0⟩ rfl ⟨(show (0 ≤ 0 ∧ 0 ≤ 100) ∧ (3 ≤ al ∧ al ≤ 4) ∧ (0 ≤ n0 ∧ n0 ≤ 20) ∧ (0 ≤ n1 ∧ n1 ≤ 20) from by omega), (show ∀ j : Int, 0 ≤ j → j < n0 → 0 ≤ g0 j ∧ g0 j < 3 from by exact hg0), (show ∀ j : Int, 0 ≤ j → j < n1 → 0 ≤ g1 j ∧ g1 j < 3 from by exact hg1), (show SV od sz f ph kp from by exact hSV), (show bs = if an v 15 = 10 ∧ an (sh v 5) 3 = 0 then 1 + an (sh v 7) 1 else bs from by rw [if_neg (by omega)]), (show rM F M from by exact hM), (show (-(B + 2000) ≤ hi ∧ hi ≤ B + 2000) ∧ (-(B + 2000) ≤ mi ∧ mi ≤ B + 2000) ∧ (-(B + 2000) ≤ si ∧ si ≤ B + 2000) from by omega)⟩ (congrArg (fun z : Int => some (Value.int (jz z))) (show 0 = 0 from by first | rfl | omega | (split <;> first | rfl | omega | (exfalso; omega)))) hQ
      · refine jv_table (z := 7) (off := 117) (tgt := 142) hx hb dL_does_25 c_21 (by decide) (by decide) (by decide) rfl (by decide) ?_
        refine lv_iload_n hx hb dL_does_142 rfl (lv_at hl 1 rfl) ?_
        refine jv_if_ne (tgt := 150) hx hb dL_does_143 (by decide) (by omega) (fun c_37 => ?_) (fun c_37 => ?_)
        · refine lv_aload_n hx hb dL_does_150 rfl (lv_at hl 3 rfl) ?_
          refine lv_iload_n hx hb dL_does_151 rfl (lv_at hl 2 rfl) ?_
          refine lv_iload_n hx hb dL_does_152 rfl (lv_at hl 4 rfl) ?_
          refine jv_bipush hx hb dL_does_153 (by decide) ?_
          refine jv_ishr hx hb dL_does_155 ?_
          refine lv_iload_n hx hb dL_does_156 rfl (lv_at hl 1 rfl) ?_
          refine kS ⟨hx, hb, hml, hown, hts⟩ hK hA hS hP hD [.int (jz (sh v 7)), .int (jz n0)] [.int (jz (an (sh v 4) 1)), .ref x] (mL_low l G (sh v 7) n0 (by omega)) lkL_14 [] [0, 1, 2, 3, 4, 5, 6, 7] (br := [bGrid G di db dh, bTab G ta tm bs hi mi si F, bSaved G sv sa od sz f, bBD G x st sv bu di se wy ta tt rp, bState G st t0 t1 al, bText G t0 a0 n0 g0, bText G t1 a1 n1 g1, bPool G ph kp]) rfl rfl (by decide) rfl rfl (Nat.le_of_ble_eq_true rfl) hl.1 dL_does_157 ⟨Nat.le_of_ble_eq_true rfl, Nat.le_of_ble_eq_true rfl⟩ ⟨Nat.le_of_ble_eq_true rfl, Nat.le_of_ble_eq_true rfl⟩ (fun u9 H locs hp9 hP hD hS => ?_)
          obtain ⟨u_38, rfl⟩ : ∃ z, z = u9 := ⟨_, rfl⟩
          have hc_39 : 0 ≤ u_38 ∧ u_38 < n0 := hp9
          have hP : wP G [bGrid G di db dh, bTab G ta tm bs hi mi si F, bSaved G sv sa od sz f, bBD G x st sv bu di se wy ta tt rp, bState G st t0 t1 al, bText G t0 a0 n0 g0, bText G t1 a1 n1 g1, bPool G ph kp] H := hP
          have hD : wD A [bGrid G di db dh, bTab G ta tm bs hi mi si F, bSaved G sv sa od sz f, bBD G x st sv bu di se wy ta tt rp, bState G st t0 t1 al, bText G t0 a0 n0 g0, bText G t1 a1 n1 g1, bPool G ph kp] := hD
          show W p l e rmL_does s m args below meth c H locs 0 0 Q (F0 m 160 ls [.int (jz u_38), .int (jz (an (sh v 4) 1)), .ref x])
          refine lv_iload hx hb dL_does_160 (lv_at hl 0 rfl) ?_
          refine kV ⟨hx, hb, hml, hown, hts⟩ hK hA hS hP hD [.int (jz (an (sh v 4) 1)), .int (jz u_38), .int (jz u_3)] [] (mX8_replace_0_k l G x st sv bu di se wy ta tt rp t0 t1 al a0 n0 g0 a1 n1 g1 sa od sz f ph kp (an (sh v 4) 1) u_38 u_3 (by omega) (by omega) (by omega) (by omega) (by omega) (by omega) (by exact hf) (by omega) (by omega) (by omega) (by omega) (by omega)) lkL_27 [3, 4, 5, 6, 2, 7] [0, 1] (br := [bGrid G di db dh, bTab G ta tm bs hi mi si F]) rfl rfl (by decide) 0 8 rfl rfl rfl rfl (Nat.le_of_ble_eq_true rfl) hl.1 dL_does_162 ⟨Nat.le_of_ble_eq_true rfl, Nat.le_of_ble_eq_true rfl⟩ ⟨Nat.le_of_ble_eq_true rfl, Nat.le_of_ble_eq_true rfl⟩ (fun u9 H locs hp9 hP hD hS => ?_)
          obtain ⟨u_40, u_41, u_42, u_43, u_44⟩ := u9
          have ha_45 : (sz < 6 → u_40 = od ∧ u_41 = sz + 1) ∧ (sz = 6 → u_40 = (od + 1) % 6 ∧ u_41 = 6) := hp9.1
          have hb_46 : (u_44 = kp ∨ u_44 = kp + 1) ∧ (u_44 : Int) ≤ 6 ∧ u_41 ≤ u_44 ∧ (u_40 = 0 ∨ u_44 = 6) := hp9.2.1
          have hf_47 : ∀ z8 : Int, 0 ≤ z8 → z8 < 6 → u_42 z8 = if z8 < u_44 then some (u_43 z8.toNat).1.1 else none := hp9.2.2.1
          have hp_48 : ∀ i8 : Nat, (i8 : Int) ≠ (u_40 + (u_41 - 1)) % 6 → i8 < kp → u_43 i8 = ph i8 := hp9.2.2.2.1
          have hq_49 : (u_43 ((u_40 + (u_41 - 1)) % 6).toNat).2.1 = (al, n0, n1) := hp9.2.2.2.2.1
          have hr_50 : ∀ j : Int, 0 ≤ j → j < n0 → (u_43 ((u_40 + (u_41 - 1)) % 6).toNat).2.2.1 j = g0 j := hp9.2.2.2.2.2.1
          have hs_51 : ∀ j : Int, 0 ≤ j → j < n1 → (u_43 ((u_40 + (u_41 - 1)) % 6).toNat).2.2.2 j = g1 j := hp9.2.2.2.2.2.2
          have hP : wP G [bGrid G di db dh, bTab G ta tm bs hi mi si F, bBD G x st sv bu di se wy ta tt rp, bState G st t0 t1 al, bText G t0 a0 n0 (up g0 u_38 u_3), bText G t1 a1 n1 g1, bSaved G sv sa u_40 u_41 u_42, bPool G u_43 u_44] H := hP
          have hD : wD A [bGrid G di db dh, bTab G ta tm bs hi mi si F, bBD G x st sv bu di se wy ta tt rp, bState G st t0 t1 al, bText G t0 a0 n0 (up g0 u_38 u_3), bText G t1 a1 n1 g1, bSaved G sv sa u_40 u_41 u_42, bPool G u_43 u_44] := hD
          show W p l e rmL_does s m args below meth c H locs 5 47 Q (F0 m 165 ls [.int (jz (g0 u_38))])
          have hpv := sv_save hSV.1 ha_45 hb_46 hf_47 hp_48 hq_49 hr_50 hs_51
          have hpd := SV_save hSV hpv hal hn0 hn1 hg0 hg1
          have hgw := hg0 u_38 (by omega) (by omega)
          exact cret_i hx hb hr hlocks hS hP hD (Nat.le_of_ble_eq_true rfl) (Nat.le_of_ble_eq_true rfl) rfl dL_does_165 [2, 3, 4, 5, 0, 1, 6, 7] (by decide) ⟨t0, t1, al, a0, n0, up g0 u_38 u_3, a1, n1, g1, dh, bs, hi, mi, si, F, M, u_40, u_41, u_42, u_43, u_44, g0 u_38⟩ rfl ⟨(show (0 ≤ (g0 u_38) ∧ (g0 u_38) ≤ 100) ∧ (3 ≤ al ∧ al ≤ 4) ∧ (0 ≤ n0 ∧ n0 ≤ 20) ∧ (0 ≤ n1 ∧ n1 ≤ 20) from by omega), (show ∀ j : Int, 0 ≤ j → j < n0 → 0 ≤ (up g0 u_38 u_3) j ∧ (up g0 u_38 u_3) j < 3 from by exact upF_b3 hg0 (by omega)), (show ∀ j : Int, 0 ≤ j → j < n1 → 0 ≤ g1 j ∧ g1 j < 3 from by exact hg1), (show SV u_40 u_41 u_42 u_43 u_44 from by exact hpd), (show bs = if an v 15 = 10 ∧ an (sh v 5) 3 = 0 then 1 + an (sh v 7) 1 else bs from by rw [if_neg (by omega)]), (show rM F M from by exact hM), (show (-(B + 2000) ≤ hi ∧ hi ≤ B + 2000) ∧ (-(B + 2000) ≤ mi ∧ mi ≤ B + 2000) ∧ (-(B + 2000) ≤ si ∧ si ≤ B + 2000) from by omega)⟩ (congrArg (fun z : Int => some (Value.int (jz z))) (show (g0 u_38) = g0 u_38 from by first | rfl | omega | (split <;> first | rfl | omega | (exfalso; omega)))) hQ
        · refine jv_iconst hx hb dL_does_146 ?_
          refine lv_goto (tgt := 165) hx hb dL_does_147 (by decide) ?_
          exact cret_i hx hb hr hlocks hS hP hD (Nat.le_of_ble_eq_true rfl) (Nat.le_of_ble_eq_true rfl) rfl dL_does_165 [3, 4, 5, 6, 0, 1, 2, 7] (by decide) ⟨t0, t1, al, a0, n0, g0, a1, n1, g1, dh, bs, hi, mi, si, F, M, od, sz, f, ph, kp, 0⟩ rfl ⟨(show (0 ≤ 0 ∧ 0 ≤ 100) ∧ (3 ≤ al ∧ al ≤ 4) ∧ (0 ≤ n0 ∧ n0 ≤ 20) ∧ (0 ≤ n1 ∧ n1 ≤ 20) from by omega), (show ∀ j : Int, 0 ≤ j → j < n0 → 0 ≤ g0 j ∧ g0 j < 3 from by exact hg0), (show ∀ j : Int, 0 ≤ j → j < n1 → 0 ≤ g1 j ∧ g1 j < 3 from by exact hg1), (show SV od sz f ph kp from by exact hSV), (show bs = if an v 15 = 10 ∧ an (sh v 5) 3 = 0 then 1 + an (sh v 7) 1 else bs from by rw [if_neg (by omega)]), (show rM F M from by exact hM), (show (-(B + 2000) ≤ hi ∧ hi ≤ B + 2000) ∧ (-(B + 2000) ≤ mi ∧ mi ≤ B + 2000) ∧ (-(B + 2000) ≤ si ∧ si ≤ B + 2000) from by omega)⟩ (congrArg (fun z : Int => some (Value.int (jz z))) (show 0 = 0 from by first | rfl | omega | (split <;> first | rfl | omega | (exfalso; omega)))) hQ
      · refine jv_table (z := 8) (off := 117) (tgt := 142) hx hb dL_does_25 c_21 (by decide) (by decide) (by decide) rfl (by decide) ?_
        refine lv_iload_n hx hb dL_does_142 rfl (lv_at hl 1 rfl) ?_
        refine jv_if_ne (tgt := 150) hx hb dL_does_143 (by decide) (by omega) (fun c_52 => ?_) (fun c_52 => ?_)
        · refine lv_aload_n hx hb dL_does_150 rfl (lv_at hl 3 rfl) ?_
          refine lv_iload_n hx hb dL_does_151 rfl (lv_at hl 2 rfl) ?_
          refine lv_iload_n hx hb dL_does_152 rfl (lv_at hl 4 rfl) ?_
          refine jv_bipush hx hb dL_does_153 (by decide) ?_
          refine jv_ishr hx hb dL_does_155 ?_
          refine lv_iload_n hx hb dL_does_156 rfl (lv_at hl 1 rfl) ?_
          refine kS ⟨hx, hb, hml, hown, hts⟩ hK hA hS hP hD [.int (jz (sh v 7)), .int (jz n0)] [.int (jz (an (sh v 4) 1)), .ref x] (mL_low l G (sh v 7) n0 (by omega)) lkL_14 [] [0, 1, 2, 3, 4, 5, 6, 7] (br := [bGrid G di db dh, bTab G ta tm bs hi mi si F, bSaved G sv sa od sz f, bBD G x st sv bu di se wy ta tt rp, bState G st t0 t1 al, bText G t0 a0 n0 g0, bText G t1 a1 n1 g1, bPool G ph kp]) rfl rfl (by decide) rfl rfl (Nat.le_of_ble_eq_true rfl) hl.1 dL_does_157 ⟨Nat.le_of_ble_eq_true rfl, Nat.le_of_ble_eq_true rfl⟩ ⟨Nat.le_of_ble_eq_true rfl, Nat.le_of_ble_eq_true rfl⟩ (fun u9 H locs hp9 hP hD hS => ?_)
          obtain ⟨u_53, rfl⟩ : ∃ z, z = u9 := ⟨_, rfl⟩
          have hc_54 : 0 ≤ u_53 ∧ u_53 < n0 := hp9
          have hP : wP G [bGrid G di db dh, bTab G ta tm bs hi mi si F, bSaved G sv sa od sz f, bBD G x st sv bu di se wy ta tt rp, bState G st t0 t1 al, bText G t0 a0 n0 g0, bText G t1 a1 n1 g1, bPool G ph kp] H := hP
          have hD : wD A [bGrid G di db dh, bTab G ta tm bs hi mi si F, bSaved G sv sa od sz f, bBD G x st sv bu di se wy ta tt rp, bState G st t0 t1 al, bText G t0 a0 n0 g0, bText G t1 a1 n1 g1, bPool G ph kp] := hD
          show W p l e rmL_does s m args below meth c H locs 0 0 Q (F0 m 160 ls [.int (jz u_53), .int (jz (an (sh v 4) 1)), .ref x])
          refine lv_iload hx hb dL_does_160 (lv_at hl 0 rfl) ?_
          refine kV ⟨hx, hb, hml, hown, hts⟩ hK hA hS hP hD [.int (jz (an (sh v 4) 1)), .int (jz u_53), .int (jz u_3)] [] (mX8_replace_0_k l G x st sv bu di se wy ta tt rp t0 t1 al a0 n0 g0 a1 n1 g1 sa od sz f ph kp (an (sh v 4) 1) u_53 u_3 (by omega) (by omega) (by omega) (by omega) (by omega) (by omega) (by exact hf) (by omega) (by omega) (by omega) (by omega) (by omega)) lkL_27 [3, 4, 5, 6, 2, 7] [0, 1] (br := [bGrid G di db dh, bTab G ta tm bs hi mi si F]) rfl rfl (by decide) 0 8 rfl rfl rfl rfl (Nat.le_of_ble_eq_true rfl) hl.1 dL_does_162 ⟨Nat.le_of_ble_eq_true rfl, Nat.le_of_ble_eq_true rfl⟩ ⟨Nat.le_of_ble_eq_true rfl, Nat.le_of_ble_eq_true rfl⟩ (fun u9 H locs hp9 hP hD hS => ?_)
          obtain ⟨u_55, u_56, u_57, u_58, u_59⟩ := u9
          have ha_60 : (sz < 6 → u_55 = od ∧ u_56 = sz + 1) ∧ (sz = 6 → u_55 = (od + 1) % 6 ∧ u_56 = 6) := hp9.1
          have hb_61 : (u_59 = kp ∨ u_59 = kp + 1) ∧ (u_59 : Int) ≤ 6 ∧ u_56 ≤ u_59 ∧ (u_55 = 0 ∨ u_59 = 6) := hp9.2.1
          have hf_62 : ∀ z8 : Int, 0 ≤ z8 → z8 < 6 → u_57 z8 = if z8 < u_59 then some (u_58 z8.toNat).1.1 else none := hp9.2.2.1
          have hp_63 : ∀ i8 : Nat, (i8 : Int) ≠ (u_55 + (u_56 - 1)) % 6 → i8 < kp → u_58 i8 = ph i8 := hp9.2.2.2.1
          have hq_64 : (u_58 ((u_55 + (u_56 - 1)) % 6).toNat).2.1 = (al, n0, n1) := hp9.2.2.2.2.1
          have hr_65 : ∀ j : Int, 0 ≤ j → j < n0 → (u_58 ((u_55 + (u_56 - 1)) % 6).toNat).2.2.1 j = g0 j := hp9.2.2.2.2.2.1
          have hs_66 : ∀ j : Int, 0 ≤ j → j < n1 → (u_58 ((u_55 + (u_56 - 1)) % 6).toNat).2.2.2 j = g1 j := hp9.2.2.2.2.2.2
          have hP : wP G [bGrid G di db dh, bTab G ta tm bs hi mi si F, bBD G x st sv bu di se wy ta tt rp, bState G st t0 t1 al, bText G t0 a0 n0 (up g0 u_53 u_3), bText G t1 a1 n1 g1, bSaved G sv sa u_55 u_56 u_57, bPool G u_58 u_59] H := hP
          have hD : wD A [bGrid G di db dh, bTab G ta tm bs hi mi si F, bBD G x st sv bu di se wy ta tt rp, bState G st t0 t1 al, bText G t0 a0 n0 (up g0 u_53 u_3), bText G t1 a1 n1 g1, bSaved G sv sa u_55 u_56 u_57, bPool G u_58 u_59] := hD
          show W p l e rmL_does s m args below meth c H locs 5 47 Q (F0 m 165 ls [.int (jz (g0 u_53))])
          have hpv := sv_save hSV.1 ha_60 hb_61 hf_62 hp_63 hq_64 hr_65 hs_66
          have hpd := SV_save hSV hpv hal hn0 hn1 hg0 hg1
          have hgw := hg0 u_53 (by omega) (by omega)
          exact cret_i hx hb hr hlocks hS hP hD (Nat.le_of_ble_eq_true rfl) (Nat.le_of_ble_eq_true rfl) rfl dL_does_165 [2, 3, 4, 5, 0, 1, 6, 7] (by decide) ⟨t0, t1, al, a0, n0, up g0 u_53 u_3, a1, n1, g1, dh, bs, hi, mi, si, F, M, u_55, u_56, u_57, u_58, u_59, g0 u_53⟩ rfl ⟨(show (0 ≤ (g0 u_53) ∧ (g0 u_53) ≤ 100) ∧ (3 ≤ al ∧ al ≤ 4) ∧ (0 ≤ n0 ∧ n0 ≤ 20) ∧ (0 ≤ n1 ∧ n1 ≤ 20) from by omega), (show ∀ j : Int, 0 ≤ j → j < n0 → 0 ≤ (up g0 u_53 u_3) j ∧ (up g0 u_53 u_3) j < 3 from by exact upF_b3 hg0 (by omega)), (show ∀ j : Int, 0 ≤ j → j < n1 → 0 ≤ g1 j ∧ g1 j < 3 from by exact hg1), (show SV u_55 u_56 u_57 u_58 u_59 from by exact hpd), (show bs = if an v 15 = 10 ∧ an (sh v 5) 3 = 0 then 1 + an (sh v 7) 1 else bs from by rw [if_neg (by omega)]), (show rM F M from by exact hM), (show (-(B + 2000) ≤ hi ∧ hi ≤ B + 2000) ∧ (-(B + 2000) ≤ mi ∧ mi ≤ B + 2000) ∧ (-(B + 2000) ≤ si ∧ si ≤ B + 2000) from by omega)⟩ (congrArg (fun z : Int => some (Value.int (jz z))) (show (g0 u_53) = g0 u_53 from by first | rfl | omega | (split <;> first | rfl | omega | (exfalso; omega)))) hQ
        · refine jv_iconst hx hb dL_does_146 ?_
          refine lv_goto (tgt := 165) hx hb dL_does_147 (by decide) ?_
          exact cret_i hx hb hr hlocks hS hP hD (Nat.le_of_ble_eq_true rfl) (Nat.le_of_ble_eq_true rfl) rfl dL_does_165 [3, 4, 5, 6, 0, 1, 2, 7] (by decide) ⟨t0, t1, al, a0, n0, g0, a1, n1, g1, dh, bs, hi, mi, si, F, M, od, sz, f, ph, kp, 0⟩ rfl ⟨(show (0 ≤ 0 ∧ 0 ≤ 100) ∧ (3 ≤ al ∧ al ≤ 4) ∧ (0 ≤ n0 ∧ n0 ≤ 20) ∧ (0 ≤ n1 ∧ n1 ≤ 20) from by omega), (show ∀ j : Int, 0 ≤ j → j < n0 → 0 ≤ g0 j ∧ g0 j < 3 from by exact hg0), (show ∀ j : Int, 0 ≤ j → j < n1 → 0 ≤ g1 j ∧ g1 j < 3 from by exact hg1), (show SV od sz f ph kp from by exact hSV), (show bs = if an v 15 = 10 ∧ an (sh v 5) 3 = 0 then 1 + an (sh v 7) 1 else bs from by rw [if_neg (by omega)]), (show rM F M from by exact hM), (show (-(B + 2000) ≤ hi ∧ hi ≤ B + 2000) ∧ (-(B + 2000) ≤ mi ∧ mi ≤ B + 2000) ∧ (-(B + 2000) ≤ si ∧ si ≤ B + 2000) from by omega)⟩ (congrArg (fun z : Int => some (Value.int (jz z))) (show 0 = 0 from by first | rfl | omega | (split <;> first | rfl | omega | (exfalso; omega)))) hQ
      · refine jv_table (z := 9) (off := 141) (tgt := 166) hx hb dL_does_25 c_21 (by decide) (by decide) (by decide) rfl (by decide) ?_
        refine lv_aload_n hx hb dL_does_166 rfl (lv_at hl 3 rfl) ?_
        refine kV ⟨hx, hb, hml, hown, hts⟩ hK hA hS hP hD [] [] (mX8_exchange l G x st sv bu di se wy ta tt rp t0 t1 al a0 n0 g0 a1 n1 g1 sa od sz f ph kp (by omega) (by omega) (by omega) (by omega) (by omega) (by omega) (by exact hf)) lkL_30 [3, 4, 5, 6, 2, 7] [0, 1] (br := [bGrid G di db dh, bTab G ta tm bs hi mi si F]) rfl rfl (by decide) 0 8 rfl rfl rfl rfl (Nat.le_of_ble_eq_true rfl) hl.1 dL_does_167 ⟨Nat.le_of_ble_eq_true rfl, Nat.le_of_ble_eq_true rfl⟩ ⟨Nat.le_of_ble_eq_true rfl, Nat.le_of_ble_eq_true rfl⟩ (fun u9 H locs hp9 hP hD hS => ?_)
        obtain ⟨u_67, u_68, u_69, u_70, u_71⟩ := u9
        have ha_72 : (sz < 6 → u_67 = od ∧ u_68 = sz + 1) ∧ (sz = 6 → u_67 = (od + 1) % 6 ∧ u_68 = 6) := hp9.1
        have hb_73 : (u_71 = kp ∨ u_71 = kp + 1) ∧ (u_71 : Int) ≤ 6 ∧ u_68 ≤ u_71 ∧ (u_67 = 0 ∨ u_71 = 6) := hp9.2.1
        have hf_74 : ∀ z : Int, 0 ≤ z → z < 6 → u_69 z = if z < u_71 then some (u_70 z.toNat).1.1 else none := hp9.2.2.1
        have hp_75 : ∀ i : Nat, (i : Int) ≠ (u_67 + (u_68 - 1)) % 6 → i < kp → u_70 i = ph i := hp9.2.2.2.1
        have hq_76 : (u_70 ((u_67 + (u_68 - 1)) % 6).toNat).2.1 = (al, n0, n1) := hp9.2.2.2.2.1
        have hr_77 : ∀ j : Int, 0 ≤ j → j < n0 → (u_70 ((u_67 + (u_68 - 1)) % 6).toNat).2.2.1 j = g0 j := hp9.2.2.2.2.2.1
        have hs_78 : ∀ j : Int, 0 ≤ j → j < n1 → (u_70 ((u_67 + (u_68 - 1)) % 6).toNat).2.2.2 j = g1 j := hp9.2.2.2.2.2.2
        have hP : wP G [bGrid G di db dh, bTab G ta tm bs hi mi si F, bBD G x st sv bu di se wy ta tt rp, bState G st t1 t0 al, bText G t0 a0 n0 g0, bText G t1 a1 n1 g1, bSaved G sv sa u_67 u_68 u_69, bPool G u_70 u_71] H := hP
        have hD : wD A [bGrid G di db dh, bTab G ta tm bs hi mi si F, bBD G x st sv bu di se wy ta tt rp, bState G st t1 t0 al, bText G t0 a0 n0 g0, bText G t1 a1 n1 g1, bSaved G sv sa u_67 u_68 u_69, bPool G u_70 u_71] := hD
        show W p l e rmL_does s m args below meth c H locs 5 47 Q (F0 m 170 ls [.int (jz n1)])
        have hpv := sv_save hSV.1 ha_72 hb_73 hf_74 hp_75 hq_76 hr_77 hs_78
        have hpd := SV_save hSV hpv hal hn0 hn1 hg0 hg1
        exact cret_i hx hb hr hlocks hS hP hD (Nat.le_of_ble_eq_true rfl) (Nat.le_of_ble_eq_true rfl) rfl dL_does_170 [2, 3, 5, 4, 0, 1, 6, 7] (by decide) ⟨t1, t0, al, a1, n1, g1, a0, n0, g0, dh, bs, hi, mi, si, F, M, u_67, u_68, u_69, u_70, u_71, n1⟩ rfl ⟨(show (0 ≤ n1 ∧ n1 ≤ 100) ∧ (3 ≤ al ∧ al ≤ 4) ∧ (0 ≤ n1 ∧ n1 ≤ 20) ∧ (0 ≤ n0 ∧ n0 ≤ 20) from by omega), (show ∀ j : Int, 0 ≤ j → j < n1 → 0 ≤ g1 j ∧ g1 j < 3 from by exact hg1), (show ∀ j : Int, 0 ≤ j → j < n0 → 0 ≤ g0 j ∧ g0 j < 3 from by exact hg0), (show SV u_67 u_68 u_69 u_70 u_71 from by exact hpd), (show bs = if an v 15 = 10 ∧ an (sh v 5) 3 = 0 then 1 + an (sh v 7) 1 else bs from by rw [if_neg (by omega)]), (show rM F M from by exact hM), (show (-(B + 2000) ≤ hi ∧ hi ≤ B + 2000) ∧ (-(B + 2000) ≤ mi ∧ mi ≤ B + 2000) ∧ (-(B + 2000) ≤ si ∧ si ≤ B + 2000) from by omega)⟩ (congrArg (fun z : Int => some (Value.int (jz z))) (show n1 = n1 from by first | rfl | omega | (split <;> first | rfl | omega | (exfalso; omega)))) hQ
      · refine jv_table (z := 10) (off := 146) (tgt := 171) hx hb dL_does_25 c_21 (by decide) (by decide) (by decide) rfl (by decide) ?_
        refine lv_iload_n hx hb dL_does_171 rfl (lv_at hl 4 rfl) ?_
        refine jv_iconst hx hb dL_does_172 ?_
        refine jv_ishr hx hb dL_does_173 ?_
        refine jv_iconst hx hb dL_does_174 ?_
        refine jv_iand hx hb dL_does_175 ?_
        have ha_79 := an_bd (sh v 5) (y := 3) (by decide) (by decide)
        refine jv_if_le (tgt := 183) hx hb dL_does_176 (by decide) (by omega) (fun c_80 => ?_) (fun c_80 => ?_)
        · refine lv_aload_n hx hb dL_does_183 rfl (lv_at hl 3 rfl) ?_
          refine jv_iconst hx hb dL_does_184 ?_
          refine lv_iload_n hx hb dL_does_185 rfl (lv_at hl 4 rfl) ?_
          refine jv_bipush hx hb dL_does_186 (by decide) ?_
          refine jv_ishr hx hb dL_does_188 ?_
          refine jv_iconst hx hb dL_does_189 ?_
          refine jv_iand hx hb dL_does_190 ?_
          have ha_81 := an_bd (sh v 7) (y := 1) (by decide) (by decide)
          refine jv_iadd hx hb dL_does_191 ?_
          refine kV ⟨hx, hb, hml, hown, hts⟩ hK hA hS hP hD [.int (jz (1 + (an (sh v 7) 1)))] [] (mX8_setBlock_k l G x st sv bu di se wy ta tt rp ta tm bs hi mi si F (1 + (an (sh v 7) 1)) (by omega) (by omega)) lkL_34 [3, 1] [0, 2, 4, 5, 6, 7] (br := [bGrid G di db dh, bSaved G sv sa od sz f, bState G st t0 t1 al, bText G t0 a0 n0 g0, bText G t1 a1 n1 g1, bPool G ph kp]) rfl rfl (by decide) 0 8 rfl rfl rfl rfl (Nat.le_of_ble_eq_true rfl) hl.1 dL_does_192 ⟨Nat.le_of_ble_eq_true rfl, Nat.le_of_ble_eq_true rfl⟩ ⟨Nat.le_of_ble_eq_true rfl, Nat.le_of_ble_eq_true rfl⟩ (fun u9 H locs hp9 hP hD hS => ?_)
          obtain ⟨u_82, rfl⟩ : ∃ z, z = u9 := ⟨_, rfl⟩
          have hc_83 : ∀ w : Int, 0 ≤ w → w < 324 → u_82 w = 0 := hp9
          have hP : wP G [bGrid G di db dh, bSaved G sv sa od sz f, bState G st t0 t1 al, bText G t0 a0 n0 g0, bText G t1 a1 n1 g1, bPool G ph kp, bBD G x st sv bu di se wy ta tt rp, bTab G ta tm (1 + (an (sh v 7) 1)) 0 0 0 u_82] H := hP
          have hD : wD A [bGrid G di db dh, bSaved G sv sa od sz f, bState G st t0 t1 al, bText G t0 a0 n0 g0, bText G t1 a1 n1 g1, bPool G ph kp, bBD G x st sv bu di se wy ta tt rp, bTab G ta tm (1 + (an (sh v 7) 1)) 0 0 0 u_82] := hD
          have hP : wP G [bGrid G di db dh, bSaved G sv sa od sz f, bState G st t0 t1 al, bText G t0 a0 n0 g0, bText G t1 a1 n1 g1, bBD G x st sv bu di se wy ta tt rp, bTab G ta tm (1 + (an (sh v 7) 1)) 0 0 0 u_82, bPool G ph kp] H := wP_sub hP [0, 1, 2, 3, 4, 6, 7, 5] rfl
          have hD : wD A [bGrid G di db dh, bSaved G sv sa od sz f, bState G st t0 t1 al, bText G t0 a0 n0 g0, bText G t1 a1 n1 g1, bBD G x st sv bu di se wy ta tt rp, bTab G ta tm (1 + (an (sh v 7) 1)) 0 0 0 u_82, bPool G ph kp] := wD_sub hD [0, 1, 2, 3, 4, 6, 7, 5] (by decide) rfl
          show W p l e rmL_does s m args below meth c H locs 0 0 Q (F0 m 195 ls [.int (jz bs)])
          have hsb := hc_83
          exact cret_i hx hb hr hlocks hS hP hD (Nat.le_of_ble_eq_true rfl) (Nat.le_of_ble_eq_true rfl) rfl dL_does_195 [5, 2, 3, 4, 0, 6, 1, 7] (by decide) ⟨t0, t1, al, a0, n0, g0, a1, n1, g1, dh, 1 + (an (sh v 7) 1), 0, 0, 0, u_82, (fun _ => false), od, sz, f, ph, kp, bs⟩ rfl ⟨(show (0 ≤ bs ∧ bs ≤ 100) ∧ (3 ≤ al ∧ al ≤ 4) ∧ (0 ≤ n0 ∧ n0 ≤ 20) ∧ (0 ≤ n1 ∧ n1 ≤ 20) from by omega), (show ∀ j : Int, 0 ≤ j → j < n0 → 0 ≤ g0 j ∧ g0 j < 3 from by exact hg0), (show ∀ j : Int, 0 ≤ j → j < n1 → 0 ≤ g1 j ∧ g1 j < 3 from by exact hg1), (show SV od sz f ph kp from by exact hSV), (show (1 + (an (sh v 7) 1)) = if an v 15 = 10 ∧ an (sh v 5) 3 = 0 then 1 + an (sh v 7) 1 else bs from by rw [if_pos ⟨by omega, by omega⟩]), (show rM u_82 ((fun _ => false)) from by exact rM_0 hsb), (show (-(B + 2000) ≤ 0 ∧ 0 ≤ B + 2000) ∧ (-(B + 2000) ≤ 0 ∧ 0 ≤ B + 2000) ∧ (-(B + 2000) ≤ 0 ∧ 0 ≤ B + 2000) from by omega)⟩ (congrArg (fun z : Int => some (Value.int (jz z))) (show bs = bs from by first | rfl | omega | (split <;> first | rfl | omega | (exfalso; omega)))) hQ
        · refine jv_iconst hx hb dL_does_179 ?_
          refine lv_goto (tgt := 195) hx hb dL_does_180 (by decide) ?_
          exact cret_i hx hb hr hlocks hS hP hD (Nat.le_of_ble_eq_true rfl) (Nat.le_of_ble_eq_true rfl) rfl dL_does_195 [3, 4, 5, 6, 0, 1, 2, 7] (by decide) ⟨t0, t1, al, a0, n0, g0, a1, n1, g1, dh, bs, hi, mi, si, F, M, od, sz, f, ph, kp, 0⟩ rfl ⟨(show (0 ≤ 0 ∧ 0 ≤ 100) ∧ (3 ≤ al ∧ al ≤ 4) ∧ (0 ≤ n0 ∧ n0 ≤ 20) ∧ (0 ≤ n1 ∧ n1 ≤ 20) from by omega), (show ∀ j : Int, 0 ≤ j → j < n0 → 0 ≤ g0 j ∧ g0 j < 3 from by exact hg0), (show ∀ j : Int, 0 ≤ j → j < n1 → 0 ≤ g1 j ∧ g1 j < 3 from by exact hg1), (show SV od sz f ph kp from by exact hSV), (show bs = if an v 15 = 10 ∧ an (sh v 5) 3 = 0 then 1 + an (sh v 7) 1 else bs from by rw [if_neg (by omega)]), (show rM F M from by exact hM), (show (-(B + 2000) ≤ hi ∧ hi ≤ B + 2000) ∧ (-(B + 2000) ≤ mi ∧ mi ≤ B + 2000) ∧ (-(B + 2000) ≤ si ∧ si ≤ B + 2000) from by omega)⟩ (congrArg (fun z : Int => some (Value.int (jz z))) (show 0 = 0 from by first | rfl | omega | (split <;> first | rfl | omega | (exfalso; omega)))) hQ
      · refine jv_table (z := 11) (off := 171) (tgt := 196) hx hb dL_does_25 c_21 (by decide) (by decide) (by decide) rfl (by decide) ?_
        refine lv_aload_n hx hb dL_does_196 rfl (lv_at hl 3 rfl) ?_
        refine kV ⟨hx, hb, hml, hown, hts⟩ hK hA hS hP hD [] [] (mX8_savedStates l G x st sv bu di se wy ta tt rp sa od sz f ) lkL_37 [3, 2] [0, 1, 4, 5, 6, 7] (br := [bGrid G di db dh, bTab G ta tm bs hi mi si F, bState G st t0 t1 al, bText G t0 a0 n0 g0, bText G t1 a1 n1 g1, bPool G ph kp]) rfl rfl (by decide) 0 8 rfl rfl rfl rfl (Nat.le_of_ble_eq_true rfl) hl.1 dL_does_197 ⟨Nat.le_of_ble_eq_true rfl, Nat.le_of_ble_eq_true rfl⟩ ⟨Nat.le_of_ble_eq_true rfl, Nat.le_of_ble_eq_true rfl⟩ (fun u9 H locs hp9 hP hD hS => ?_)
        have hP : wP G [bGrid G di db dh, bTab G ta tm bs hi mi si F, bState G st t0 t1 al, bText G t0 a0 n0 g0, bText G t1 a1 n1 g1, bPool G ph kp, bBD G x st sv bu di se wy ta tt rp, bSaved G sv sa od sz f] H := hP
        have hD : wD A [bGrid G di db dh, bTab G ta tm bs hi mi si F, bState G st t0 t1 al, bText G t0 a0 n0 g0, bText G t1 a1 n1 g1, bPool G ph kp, bBD G x st sv bu di se wy ta tt rp, bSaved G sv sa od sz f] := hD
        have hP : wP G [bGrid G di db dh, bTab G ta tm bs hi mi si F, bState G st t0 t1 al, bText G t0 a0 n0 g0, bText G t1 a1 n1 g1, bBD G x st sv bu di se wy ta tt rp, bSaved G sv sa od sz f, bPool G ph kp] H := wP_sub hP [0, 1, 2, 3, 4, 6, 7, 5] rfl
        have hD : wD A [bGrid G di db dh, bTab G ta tm bs hi mi si F, bState G st t0 t1 al, bText G t0 a0 n0 g0, bText G t1 a1 n1 g1, bBD G x st sv bu di se wy ta tt rp, bSaved G sv sa od sz f, bPool G ph kp] := wD_sub hD [0, 1, 2, 3, 4, 6, 7, 5] (by decide) rfl
        show W p l e rmL_does s m args below meth c H locs 0 0 Q (F0 m 200 ls [.int (jz sz)])
        refine jv_if_ne (tgt := 207) hx hb dL_does_200 (by decide) (by omega) (fun c_85 => ?_) (fun c_85 => ?_)
        · refine lv_aload_n hx hb dL_does_207 rfl (lv_at hl 3 rfl) ?_
          refine kV ⟨hx, hb, hml, hown, hts⟩ hK hA hS hP hD [] [] (mX8_undo_k l G x st sv bu di se wy ta tt rp t0 t1 al a0 n0 g0 a1 n1 g1 sa od sz f ph kp (((od + (sz - 1)) % 6).toNat) (by omega) (by omega) (by omega) (by omega) (by exact hf) (by rfl) (by intro h0; exact okS_sz (SV_top hSV h0)) (by omega)) lkL_40 [5, 2, 3, 4, 6, 7] [0, 1] (br := [bGrid G di db dh, bTab G ta tm bs hi mi si F]) rfl rfl (by decide) 0 8 rfl rfl rfl rfl (Nat.le_of_ble_eq_true rfl) hl.1 dL_does_208 ⟨Nat.le_of_ble_eq_true rfl, Nat.le_of_ble_eq_true rfl⟩ ⟨Nat.le_of_ble_eq_true rfl, Nat.le_of_ble_eq_true rfl⟩ (fun u9 H locs hp9 hP hD hS => ?_)
          obtain ⟨u_86, u_87⟩ := u9
          have hc_88 : ∀ j : Int, 0 ≤ j → j < (ph (((od + (sz - 1)) % 6).toNat)).2.1.2.1 → u_86 j = (ph (((od + (sz - 1)) % 6).toNat)).2.2.1 j := hp9.1
          have hd_89 : ∀ j : Int, 0 ≤ j → j < (ph (((od + (sz - 1)) % 6).toNat)).2.1.2.2 → u_87 j = (ph (((od + (sz - 1)) % 6).toNat)).2.2.2 j := hp9.2
          have hP : wP G [bGrid G di db dh, bTab G ta tm bs hi mi si F, bBD G x st sv bu di se wy ta tt rp, bState G st t0 t1 ((ph (((od + (sz - 1)) % 6).toNat)).2.1.1), bText G t0 a0 ((ph (((od + (sz - 1)) % 6).toNat)).2.1.2.1) u_86, bText G t1 a1 ((ph (((od + (sz - 1)) % 6).toNat)).2.1.2.2) u_87, bSaved G sv sa od (sz - 1) f, bPool G ph kp] H := hP
          have hD : wD A [bGrid G di db dh, bTab G ta tm bs hi mi si F, bBD G x st sv bu di se wy ta tt rp, bState G st t0 t1 ((ph (((od + (sz - 1)) % 6).toNat)).2.1.1), bText G t0 a0 ((ph (((od + (sz - 1)) % 6).toNat)).2.1.2.1) u_86, bText G t1 a1 ((ph (((od + (sz - 1)) % 6).toNat)).2.1.2.2) u_87, bSaved G sv sa od (sz - 1) f, bPool G ph kp] := hD
          show W p l e rmL_does s m args below meth c H locs 0 0 Q (F0 m 211 ls [.int (jz (sz - 1))])
          have hu0 := hc_88
          have hu1 := hd_89
          have hto := SV_top hSV (by omega)
          exact cret_i hx hb hr hlocks hS hP hD (Nat.le_of_ble_eq_true rfl) (Nat.le_of_ble_eq_true rfl) rfl dL_does_211 [2, 3, 4, 5, 0, 1, 6, 7] (by decide) ⟨t0, t1, (ph (((od + (sz - 1)) % 6).toNat)).2.1.1, a0, (ph (((od + (sz - 1)) % 6).toNat)).2.1.2.1, u_86, a1, (ph (((od + (sz - 1)) % 6).toNat)).2.1.2.2, u_87, dh, bs, hi, mi, si, F, M, od, sz - 1, f, ph, kp, sz - 1⟩ rfl ⟨(show (0 ≤ (sz - 1) ∧ (sz - 1) ≤ 100) ∧ (3 ≤ ((ph (((od + (sz - 1)) % 6).toNat)).2.1.1) ∧ ((ph (((od + (sz - 1)) % 6).toNat)).2.1.1) ≤ 4) ∧ (0 ≤ ((ph (((od + (sz - 1)) % 6).toNat)).2.1.2.1) ∧ ((ph (((od + (sz - 1)) % 6).toNat)).2.1.2.1) ≤ 20) ∧ (0 ≤ ((ph (((od + (sz - 1)) % 6).toNat)).2.1.2.2) ∧ ((ph (((od + (sz - 1)) % 6).toNat)).2.1.2.2) ≤ 20) from by exact ⟨by omega, hto.1, hto.2.1, hto.2.2.1⟩), (show ∀ j : Int, 0 ≤ j → j < ((ph (((od + (sz - 1)) % 6).toNat)).2.1.2.1) → 0 ≤ u_86 j ∧ u_86 j < 3 from by exact fun j q1 q2 => by rw [hu0 j q1 q2]; exact hto.2.2.2.1 j q1 q2), (show ∀ j : Int, 0 ≤ j → j < ((ph (((od + (sz - 1)) % 6).toNat)).2.1.2.2) → 0 ≤ u_87 j ∧ u_87 j < 3 from by exact fun j q1 q2 => by rw [hu1 j q1 q2]; exact hto.2.2.2.2 j q1 q2), (show SV od (sz - 1) f ph kp from by exact SV_undo hSV (by omega)), (show bs = if an v 15 = 10 ∧ an (sh v 5) 3 = 0 then 1 + an (sh v 7) 1 else bs from by rw [if_neg (by omega)]), (show rM F M from by exact hM), (show (-(B + 2000) ≤ hi ∧ hi ≤ B + 2000) ∧ (-(B + 2000) ≤ mi ∧ mi ≤ B + 2000) ∧ (-(B + 2000) ≤ si ∧ si ≤ B + 2000) from by omega)⟩ (congrArg (fun z : Int => some (Value.int (jz z))) (show (sz - 1) = sz - 1 from by first | rfl | omega | (split <;> first | rfl | omega | (exfalso; omega)))) hQ
        · refine jv_iconst hx hb dL_does_203 ?_
          refine lv_goto (tgt := 211) hx hb dL_does_204 (by decide) ?_
          exact cret_i hx hb hr hlocks hS hP hD (Nat.le_of_ble_eq_true rfl) (Nat.le_of_ble_eq_true rfl) rfl dL_does_211 [5, 2, 3, 4, 0, 1, 6, 7] (by decide) ⟨t0, t1, al, a0, n0, g0, a1, n1, g1, dh, bs, hi, mi, si, F, M, od, sz, f, ph, kp, 0⟩ rfl ⟨(show (0 ≤ 0 ∧ 0 ≤ 100) ∧ (3 ≤ al ∧ al ≤ 4) ∧ (0 ≤ n0 ∧ n0 ≤ 20) ∧ (0 ≤ n1 ∧ n1 ≤ 20) from by omega), (show ∀ j : Int, 0 ≤ j → j < n0 → 0 ≤ g0 j ∧ g0 j < 3 from by exact hg0), (show ∀ j : Int, 0 ≤ j → j < n1 → 0 ≤ g1 j ∧ g1 j < 3 from by exact hg1), (show SV od sz f ph kp from by exact hSV), (show bs = if an v 15 = 10 ∧ an (sh v 5) 3 = 0 then 1 + an (sh v 7) 1 else bs from by rw [if_neg (by omega)]), (show rM F M from by exact hM), (show (-(B + 2000) ≤ hi ∧ hi ≤ B + 2000) ∧ (-(B + 2000) ≤ mi ∧ mi ≤ B + 2000) ∧ (-(B + 2000) ≤ si ∧ si ≤ B + 2000) from by omega)⟩ (congrArg (fun z : Int => some (Value.int (jz z))) (show 0 = 0 from by first | rfl | omega | (split <;> first | rfl | omega | (exfalso; omega)))) hQ
      · refine jv_table (z := 12) (off := 187) (tgt := 212) hx hb dL_does_25 c_21 (by decide) (by decide) (by decide) rfl (by decide) ?_
        refine lv_aload_n hx hb dL_does_212 rfl (lv_at hl 3 rfl) ?_
        refine jv_iconst hx hb dL_does_213 ?_
        refine lv_iload_n hx hb dL_does_214 rfl (lv_at hl 4 rfl) ?_
        refine jv_iconst hx hb dL_does_215 ?_
        refine jv_ishr hx hb dL_does_216 ?_
        refine jv_iconst hx hb dL_does_217 ?_
        refine jv_iand hx hb dL_does_218 ?_
        have ha_90 := an_bd (sh v 4) (y := 1) (by decide) (by decide)
        refine jv_iadd hx hb dL_does_219 ?_
        refine kV ⟨hx, hb, hml, hown, hts⟩ hK hA hS hP hD [.int (jz (3 + (an (sh v 4) 1)))] [] (mX8_setAlphabet_k l G x st sv bu di se wy ta tt rp t0 t1 al a0 n0 g0 a1 n1 g1 sa od sz f ph kp (3 + (an (sh v 4) 1)) (by omega) (by omega) (by omega) (by omega) (by omega) (by omega) (by exact hf) (by exact lt3_4 hg0) (by exact lt3_4 hg1) (by omega) (by exact ⟨by omega, fun j q1 q2 => by have := hg0 j q1 q2; omega, fun j q1 q2 => by have := hg1 j q1 q2; omega⟩)) lkL_43 [3, 4, 5, 6, 2, 7] [0, 1] (br := [bGrid G di db dh, bTab G ta tm bs hi mi si F]) rfl rfl (by decide) 0 8 rfl rfl rfl rfl (Nat.le_of_ble_eq_true rfl) hl.1 dL_does_220 ⟨Nat.le_of_ble_eq_true rfl, Nat.le_of_ble_eq_true rfl⟩ ⟨Nat.le_of_ble_eq_true rfl, Nat.le_of_ble_eq_true rfl⟩ (fun u9 H locs hp9 hP hD hS => ?_)
        obtain ⟨u_91, u_92, u_93, u_94, u_95⟩ := u9
        have ha_96 : (sz < 6 → u_91 = od ∧ u_92 = sz + 1) ∧ (sz = 6 → u_91 = (od + 1) % 6 ∧ u_92 = 6) := hp9.1
        have hb_97 : (u_95 = kp ∨ u_95 = kp + 1) ∧ (u_95 : Int) ≤ 6 ∧ u_92 ≤ u_95 ∧ (u_91 = 0 ∨ u_95 = 6) := hp9.2.1
        have hf_98 : ∀ z8 : Int, 0 ≤ z8 → z8 < 6 → u_93 z8 = if z8 < u_95 then some (u_94 z8.toNat).1.1 else none := hp9.2.2.1
        have hp_99 : ∀ i : Nat, (i : Int) ≠ (u_91 + (u_92 - 1)) % 6 → i < kp → u_94 i = ph i := hp9.2.2.2.1
        have hq_100 : (u_94 ((u_91 + (u_92 - 1)) % 6).toNat).2.1 = (al, n0, n1) := hp9.2.2.2.2.1
        have hr_101 : ∀ j : Int, 0 ≤ j → j < n0 → (u_94 ((u_91 + (u_92 - 1)) % 6).toNat).2.2.1 j = g0 j := hp9.2.2.2.2.2.1
        have hs_102 : ∀ j : Int, 0 ≤ j → j < n1 → (u_94 ((u_91 + (u_92 - 1)) % 6).toNat).2.2.2 j = g1 j := hp9.2.2.2.2.2.2
        have hP : wP G [bGrid G di db dh, bTab G ta tm bs hi mi si F, bBD G x st sv bu di se wy ta tt rp, bState G st t0 t1 (3 + (an (sh v 4) 1)), bText G t0 a0 n0 g0, bText G t1 a1 n1 g1, bSaved G sv sa u_91 u_92 u_93, bPool G u_94 u_95] H := hP
        have hD : wD A [bGrid G di db dh, bTab G ta tm bs hi mi si F, bBD G x st sv bu di se wy ta tt rp, bState G st t0 t1 (3 + (an (sh v 4) 1)), bText G t0 a0 n0 g0, bText G t1 a1 n1 g1, bSaved G sv sa u_91 u_92 u_93, bPool G u_94 u_95] := hD
        show W p l e rmL_does s m args below meth c H locs 5 47 Q (F0 m 223 ls [.int (jz al)])
        have hpv := sv_save hSV.1 ha_96 hb_97 hf_98 hp_99 hq_100 hr_101 hs_102
        have hpd := SV_save hSV hpv hal hn0 hn1 hg0 hg1
        exact cret_i hx hb hr hlocks hS hP hD (Nat.le_of_ble_eq_true rfl) (Nat.le_of_ble_eq_true rfl) rfl dL_does_223 [2, 3, 4, 5, 0, 1, 6, 7] (by decide) ⟨t0, t1, 3 + (an (sh v 4) 1), a0, n0, g0, a1, n1, g1, dh, bs, hi, mi, si, F, M, u_91, u_92, u_93, u_94, u_95, al⟩ rfl ⟨(show (0 ≤ al ∧ al ≤ 100) ∧ (3 ≤ (3 + (an (sh v 4) 1)) ∧ (3 + (an (sh v 4) 1)) ≤ 4) ∧ (0 ≤ n0 ∧ n0 ≤ 20) ∧ (0 ≤ n1 ∧ n1 ≤ 20) from by omega), (show ∀ j : Int, 0 ≤ j → j < n0 → 0 ≤ g0 j ∧ g0 j < 3 from by exact hg0), (show ∀ j : Int, 0 ≤ j → j < n1 → 0 ≤ g1 j ∧ g1 j < 3 from by exact hg1), (show SV u_91 u_92 u_93 u_94 u_95 from by exact hpd), (show bs = if an v 15 = 10 ∧ an (sh v 5) 3 = 0 then 1 + an (sh v 7) 1 else bs from by rw [if_neg (by omega)]), (show rM F M from by exact hM), (show (-(B + 2000) ≤ hi ∧ hi ≤ B + 2000) ∧ (-(B + 2000) ≤ mi ∧ mi ≤ B + 2000) ∧ (-(B + 2000) ≤ si ∧ si ≤ B + 2000) from by omega)⟩ (congrArg (fun z : Int => some (Value.int (jz z))) (show al = al from by first | rfl | omega | (split <;> first | rfl | omega | (exfalso; omega)))) hQ
      · refine jv_tabOut (tgt := 224) hx hb dL_does_25 (by omega) c_21 (by decide) ?_
        refine lv_aload_n hx hb dL_does_224 rfl (lv_at hl 3 rfl) ?_
        refine kV ⟨hx, hb, hml, hown, hts⟩ hK hA hS hP hD [] [] (mX8_measure l G x st sv bu di se wy ta tt rp t0 t1 al a0 n0 g0 a1 n1 g1 db dh ta tm bs hi mi si F M (by omega) (by omega) (by exact lt3_4 hg0) (by exact lt3_4 hg1) (by omega) (by exact hM)) lkL_46 [3, 4, 5, 6, 0, 1] [2, 7] (br := [bSaved G sv sa od sz f, bPool G ph kp]) rfl rfl (by decide) 0 8 rfl rfl rfl rfl (Nat.le_of_ble_eq_true rfl) hl.1 dL_does_225 ⟨Nat.le_of_ble_eq_true rfl, Nat.le_of_ble_eq_true rfl⟩ ⟨Nat.le_of_ble_eq_true rfl, Nat.le_of_ble_eq_true rfl⟩ (fun u9 H locs hp9 hP hD hS => ?_)
        obtain ⟨u_103, u_104, u_105, u_106, u_107, u_108⟩ := u9
        have hc_109 : (u_108, u_104, u_105, u_106) = tGo bs g0 g1 n0 n1 (M, hi, mi, si) := hp9.1
        have hd_110 : rM u_107 u_108 := hp9.2
        have hP : wP G [bSaved G sv sa od sz f, bPool G ph kp, bBD G x st sv bu di se wy ta tt rp, bState G st t0 t1 al, bText G t0 a0 n0 g0, bText G t1 a1 n1 g1, bGrid G di db u_103, bTab G ta tm bs u_104 u_105 u_106 u_107] H := hP
        have hD : wD A [bSaved G sv sa od sz f, bPool G ph kp, bBD G x st sv bu di se wy ta tt rp, bState G st t0 t1 al, bText G t0 a0 n0 g0, bText G t1 a1 n1 g1, bGrid G di db u_103, bTab G ta tm bs u_104 u_105 u_106 u_107] := hD
        have hP : wP G [bSaved G sv sa od sz f, bBD G x st sv bu di se wy ta tt rp, bState G st t0 t1 al, bText G t0 a0 n0 g0, bText G t1 a1 n1 g1, bGrid G di db u_103, bTab G ta tm bs u_104 u_105 u_106 u_107, bPool G ph kp] H := wP_sub hP [0, 2, 3, 4, 5, 6, 7, 1] rfl
        have hD : wD A [bSaved G sv sa od sz f, bBD G x st sv bu di se wy ta tt rp, bState G st t0 t1 al, bText G t0 a0 n0 g0, bText G t1 a1 n1 g1, bGrid G di db u_103, bTab G ta tm bs u_104 u_105 u_106 u_107, bPool G ph kp] := wD_sub hD [0, 2, 3, 4, 5, 6, 7, 1] (by decide) rfl
        show W p l e rmL_does s m args below meth c H locs 0 0 Q (F0 m 228 ls [.int (jz (D 1 g0 g1 n0 n1))])
        have hc1 := hc_109
        have hd1 := hd_110
        obtain ⟨q1a, q1b, q1c, q1d⟩ := tri_eq hc1
        have hcn1 := tGo_cnt (t := bs) g0 g1 hbs hn0 hn1 (M, hi, mi, si)
        rw [← q1b, ← q1c, ← q1d] at hcn1
        have hcn1 : u_104 + u_105 = hi + mi + whB bs n0 n1 ∧ u_106 = si + n0 * n1 - whB bs n0 n1 * bs * bs ∧ mi ≤ u_105 ∧ u_105 ≤ mi + 400 := hcn1
        exact cret_i hx hb hr hlocks hS hP hD (Nat.le_of_ble_eq_true rfl) (Nat.le_of_ble_eq_true rfl) rfl dL_does_228 [1, 2, 3, 4, 5, 6, 0, 7] (by decide) ⟨t0, t1, al, a0, n0, g0, a1, n1, g1, u_103, bs, u_104, u_105, u_106, u_107, u_108, od, sz, f, ph, kp, D 1 g0 g1 n0 n1⟩ rfl ⟨(show (0 ≤ (D 1 g0 g1 n0 n1) ∧ (D 1 g0 g1 n0 n1) ≤ 100) ∧ (3 ≤ al ∧ al ≤ 4) ∧ (0 ≤ n0 ∧ n0 ≤ 20) ∧ (0 ≤ n1 ∧ n1 ≤ 20) from by omega), (show ∀ j : Int, 0 ≤ j → j < n0 → 0 ≤ g0 j ∧ g0 j < 3 from by exact hg0), (show ∀ j : Int, 0 ≤ j → j < n1 → 0 ≤ g1 j ∧ g1 j < 3 from by exact hg1), (show SV od sz f ph kp from by exact hSV), (show bs = if an v 15 = 10 ∧ an (sh v 5) 3 = 0 then 1 + an (sh v 7) 1 else bs from by rw [if_neg (by omega)]), (show rM u_107 u_108 from by exact hd1), (show (-(B + 2000) ≤ u_104 ∧ u_104 ≤ B + 2000) ∧ (-(B + 2000) ≤ u_105 ∧ u_105 ≤ B + 2000) ∧ (-(B + 2000) ≤ u_106 ∧ u_106 ≤ B + 2000) from by omega)⟩ (congrArg (fun z : Int => some (Value.int (jz z))) (show (D 1 g0 g1 n0 n1) = D 1 g0 g1 n0 n1 from by first | rfl | omega | (split <;> first | rfl | omega | (exfalso; omega)))) hQ
    · refine kV ⟨hx, hb, hml, hown, hts⟩ hK hA hS hP hD [.int (jz (an (sh v 4) 1))] [] (mX8_length_1 l G x st sv bu di se wy ta tt rp t0 t1 al a0 n0 g0 a1 n1 g1 (an (sh v 4) 1) (by omega)) lkL_8 [0, 1, 2, 3] [4, 5, 6, 7] (br := [bGrid G di db dh, bTab G ta tm bs hi mi si F, bSaved G sv sa od sz f, bPool G ph kp]) rfl rfl (by decide) 0 8 rfl rfl rfl rfl (Nat.le_of_ble_eq_true rfl) hl.1 dL_does_8 ⟨Nat.le_of_ble_eq_true rfl, Nat.le_of_ble_eq_true rfl⟩ ⟨Nat.le_of_ble_eq_true rfl, Nat.le_of_ble_eq_true rfl⟩ (fun u9 H locs hp9 hP hD hS => ?_)
      have hP : wP G [bGrid G di db dh, bTab G ta tm bs hi mi si F, bSaved G sv sa od sz f, bPool G ph kp, bBD G x st sv bu di se wy ta tt rp, bState G st t0 t1 al, bText G t0 a0 n0 g0, bText G t1 a1 n1 g1] H := hP
      have hD : wD A [bGrid G di db dh, bTab G ta tm bs hi mi si F, bSaved G sv sa od sz f, bPool G ph kp, bBD G x st sv bu di se wy ta tt rp, bState G st t0 t1 al, bText G t0 a0 n0 g0, bText G t1 a1 n1 g1] := hD
      have hP : wP G [bGrid G di db dh, bTab G ta tm bs hi mi si F, bSaved G sv sa od sz f, bBD G x st sv bu di se wy ta tt rp, bState G st t0 t1 al, bText G t0 a0 n0 g0, bText G t1 a1 n1 g1, bPool G ph kp] H := wP_sub hP [0, 1, 2, 4, 5, 6, 7, 3] rfl
      have hD : wD A [bGrid G di db dh, bTab G ta tm bs hi mi si F, bSaved G sv sa od sz f, bBD G x st sv bu di se wy ta tt rp, bState G st t0 t1 al, bText G t0 a0 n0 g0, bText G t1 a1 n1 g1, bPool G ph kp] := wD_sub hD [0, 1, 2, 4, 5, 6, 7, 3] (by decide) rfl
      show W p l e rmL_does s m args below meth c H locs 0 0 Q (F0 m 11 ls [.int (jz n1)])
      refine lv_istore_n (lv' := [(3, .int (jz n1)), (2, .int (jz (an (sh v 4) 1))), (0, .ref x), (1, .int (jz v))]) hx hb dL_does_11 rfl hl (by decide) rfl (fun ls hl => ?_)
      refine lv_iload_n hx hb dL_does_12 rfl (lv_at hl 3 rfl) ?_
      refine jv_iconst hx hb dL_does_13 ?_
      refine jv_ishr hx hb dL_does_14 ?_
      refine jv_iconst hx hb dL_does_15 ?_
      refine kS ⟨hx, hb, hml, hown, hts⟩ hK hA hS hP hD [.int (jz (sh v 5)), .int (jz 3)] [] (mL_low l G (sh v 5) 3 (by omega)) lkL_14 [] [0, 1, 2, 3, 4, 5, 6, 7] (br := [bGrid G di db dh, bTab G ta tm bs hi mi si F, bSaved G sv sa od sz f, bBD G x st sv bu di se wy ta tt rp, bState G st t0 t1 al, bText G t0 a0 n0 g0, bText G t1 a1 n1 g1, bPool G ph kp]) rfl rfl (by decide) rfl rfl (Nat.le_of_ble_eq_true rfl) hl.1 dL_does_16 ⟨Nat.le_of_ble_eq_true rfl, Nat.le_of_ble_eq_true rfl⟩ ⟨Nat.le_of_ble_eq_true rfl, Nat.le_of_ble_eq_true rfl⟩ (fun u9 H locs hp9 hP hD hS => ?_)
      obtain ⟨u_112, rfl⟩ : ∃ z, z = u9 := ⟨_, rfl⟩
      have hc_113 : 0 ≤ u_112 ∧ u_112 < 3 := hp9
      have hP : wP G [bGrid G di db dh, bTab G ta tm bs hi mi si F, bSaved G sv sa od sz f, bBD G x st sv bu di se wy ta tt rp, bState G st t0 t1 al, bText G t0 a0 n0 g0, bText G t1 a1 n1 g1, bPool G ph kp] H := hP
      have hD : wD A [bGrid G di db dh, bTab G ta tm bs hi mi si F, bSaved G sv sa od sz f, bBD G x st sv bu di se wy ta tt rp, bState G st t0 t1 al, bText G t0 a0 n0 g0, bText G t1 a1 n1 g1, bPool G ph kp] := hD
      show W p l e rmL_does s m args below meth c H locs 0 0 Q (F0 m 19 ls [.int (jz u_112)])
      refine lv_istore (lv' := [(4, .int (jz u_112)), (3, .int (jz n1)), (2, .int (jz (an (sh v 4) 1))), (0, .ref x), (1, .int (jz v))]) hx hb dL_does_19 hl (by decide) rfl (fun ls hl => ?_)
      refine lv_iload_n hx hb dL_does_21 rfl (lv_at hl 4 rfl) ?_
      refine jv_bipush hx hb dL_does_22 (by decide) ?_
      refine jv_iand hx hb dL_does_24 ?_
      have ha_114 := an_bd v (y := 15) (by decide) (by decide)
      have K92 : ∀ (nn : Int) (le : Int) , (an v 15 ≤ 5) → ((an (sh v 4) 1 = 0 → nn = n0) ∧ (an (sh v 4) 1 = 1 → nn = n1)) → (0 ≤ le ∧ le < 3) → ∀ (H : Heap) (locs : List Loc) (ls : Array Slot), wP G [bGrid G di db dh, bTab G ta tm bs hi mi si F, bSaved G sv sa od sz f, bBD G x st sv bu di se wy ta tt rp, bState G st t0 t1 al, bText G t0 a0 n0 g0, bText G t1 a1 n1 g1, bPool G ph kp] H → wD A [bGrid G di db dh, bTab G ta tm bs hi mi si F, bSaved G sv sa od sz f, bBD G x st sv bu di se wy ta tt rp, bState G st t0 t1 al, bText G t0 a0 n0 g0, bText G t1 a1 n1 g1, bPool G ph kp] → va_S A s.heap H locs → lv_has ls 5 [(0, .ref x), (1, .int (jz v)), (2, .int (jz (an (sh v 4) 1))), (3, .int (jz nn)), (4, .int (jz le))] → W p l e rmL_does s m args below meth c H locs 0 0 Q (F0 m 92 ls []) := by
        intro nn le h5 hnn hle H locs ls hP hD hS hl
        refine lv_iload_n hx hb dL_does_92 rfl (lv_at hl 3 rfl) ?_
        refine jv_bipush hx hb dL_does_93 (by decide) ?_
        refine jv_icmp_ne (tgt := 102) hx hb dL_does_95 (by decide) (by omega) (by omega) (fun c_115 => ?_) (fun c_115 => ?_)
        · refine lv_aload_n hx hb dL_does_102 rfl (lv_at hl 0 rfl) ?_
          refine lv_iload_n hx hb dL_does_103 rfl (lv_at hl 2 rfl) ?_
          refine lv_iload_n hx hb dL_does_104 rfl (lv_at hl 1 rfl) ?_
          refine jv_bipush hx hb dL_does_105 (by decide) ?_
          refine jv_ishr hx hb dL_does_107 ?_
          refine lv_iload_n hx hb dL_does_108 rfl (lv_at hl 3 rfl) ?_
          refine jv_iconst hx hb dL_does_109 ?_
          refine jv_iadd hx hb dL_does_110 ?_
          refine kS ⟨hx, hb, hml, hown, hts⟩ hK hA hS hP hD [.int (jz (sh v 7)), .int (jz (nn + 1))] [.int (jz (an (sh v 4) 1)), .ref x] (mL_low l G (sh v 7) (nn + 1) (by omega)) lkL_14 [] [0, 1, 2, 3, 4, 5, 6, 7] (br := [bGrid G di db dh, bTab G ta tm bs hi mi si F, bSaved G sv sa od sz f, bBD G x st sv bu di se wy ta tt rp, bState G st t0 t1 al, bText G t0 a0 n0 g0, bText G t1 a1 n1 g1, bPool G ph kp]) rfl rfl (by decide) rfl rfl (Nat.le_of_ble_eq_true rfl) hl.1 dL_does_111 ⟨Nat.le_of_ble_eq_true rfl, Nat.le_of_ble_eq_true rfl⟩ ⟨Nat.le_of_ble_eq_true rfl, Nat.le_of_ble_eq_true rfl⟩ (fun u9 H locs hp9 hP hD hS => ?_)
          obtain ⟨u_116, rfl⟩ : ∃ z, z = u9 := ⟨_, rfl⟩
          have hc_117 : 0 ≤ u_116 ∧ u_116 < (nn + 1) := hp9
          have hP : wP G [bGrid G di db dh, bTab G ta tm bs hi mi si F, bSaved G sv sa od sz f, bBD G x st sv bu di se wy ta tt rp, bState G st t0 t1 al, bText G t0 a0 n0 g0, bText G t1 a1 n1 g1, bPool G ph kp] H := hP
          have hD : wD A [bGrid G di db dh, bTab G ta tm bs hi mi si F, bSaved G sv sa od sz f, bBD G x st sv bu di se wy ta tt rp, bState G st t0 t1 al, bText G t0 a0 n0 g0, bText G t1 a1 n1 g1, bPool G ph kp] := hD
          show W p l e rmL_does s m args below meth c H locs 0 0 Q (F0 m 114 ls [.int (jz u_116), .int (jz (an (sh v 4) 1)), .ref x])
          refine lv_iload hx hb dL_does_114 (lv_at hl 4 rfl) ?_
          refine kV ⟨hx, hb, hml, hown, hts⟩ hK hA hS hP hD [.int (jz (an (sh v 4) 1)), .int (jz u_116), .int (jz le)] [] (mX8_insert_1_k l G x st sv bu di se wy ta tt rp t0 t1 al a0 n0 g0 a1 n1 g1 sa od sz f ph kp (an (sh v 4) 1) u_116 le (by omega) (by omega) (by omega) (by omega) (by omega) (by omega) (by exact hf) (by omega) (by omega) (by omega) (by omega) (by omega)) lkL_20 [3, 4, 5, 6, 2, 7] [0, 1] (br := [bGrid G di db dh, bTab G ta tm bs hi mi si F]) rfl rfl (by decide) 0 8 rfl rfl rfl rfl (Nat.le_of_ble_eq_true rfl) hl.1 dL_does_116 ⟨Nat.le_of_ble_eq_true rfl, Nat.le_of_ble_eq_true rfl⟩ ⟨Nat.le_of_ble_eq_true rfl, Nat.le_of_ble_eq_true rfl⟩ (fun u9 H locs hp9 hP hD hS => ?_)
          obtain ⟨u_118, u_119, u_120, u_121, u_122⟩ := u9
          have ha_123 : (sz < 6 → u_118 = od ∧ u_119 = sz + 1) ∧ (sz = 6 → u_118 = (od + 1) % 6 ∧ u_119 = 6) := hp9.1
          have hb_124 : (u_122 = kp ∨ u_122 = kp + 1) ∧ (u_122 : Int) ≤ 6 ∧ u_119 ≤ u_122 ∧ (u_118 = 0 ∨ u_122 = 6) := hp9.2.1
          have hf_125 : ∀ z8 : Int, 0 ≤ z8 → z8 < 6 → u_120 z8 = if z8 < u_122 then some (u_121 z8.toNat).1.1 else none := hp9.2.2.1
          have hp_126 : ∀ i8 : Nat, (i8 : Int) ≠ (u_118 + (u_119 - 1)) % 6 → i8 < kp → u_121 i8 = ph i8 := hp9.2.2.2.1
          have hq_127 : (u_121 ((u_118 + (u_119 - 1)) % 6).toNat).2.1 = (al, n0, n1) := hp9.2.2.2.2.1
          have hr_128 : ∀ j : Int, 0 ≤ j → j < n0 → (u_121 ((u_118 + (u_119 - 1)) % 6).toNat).2.2.1 j = g0 j := hp9.2.2.2.2.2.1
          have hs_129 : ∀ j : Int, 0 ≤ j → j < n1 → (u_121 ((u_118 + (u_119 - 1)) % 6).toNat).2.2.2 j = g1 j := hp9.2.2.2.2.2.2
          have hP : wP G [bGrid G di db dh, bTab G ta tm bs hi mi si F, bBD G x st sv bu di se wy ta tt rp, bState G st t0 t1 al, bText G t0 a0 n0 g0, bText G t1 a1 (n1 + 1) (insF g1 u_116 n1 le), bSaved G sv sa u_118 u_119 u_120, bPool G u_121 u_122] H := hP
          have hD : wD A [bGrid G di db dh, bTab G ta tm bs hi mi si F, bBD G x st sv bu di se wy ta tt rp, bState G st t0 t1 al, bText G t0 a0 n0 g0, bText G t1 a1 (n1 + 1) (insF g1 u_116 n1 le), bSaved G sv sa u_118 u_119 u_120, bPool G u_121 u_122] := hD
          show W p l e rmL_does s m args below meth c H locs 5 47 Q (F0 m 119 ls [.int (jz (n1 + 1))])
          have hpv := sv_save hSV.1 ha_123 hb_124 hf_125 hp_126 hq_127 hr_128 hs_129
          have hpd := SV_save hSV hpv hal hn0 hn1 hg0 hg1
          exact cret_i hx hb hr hlocks hS hP hD (Nat.le_of_ble_eq_true rfl) (Nat.le_of_ble_eq_true rfl) rfl dL_does_119 [2, 3, 4, 5, 0, 1, 6, 7] (by decide) ⟨t0, t1, al, a0, n0, g0, a1, n1 + 1, insF g1 u_116 n1 le, dh, bs, hi, mi, si, F, M, u_118, u_119, u_120, u_121, u_122, n1 + 1⟩ rfl ⟨(show (0 ≤ (n1 + 1) ∧ (n1 + 1) ≤ 100) ∧ (3 ≤ al ∧ al ≤ 4) ∧ (0 ≤ n0 ∧ n0 ≤ 20) ∧ (0 ≤ (n1 + 1) ∧ (n1 + 1) ≤ 20) from by omega), (show ∀ j : Int, 0 ≤ j → j < n0 → 0 ≤ g0 j ∧ g0 j < 3 from by exact hg0), (show ∀ j : Int, 0 ≤ j → j < (n1 + 1) → 0 ≤ (insF g1 u_116 n1 le) j ∧ (insF g1 u_116 n1 le) j < 3 from by exact insF_b3 hg1 (by omega) (by omega)), (show SV u_118 u_119 u_120 u_121 u_122 from by exact hpd), (show bs = if an v 15 = 10 ∧ an (sh v 5) 3 = 0 then 1 + an (sh v 7) 1 else bs from by rw [if_neg (by omega)]), (show rM F M from by exact hM), (show (-(B + 2000) ≤ hi ∧ hi ≤ B + 2000) ∧ (-(B + 2000) ≤ mi ∧ mi ≤ B + 2000) ∧ (-(B + 2000) ≤ si ∧ si ≤ B + 2000) from by omega)⟩ (congrArg (fun z : Int => some (Value.int (jz z))) (show (n1 + 1) = n1 + 1 from by first | rfl | omega | (split <;> first | rfl | omega | (exfalso; omega)))) hQ
        · refine jv_iconst hx hb dL_does_98 ?_
          refine lv_goto (tgt := 119) hx hb dL_does_99 (by decide) ?_
          exact cret_i hx hb hr hlocks hS hP hD (Nat.le_of_ble_eq_true rfl) (Nat.le_of_ble_eq_true rfl) rfl dL_does_119 [3, 4, 5, 6, 0, 1, 2, 7] (by decide) ⟨t0, t1, al, a0, n0, g0, a1, n1, g1, dh, bs, hi, mi, si, F, M, od, sz, f, ph, kp, 0⟩ rfl ⟨(show (0 ≤ 0 ∧ 0 ≤ 100) ∧ (3 ≤ al ∧ al ≤ 4) ∧ (0 ≤ n0 ∧ n0 ≤ 20) ∧ (0 ≤ n1 ∧ n1 ≤ 20) from by omega), (show ∀ j : Int, 0 ≤ j → j < n0 → 0 ≤ g0 j ∧ g0 j < 3 from by exact hg0), (show ∀ j : Int, 0 ≤ j → j < n1 → 0 ≤ g1 j ∧ g1 j < 3 from by exact hg1), (show SV od sz f ph kp from by exact hSV), (show bs = if an v 15 = 10 ∧ an (sh v 5) 3 = 0 then 1 + an (sh v 7) 1 else bs from by rw [if_neg (by omega)]), (show rM F M from by exact hM), (show (-(B + 2000) ≤ hi ∧ hi ≤ B + 2000) ∧ (-(B + 2000) ≤ mi ∧ mi ≤ B + 2000) ∧ (-(B + 2000) ≤ si ∧ si ≤ B + 2000) from by omega)⟩ (congrArg (fun z : Int => some (Value.int (jz z))) (show 0 = 0 from by first | rfl | omega | (split <;> first | rfl | omega | (exfalso; omega)))) hQ
      rcases (show an v 15 = 0 ∨ an v 15 = 1 ∨ an v 15 = 2 ∨ an v 15 = 3 ∨ an v 15 = 4 ∨ an v 15 = 5 ∨ an v 15 = 6 ∨ an v 15 = 7 ∨ an v 15 = 8 ∨ an v 15 = 9 ∨ an v 15 = 10 ∨ an v 15 = 11 ∨ an v 15 = 12 ∨ 12 < (an v 15) by omega) with c_130 | c_130 | c_130 | c_130 | c_130 | c_130 | c_130 | c_130 | c_130 | c_130 | c_130 | c_130 | c_130 | c_130
      · refine jv_table (z := 0) (off := 67) (tgt := 92) hx hb dL_does_25 c_130 (by decide) (by decide) (by decide) rfl (by decide) ?_
        exact K92 n1 u_112 (by omega) (by omega) (by omega) H _ _ hP hD hS (lv_sub hl [3, 4, 2, 1, 0] rfl)
      · refine jv_table (z := 1) (off := 67) (tgt := 92) hx hb dL_does_25 c_130 (by decide) (by decide) (by decide) rfl (by decide) ?_
        exact K92 n1 u_112 (by omega) (by omega) (by omega) H _ _ hP hD hS (lv_sub hl [3, 4, 2, 1, 0] rfl)
      · refine jv_table (z := 2) (off := 67) (tgt := 92) hx hb dL_does_25 c_130 (by decide) (by decide) (by decide) rfl (by decide) ?_
        exact K92 n1 u_112 (by omega) (by omega) (by omega) H _ _ hP hD hS (lv_sub hl [3, 4, 2, 1, 0] rfl)
      · refine jv_table (z := 3) (off := 67) (tgt := 92) hx hb dL_does_25 c_130 (by decide) (by decide) (by decide) rfl (by decide) ?_
        exact K92 n1 u_112 (by omega) (by omega) (by omega) H _ _ hP hD hS (lv_sub hl [3, 4, 2, 1, 0] rfl)
      · refine jv_table (z := 4) (off := 67) (tgt := 92) hx hb dL_does_25 c_130 (by decide) (by decide) (by decide) rfl (by decide) ?_
        exact K92 n1 u_112 (by omega) (by omega) (by omega) H _ _ hP hD hS (lv_sub hl [3, 4, 2, 1, 0] rfl)
      · refine jv_table (z := 5) (off := 67) (tgt := 92) hx hb dL_does_25 c_130 (by decide) (by decide) (by decide) rfl (by decide) ?_
        exact K92 n1 u_112 (by omega) (by omega) (by omega) H _ _ hP hD hS (lv_sub hl [3, 4, 2, 1, 0] rfl)
      · refine jv_table (z := 6) (off := 95) (tgt := 120) hx hb dL_does_25 c_130 (by decide) (by decide) (by decide) rfl (by decide) ?_
        refine lv_iload_n hx hb dL_does_120 rfl (lv_at hl 1 rfl) ?_
        refine jv_if_ne (tgt := 128) hx hb dL_does_121 (by decide) (by omega) (fun c_131 => ?_) (fun c_131 => ?_)
        · refine lv_aload_n hx hb dL_does_128 rfl (lv_at hl 3 rfl) ?_
          refine lv_iload_n hx hb dL_does_129 rfl (lv_at hl 2 rfl) ?_
          refine lv_iload_n hx hb dL_does_130 rfl (lv_at hl 4 rfl) ?_
          refine jv_bipush hx hb dL_does_131 (by decide) ?_
          refine jv_ishr hx hb dL_does_133 ?_
          refine lv_iload_n hx hb dL_does_134 rfl (lv_at hl 1 rfl) ?_
          refine kS ⟨hx, hb, hml, hown, hts⟩ hK hA hS hP hD [.int (jz (sh v 7)), .int (jz n1)] [.int (jz (an (sh v 4) 1)), .ref x] (mL_low l G (sh v 7) n1 (by omega)) lkL_14 [] [0, 1, 2, 3, 4, 5, 6, 7] (br := [bGrid G di db dh, bTab G ta tm bs hi mi si F, bSaved G sv sa od sz f, bBD G x st sv bu di se wy ta tt rp, bState G st t0 t1 al, bText G t0 a0 n0 g0, bText G t1 a1 n1 g1, bPool G ph kp]) rfl rfl (by decide) rfl rfl (Nat.le_of_ble_eq_true rfl) hl.1 dL_does_135 ⟨Nat.le_of_ble_eq_true rfl, Nat.le_of_ble_eq_true rfl⟩ ⟨Nat.le_of_ble_eq_true rfl, Nat.le_of_ble_eq_true rfl⟩ (fun u9 H locs hp9 hP hD hS => ?_)
          obtain ⟨u_132, rfl⟩ : ∃ z, z = u9 := ⟨_, rfl⟩
          have hc_133 : 0 ≤ u_132 ∧ u_132 < n1 := hp9
          have hP : wP G [bGrid G di db dh, bTab G ta tm bs hi mi si F, bSaved G sv sa od sz f, bBD G x st sv bu di se wy ta tt rp, bState G st t0 t1 al, bText G t0 a0 n0 g0, bText G t1 a1 n1 g1, bPool G ph kp] H := hP
          have hD : wD A [bGrid G di db dh, bTab G ta tm bs hi mi si F, bSaved G sv sa od sz f, bBD G x st sv bu di se wy ta tt rp, bState G st t0 t1 al, bText G t0 a0 n0 g0, bText G t1 a1 n1 g1, bPool G ph kp] := hD
          show W p l e rmL_does s m args below meth c H locs 0 0 Q (F0 m 138 ls [.int (jz u_132), .int (jz (an (sh v 4) 1)), .ref x])
          refine kV ⟨hx, hb, hml, hown, hts⟩ hK hA hS hP hD [.int (jz (an (sh v 4) 1)), .int (jz u_132)] [] (mX8_remove_1_k l G x st sv bu di se wy ta tt rp t0 t1 al a0 n0 g0 a1 n1 g1 sa od sz f ph kp (an (sh v 4) 1) u_132 (by omega) (by omega) (by omega) (by omega) (by omega) (by omega) (by exact hf) (by omega) (by omega) (by omega)) lkL_24 [3, 4, 5, 6, 2, 7] [0, 1] (br := [bGrid G di db dh, bTab G ta tm bs hi mi si F]) rfl rfl (by decide) 0 8 rfl rfl rfl rfl (Nat.le_of_ble_eq_true rfl) hl.1 dL_does_138 ⟨Nat.le_of_ble_eq_true rfl, Nat.le_of_ble_eq_true rfl⟩ ⟨Nat.le_of_ble_eq_true rfl, Nat.le_of_ble_eq_true rfl⟩ (fun u9 H locs hp9 hP hD hS => ?_)
          obtain ⟨u_134, u_135, u_136, u_137, u_138⟩ := u9
          have ha_139 : (sz < 6 → u_134 = od ∧ u_135 = sz + 1) ∧ (sz = 6 → u_134 = (od + 1) % 6 ∧ u_135 = 6) := hp9.1
          have hb_140 : (u_138 = kp ∨ u_138 = kp + 1) ∧ (u_138 : Int) ≤ 6 ∧ u_135 ≤ u_138 ∧ (u_134 = 0 ∨ u_138 = 6) := hp9.2.1
          have hf_141 : ∀ z8 : Int, 0 ≤ z8 → z8 < 6 → u_136 z8 = if z8 < u_138 then some (u_137 z8.toNat).1.1 else none := hp9.2.2.1
          have hp_142 : ∀ i8 : Nat, (i8 : Int) ≠ (u_134 + (u_135 - 1)) % 6 → i8 < kp → u_137 i8 = ph i8 := hp9.2.2.2.1
          have hq_143 : (u_137 ((u_134 + (u_135 - 1)) % 6).toNat).2.1 = (al, n0, n1) := hp9.2.2.2.2.1
          have hr_144 : ∀ j : Int, 0 ≤ j → j < n0 → (u_137 ((u_134 + (u_135 - 1)) % 6).toNat).2.2.1 j = g0 j := hp9.2.2.2.2.2.1
          have hs_145 : ∀ j : Int, 0 ≤ j → j < n1 → (u_137 ((u_134 + (u_135 - 1)) % 6).toNat).2.2.2 j = g1 j := hp9.2.2.2.2.2.2
          have hP : wP G [bGrid G di db dh, bTab G ta tm bs hi mi si F, bBD G x st sv bu di se wy ta tt rp, bState G st t0 t1 al, bText G t0 a0 n0 g0, bText G t1 a1 (n1 - 1) (delF g1 u_132 n1), bSaved G sv sa u_134 u_135 u_136, bPool G u_137 u_138] H := hP
          have hD : wD A [bGrid G di db dh, bTab G ta tm bs hi mi si F, bBD G x st sv bu di se wy ta tt rp, bState G st t0 t1 al, bText G t0 a0 n0 g0, bText G t1 a1 (n1 - 1) (delF g1 u_132 n1), bSaved G sv sa u_134 u_135 u_136, bPool G u_137 u_138] := hD
          show W p l e rmL_does s m args below meth c H locs 5 47 Q (F0 m 141 ls [.int (jz (g1 u_132))])
          have hpv := sv_save hSV.1 ha_139 hb_140 hf_141 hp_142 hq_143 hr_144 hs_145
          have hpd := SV_save hSV hpv hal hn0 hn1 hg0 hg1
          have hgw := hg1 u_132 (by omega) (by omega)
          exact cret_i hx hb hr hlocks hS hP hD (Nat.le_of_ble_eq_true rfl) (Nat.le_of_ble_eq_true rfl) rfl dL_does_141 [2, 3, 4, 5, 0, 1, 6, 7] (by decide) ⟨t0, t1, al, a0, n0, g0, a1, n1 - 1, delF g1 u_132 n1, dh, bs, hi, mi, si, F, M, u_134, u_135, u_136, u_137, u_138, g1 u_132⟩ rfl ⟨(show (0 ≤ (g1 u_132) ∧ (g1 u_132) ≤ 100) ∧ (3 ≤ al ∧ al ≤ 4) ∧ (0 ≤ n0 ∧ n0 ≤ 20) ∧ (0 ≤ (n1 - 1) ∧ (n1 - 1) ≤ 20) from by omega), (show ∀ j : Int, 0 ≤ j → j < n0 → 0 ≤ g0 j ∧ g0 j < 3 from by exact hg0), (show ∀ j : Int, 0 ≤ j → j < (n1 - 1) → 0 ≤ (delF g1 u_132 n1) j ∧ (delF g1 u_132 n1) j < 3 from by exact delF_b3 hg1 (by omega)), (show SV u_134 u_135 u_136 u_137 u_138 from by exact hpd), (show bs = if an v 15 = 10 ∧ an (sh v 5) 3 = 0 then 1 + an (sh v 7) 1 else bs from by rw [if_neg (by omega)]), (show rM F M from by exact hM), (show (-(B + 2000) ≤ hi ∧ hi ≤ B + 2000) ∧ (-(B + 2000) ≤ mi ∧ mi ≤ B + 2000) ∧ (-(B + 2000) ≤ si ∧ si ≤ B + 2000) from by omega)⟩ (congrArg (fun z : Int => some (Value.int (jz z))) (show (g1 u_132) = g1 u_132 from by first | rfl | omega | (split <;> first | rfl | omega | (exfalso; omega)))) hQ
        · refine jv_iconst hx hb dL_does_124 ?_
          refine lv_goto (tgt := 141) hx hb dL_does_125 (by decide) ?_
          exact cret_i hx hb hr hlocks hS hP hD (Nat.le_of_ble_eq_true rfl) (Nat.le_of_ble_eq_true rfl) rfl dL_does_141 [3, 4, 5, 6, 0, 1, 2, 7] (by decide) ⟨t0, t1, al, a0, n0, g0, a1, n1, g1, dh, bs, hi, mi, si, F, M, od, sz, f, ph, kp, 0⟩ rfl ⟨(show (0 ≤ 0 ∧ 0 ≤ 100) ∧ (3 ≤ al ∧ al ≤ 4) ∧ (0 ≤ n0 ∧ n0 ≤ 20) ∧ (0 ≤ n1 ∧ n1 ≤ 20) from by omega), (show ∀ j : Int, 0 ≤ j → j < n0 → 0 ≤ g0 j ∧ g0 j < 3 from by exact hg0), (show ∀ j : Int, 0 ≤ j → j < n1 → 0 ≤ g1 j ∧ g1 j < 3 from by exact hg1), (show SV od sz f ph kp from by exact hSV), (show bs = if an v 15 = 10 ∧ an (sh v 5) 3 = 0 then 1 + an (sh v 7) 1 else bs from by rw [if_neg (by omega)]), (show rM F M from by exact hM), (show (-(B + 2000) ≤ hi ∧ hi ≤ B + 2000) ∧ (-(B + 2000) ≤ mi ∧ mi ≤ B + 2000) ∧ (-(B + 2000) ≤ si ∧ si ≤ B + 2000) from by omega)⟩ (congrArg (fun z : Int => some (Value.int (jz z))) (show 0 = 0 from by first | rfl | omega | (split <;> first | rfl | omega | (exfalso; omega)))) hQ
      · refine jv_table (z := 7) (off := 117) (tgt := 142) hx hb dL_does_25 c_130 (by decide) (by decide) (by decide) rfl (by decide) ?_
        refine lv_iload_n hx hb dL_does_142 rfl (lv_at hl 1 rfl) ?_
        refine jv_if_ne (tgt := 150) hx hb dL_does_143 (by decide) (by omega) (fun c_146 => ?_) (fun c_146 => ?_)
        · refine lv_aload_n hx hb dL_does_150 rfl (lv_at hl 3 rfl) ?_
          refine lv_iload_n hx hb dL_does_151 rfl (lv_at hl 2 rfl) ?_
          refine lv_iload_n hx hb dL_does_152 rfl (lv_at hl 4 rfl) ?_
          refine jv_bipush hx hb dL_does_153 (by decide) ?_
          refine jv_ishr hx hb dL_does_155 ?_
          refine lv_iload_n hx hb dL_does_156 rfl (lv_at hl 1 rfl) ?_
          refine kS ⟨hx, hb, hml, hown, hts⟩ hK hA hS hP hD [.int (jz (sh v 7)), .int (jz n1)] [.int (jz (an (sh v 4) 1)), .ref x] (mL_low l G (sh v 7) n1 (by omega)) lkL_14 [] [0, 1, 2, 3, 4, 5, 6, 7] (br := [bGrid G di db dh, bTab G ta tm bs hi mi si F, bSaved G sv sa od sz f, bBD G x st sv bu di se wy ta tt rp, bState G st t0 t1 al, bText G t0 a0 n0 g0, bText G t1 a1 n1 g1, bPool G ph kp]) rfl rfl (by decide) rfl rfl (Nat.le_of_ble_eq_true rfl) hl.1 dL_does_157 ⟨Nat.le_of_ble_eq_true rfl, Nat.le_of_ble_eq_true rfl⟩ ⟨Nat.le_of_ble_eq_true rfl, Nat.le_of_ble_eq_true rfl⟩ (fun u9 H locs hp9 hP hD hS => ?_)
          obtain ⟨u_147, rfl⟩ : ∃ z, z = u9 := ⟨_, rfl⟩
          have hc_148 : 0 ≤ u_147 ∧ u_147 < n1 := hp9
          have hP : wP G [bGrid G di db dh, bTab G ta tm bs hi mi si F, bSaved G sv sa od sz f, bBD G x st sv bu di se wy ta tt rp, bState G st t0 t1 al, bText G t0 a0 n0 g0, bText G t1 a1 n1 g1, bPool G ph kp] H := hP
          have hD : wD A [bGrid G di db dh, bTab G ta tm bs hi mi si F, bSaved G sv sa od sz f, bBD G x st sv bu di se wy ta tt rp, bState G st t0 t1 al, bText G t0 a0 n0 g0, bText G t1 a1 n1 g1, bPool G ph kp] := hD
          show W p l e rmL_does s m args below meth c H locs 0 0 Q (F0 m 160 ls [.int (jz u_147), .int (jz (an (sh v 4) 1)), .ref x])
          refine lv_iload hx hb dL_does_160 (lv_at hl 0 rfl) ?_
          refine kV ⟨hx, hb, hml, hown, hts⟩ hK hA hS hP hD [.int (jz (an (sh v 4) 1)), .int (jz u_147), .int (jz u_112)] [] (mX8_replace_1_k l G x st sv bu di se wy ta tt rp t0 t1 al a0 n0 g0 a1 n1 g1 sa od sz f ph kp (an (sh v 4) 1) u_147 u_112 (by omega) (by omega) (by omega) (by omega) (by omega) (by omega) (by exact hf) (by omega) (by omega) (by omega) (by omega) (by omega)) lkL_27 [3, 4, 5, 6, 2, 7] [0, 1] (br := [bGrid G di db dh, bTab G ta tm bs hi mi si F]) rfl rfl (by decide) 0 8 rfl rfl rfl rfl (Nat.le_of_ble_eq_true rfl) hl.1 dL_does_162 ⟨Nat.le_of_ble_eq_true rfl, Nat.le_of_ble_eq_true rfl⟩ ⟨Nat.le_of_ble_eq_true rfl, Nat.le_of_ble_eq_true rfl⟩ (fun u9 H locs hp9 hP hD hS => ?_)
          obtain ⟨u_149, u_150, u_151, u_152, u_153⟩ := u9
          have ha_154 : (sz < 6 → u_149 = od ∧ u_150 = sz + 1) ∧ (sz = 6 → u_149 = (od + 1) % 6 ∧ u_150 = 6) := hp9.1
          have hb_155 : (u_153 = kp ∨ u_153 = kp + 1) ∧ (u_153 : Int) ≤ 6 ∧ u_150 ≤ u_153 ∧ (u_149 = 0 ∨ u_153 = 6) := hp9.2.1
          have hf_156 : ∀ z8 : Int, 0 ≤ z8 → z8 < 6 → u_151 z8 = if z8 < u_153 then some (u_152 z8.toNat).1.1 else none := hp9.2.2.1
          have hp_157 : ∀ i8 : Nat, (i8 : Int) ≠ (u_149 + (u_150 - 1)) % 6 → i8 < kp → u_152 i8 = ph i8 := hp9.2.2.2.1
          have hq_158 : (u_152 ((u_149 + (u_150 - 1)) % 6).toNat).2.1 = (al, n0, n1) := hp9.2.2.2.2.1
          have hr_159 : ∀ j : Int, 0 ≤ j → j < n0 → (u_152 ((u_149 + (u_150 - 1)) % 6).toNat).2.2.1 j = g0 j := hp9.2.2.2.2.2.1
          have hs_160 : ∀ j : Int, 0 ≤ j → j < n1 → (u_152 ((u_149 + (u_150 - 1)) % 6).toNat).2.2.2 j = g1 j := hp9.2.2.2.2.2.2
          have hP : wP G [bGrid G di db dh, bTab G ta tm bs hi mi si F, bBD G x st sv bu di se wy ta tt rp, bState G st t0 t1 al, bText G t0 a0 n0 g0, bText G t1 a1 n1 (up g1 u_147 u_112), bSaved G sv sa u_149 u_150 u_151, bPool G u_152 u_153] H := hP
          have hD : wD A [bGrid G di db dh, bTab G ta tm bs hi mi si F, bBD G x st sv bu di se wy ta tt rp, bState G st t0 t1 al, bText G t0 a0 n0 g0, bText G t1 a1 n1 (up g1 u_147 u_112), bSaved G sv sa u_149 u_150 u_151, bPool G u_152 u_153] := hD
          show W p l e rmL_does s m args below meth c H locs 5 47 Q (F0 m 165 ls [.int (jz (g1 u_147))])
          have hpv := sv_save hSV.1 ha_154 hb_155 hf_156 hp_157 hq_158 hr_159 hs_160
          have hpd := SV_save hSV hpv hal hn0 hn1 hg0 hg1
          have hgw := hg1 u_147 (by omega) (by omega)
          exact cret_i hx hb hr hlocks hS hP hD (Nat.le_of_ble_eq_true rfl) (Nat.le_of_ble_eq_true rfl) rfl dL_does_165 [2, 3, 4, 5, 0, 1, 6, 7] (by decide) ⟨t0, t1, al, a0, n0, g0, a1, n1, up g1 u_147 u_112, dh, bs, hi, mi, si, F, M, u_149, u_150, u_151, u_152, u_153, g1 u_147⟩ rfl ⟨(show (0 ≤ (g1 u_147) ∧ (g1 u_147) ≤ 100) ∧ (3 ≤ al ∧ al ≤ 4) ∧ (0 ≤ n0 ∧ n0 ≤ 20) ∧ (0 ≤ n1 ∧ n1 ≤ 20) from by omega), (show ∀ j : Int, 0 ≤ j → j < n0 → 0 ≤ g0 j ∧ g0 j < 3 from by exact hg0), (show ∀ j : Int, 0 ≤ j → j < n1 → 0 ≤ (up g1 u_147 u_112) j ∧ (up g1 u_147 u_112) j < 3 from by exact upF_b3 hg1 (by omega)), (show SV u_149 u_150 u_151 u_152 u_153 from by exact hpd), (show bs = if an v 15 = 10 ∧ an (sh v 5) 3 = 0 then 1 + an (sh v 7) 1 else bs from by rw [if_neg (by omega)]), (show rM F M from by exact hM), (show (-(B + 2000) ≤ hi ∧ hi ≤ B + 2000) ∧ (-(B + 2000) ≤ mi ∧ mi ≤ B + 2000) ∧ (-(B + 2000) ≤ si ∧ si ≤ B + 2000) from by omega)⟩ (congrArg (fun z : Int => some (Value.int (jz z))) (show (g1 u_147) = g1 u_147 from by first | rfl | omega | (split <;> first | rfl | omega | (exfalso; omega)))) hQ
        · refine jv_iconst hx hb dL_does_146 ?_
          refine lv_goto (tgt := 165) hx hb dL_does_147 (by decide) ?_
          exact cret_i hx hb hr hlocks hS hP hD (Nat.le_of_ble_eq_true rfl) (Nat.le_of_ble_eq_true rfl) rfl dL_does_165 [3, 4, 5, 6, 0, 1, 2, 7] (by decide) ⟨t0, t1, al, a0, n0, g0, a1, n1, g1, dh, bs, hi, mi, si, F, M, od, sz, f, ph, kp, 0⟩ rfl ⟨(show (0 ≤ 0 ∧ 0 ≤ 100) ∧ (3 ≤ al ∧ al ≤ 4) ∧ (0 ≤ n0 ∧ n0 ≤ 20) ∧ (0 ≤ n1 ∧ n1 ≤ 20) from by omega), (show ∀ j : Int, 0 ≤ j → j < n0 → 0 ≤ g0 j ∧ g0 j < 3 from by exact hg0), (show ∀ j : Int, 0 ≤ j → j < n1 → 0 ≤ g1 j ∧ g1 j < 3 from by exact hg1), (show SV od sz f ph kp from by exact hSV), (show bs = if an v 15 = 10 ∧ an (sh v 5) 3 = 0 then 1 + an (sh v 7) 1 else bs from by rw [if_neg (by omega)]), (show rM F M from by exact hM), (show (-(B + 2000) ≤ hi ∧ hi ≤ B + 2000) ∧ (-(B + 2000) ≤ mi ∧ mi ≤ B + 2000) ∧ (-(B + 2000) ≤ si ∧ si ≤ B + 2000) from by omega)⟩ (congrArg (fun z : Int => some (Value.int (jz z))) (show 0 = 0 from by first | rfl | omega | (split <;> first | rfl | omega | (exfalso; omega)))) hQ
      · refine jv_table (z := 8) (off := 117) (tgt := 142) hx hb dL_does_25 c_130 (by decide) (by decide) (by decide) rfl (by decide) ?_
        refine lv_iload_n hx hb dL_does_142 rfl (lv_at hl 1 rfl) ?_
        refine jv_if_ne (tgt := 150) hx hb dL_does_143 (by decide) (by omega) (fun c_161 => ?_) (fun c_161 => ?_)
        · refine lv_aload_n hx hb dL_does_150 rfl (lv_at hl 3 rfl) ?_
          refine lv_iload_n hx hb dL_does_151 rfl (lv_at hl 2 rfl) ?_
          refine lv_iload_n hx hb dL_does_152 rfl (lv_at hl 4 rfl) ?_
          refine jv_bipush hx hb dL_does_153 (by decide) ?_
          refine jv_ishr hx hb dL_does_155 ?_
          refine lv_iload_n hx hb dL_does_156 rfl (lv_at hl 1 rfl) ?_
          refine kS ⟨hx, hb, hml, hown, hts⟩ hK hA hS hP hD [.int (jz (sh v 7)), .int (jz n1)] [.int (jz (an (sh v 4) 1)), .ref x] (mL_low l G (sh v 7) n1 (by omega)) lkL_14 [] [0, 1, 2, 3, 4, 5, 6, 7] (br := [bGrid G di db dh, bTab G ta tm bs hi mi si F, bSaved G sv sa od sz f, bBD G x st sv bu di se wy ta tt rp, bState G st t0 t1 al, bText G t0 a0 n0 g0, bText G t1 a1 n1 g1, bPool G ph kp]) rfl rfl (by decide) rfl rfl (Nat.le_of_ble_eq_true rfl) hl.1 dL_does_157 ⟨Nat.le_of_ble_eq_true rfl, Nat.le_of_ble_eq_true rfl⟩ ⟨Nat.le_of_ble_eq_true rfl, Nat.le_of_ble_eq_true rfl⟩ (fun u9 H locs hp9 hP hD hS => ?_)
          obtain ⟨u_162, rfl⟩ : ∃ z, z = u9 := ⟨_, rfl⟩
          have hc_163 : 0 ≤ u_162 ∧ u_162 < n1 := hp9
          have hP : wP G [bGrid G di db dh, bTab G ta tm bs hi mi si F, bSaved G sv sa od sz f, bBD G x st sv bu di se wy ta tt rp, bState G st t0 t1 al, bText G t0 a0 n0 g0, bText G t1 a1 n1 g1, bPool G ph kp] H := hP
          have hD : wD A [bGrid G di db dh, bTab G ta tm bs hi mi si F, bSaved G sv sa od sz f, bBD G x st sv bu di se wy ta tt rp, bState G st t0 t1 al, bText G t0 a0 n0 g0, bText G t1 a1 n1 g1, bPool G ph kp] := hD
          show W p l e rmL_does s m args below meth c H locs 0 0 Q (F0 m 160 ls [.int (jz u_162), .int (jz (an (sh v 4) 1)), .ref x])
          refine lv_iload hx hb dL_does_160 (lv_at hl 0 rfl) ?_
          refine kV ⟨hx, hb, hml, hown, hts⟩ hK hA hS hP hD [.int (jz (an (sh v 4) 1)), .int (jz u_162), .int (jz u_112)] [] (mX8_replace_1_k l G x st sv bu di se wy ta tt rp t0 t1 al a0 n0 g0 a1 n1 g1 sa od sz f ph kp (an (sh v 4) 1) u_162 u_112 (by omega) (by omega) (by omega) (by omega) (by omega) (by omega) (by exact hf) (by omega) (by omega) (by omega) (by omega) (by omega)) lkL_27 [3, 4, 5, 6, 2, 7] [0, 1] (br := [bGrid G di db dh, bTab G ta tm bs hi mi si F]) rfl rfl (by decide) 0 8 rfl rfl rfl rfl (Nat.le_of_ble_eq_true rfl) hl.1 dL_does_162 ⟨Nat.le_of_ble_eq_true rfl, Nat.le_of_ble_eq_true rfl⟩ ⟨Nat.le_of_ble_eq_true rfl, Nat.le_of_ble_eq_true rfl⟩ (fun u9 H locs hp9 hP hD hS => ?_)
          obtain ⟨u_164, u_165, u_166, u_167, u_168⟩ := u9
          have ha_169 : (sz < 6 → u_164 = od ∧ u_165 = sz + 1) ∧ (sz = 6 → u_164 = (od + 1) % 6 ∧ u_165 = 6) := hp9.1
          have hb_170 : (u_168 = kp ∨ u_168 = kp + 1) ∧ (u_168 : Int) ≤ 6 ∧ u_165 ≤ u_168 ∧ (u_164 = 0 ∨ u_168 = 6) := hp9.2.1
          have hf_171 : ∀ z8 : Int, 0 ≤ z8 → z8 < 6 → u_166 z8 = if z8 < u_168 then some (u_167 z8.toNat).1.1 else none := hp9.2.2.1
          have hp_172 : ∀ i8 : Nat, (i8 : Int) ≠ (u_164 + (u_165 - 1)) % 6 → i8 < kp → u_167 i8 = ph i8 := hp9.2.2.2.1
          have hq_173 : (u_167 ((u_164 + (u_165 - 1)) % 6).toNat).2.1 = (al, n0, n1) := hp9.2.2.2.2.1
          have hr_174 : ∀ j : Int, 0 ≤ j → j < n0 → (u_167 ((u_164 + (u_165 - 1)) % 6).toNat).2.2.1 j = g0 j := hp9.2.2.2.2.2.1
          have hs_175 : ∀ j : Int, 0 ≤ j → j < n1 → (u_167 ((u_164 + (u_165 - 1)) % 6).toNat).2.2.2 j = g1 j := hp9.2.2.2.2.2.2
          have hP : wP G [bGrid G di db dh, bTab G ta tm bs hi mi si F, bBD G x st sv bu di se wy ta tt rp, bState G st t0 t1 al, bText G t0 a0 n0 g0, bText G t1 a1 n1 (up g1 u_162 u_112), bSaved G sv sa u_164 u_165 u_166, bPool G u_167 u_168] H := hP
          have hD : wD A [bGrid G di db dh, bTab G ta tm bs hi mi si F, bBD G x st sv bu di se wy ta tt rp, bState G st t0 t1 al, bText G t0 a0 n0 g0, bText G t1 a1 n1 (up g1 u_162 u_112), bSaved G sv sa u_164 u_165 u_166, bPool G u_167 u_168] := hD
          show W p l e rmL_does s m args below meth c H locs 5 47 Q (F0 m 165 ls [.int (jz (g1 u_162))])
          have hpv := sv_save hSV.1 ha_169 hb_170 hf_171 hp_172 hq_173 hr_174 hs_175
          have hpd := SV_save hSV hpv hal hn0 hn1 hg0 hg1
          have hgw := hg1 u_162 (by omega) (by omega)
          exact cret_i hx hb hr hlocks hS hP hD (Nat.le_of_ble_eq_true rfl) (Nat.le_of_ble_eq_true rfl) rfl dL_does_165 [2, 3, 4, 5, 0, 1, 6, 7] (by decide) ⟨t0, t1, al, a0, n0, g0, a1, n1, up g1 u_162 u_112, dh, bs, hi, mi, si, F, M, u_164, u_165, u_166, u_167, u_168, g1 u_162⟩ rfl ⟨(show (0 ≤ (g1 u_162) ∧ (g1 u_162) ≤ 100) ∧ (3 ≤ al ∧ al ≤ 4) ∧ (0 ≤ n0 ∧ n0 ≤ 20) ∧ (0 ≤ n1 ∧ n1 ≤ 20) from by omega), (show ∀ j : Int, 0 ≤ j → j < n0 → 0 ≤ g0 j ∧ g0 j < 3 from by exact hg0), (show ∀ j : Int, 0 ≤ j → j < n1 → 0 ≤ (up g1 u_162 u_112) j ∧ (up g1 u_162 u_112) j < 3 from by exact upF_b3 hg1 (by omega)), (show SV u_164 u_165 u_166 u_167 u_168 from by exact hpd), (show bs = if an v 15 = 10 ∧ an (sh v 5) 3 = 0 then 1 + an (sh v 7) 1 else bs from by rw [if_neg (by omega)]), (show rM F M from by exact hM), (show (-(B + 2000) ≤ hi ∧ hi ≤ B + 2000) ∧ (-(B + 2000) ≤ mi ∧ mi ≤ B + 2000) ∧ (-(B + 2000) ≤ si ∧ si ≤ B + 2000) from by omega)⟩ (congrArg (fun z : Int => some (Value.int (jz z))) (show (g1 u_162) = g1 u_162 from by first | rfl | omega | (split <;> first | rfl | omega | (exfalso; omega)))) hQ
        · refine jv_iconst hx hb dL_does_146 ?_
          refine lv_goto (tgt := 165) hx hb dL_does_147 (by decide) ?_
          exact cret_i hx hb hr hlocks hS hP hD (Nat.le_of_ble_eq_true rfl) (Nat.le_of_ble_eq_true rfl) rfl dL_does_165 [3, 4, 5, 6, 0, 1, 2, 7] (by decide) ⟨t0, t1, al, a0, n0, g0, a1, n1, g1, dh, bs, hi, mi, si, F, M, od, sz, f, ph, kp, 0⟩ rfl ⟨(show (0 ≤ 0 ∧ 0 ≤ 100) ∧ (3 ≤ al ∧ al ≤ 4) ∧ (0 ≤ n0 ∧ n0 ≤ 20) ∧ (0 ≤ n1 ∧ n1 ≤ 20) from by omega), (show ∀ j : Int, 0 ≤ j → j < n0 → 0 ≤ g0 j ∧ g0 j < 3 from by exact hg0), (show ∀ j : Int, 0 ≤ j → j < n1 → 0 ≤ g1 j ∧ g1 j < 3 from by exact hg1), (show SV od sz f ph kp from by exact hSV), (show bs = if an v 15 = 10 ∧ an (sh v 5) 3 = 0 then 1 + an (sh v 7) 1 else bs from by rw [if_neg (by omega)]), (show rM F M from by exact hM), (show (-(B + 2000) ≤ hi ∧ hi ≤ B + 2000) ∧ (-(B + 2000) ≤ mi ∧ mi ≤ B + 2000) ∧ (-(B + 2000) ≤ si ∧ si ≤ B + 2000) from by omega)⟩ (congrArg (fun z : Int => some (Value.int (jz z))) (show 0 = 0 from by first | rfl | omega | (split <;> first | rfl | omega | (exfalso; omega)))) hQ
      · refine jv_table (z := 9) (off := 141) (tgt := 166) hx hb dL_does_25 c_130 (by decide) (by decide) (by decide) rfl (by decide) ?_
        refine lv_aload_n hx hb dL_does_166 rfl (lv_at hl 3 rfl) ?_
        refine kV ⟨hx, hb, hml, hown, hts⟩ hK hA hS hP hD [] [] (mX8_exchange l G x st sv bu di se wy ta tt rp t0 t1 al a0 n0 g0 a1 n1 g1 sa od sz f ph kp (by omega) (by omega) (by omega) (by omega) (by omega) (by omega) (by exact hf)) lkL_30 [3, 4, 5, 6, 2, 7] [0, 1] (br := [bGrid G di db dh, bTab G ta tm bs hi mi si F]) rfl rfl (by decide) 0 8 rfl rfl rfl rfl (Nat.le_of_ble_eq_true rfl) hl.1 dL_does_167 ⟨Nat.le_of_ble_eq_true rfl, Nat.le_of_ble_eq_true rfl⟩ ⟨Nat.le_of_ble_eq_true rfl, Nat.le_of_ble_eq_true rfl⟩ (fun u9 H locs hp9 hP hD hS => ?_)
        obtain ⟨u_176, u_177, u_178, u_179, u_180⟩ := u9
        have ha_181 : (sz < 6 → u_176 = od ∧ u_177 = sz + 1) ∧ (sz = 6 → u_176 = (od + 1) % 6 ∧ u_177 = 6) := hp9.1
        have hb_182 : (u_180 = kp ∨ u_180 = kp + 1) ∧ (u_180 : Int) ≤ 6 ∧ u_177 ≤ u_180 ∧ (u_176 = 0 ∨ u_180 = 6) := hp9.2.1
        have hf_183 : ∀ z : Int, 0 ≤ z → z < 6 → u_178 z = if z < u_180 then some (u_179 z.toNat).1.1 else none := hp9.2.2.1
        have hp_184 : ∀ i : Nat, (i : Int) ≠ (u_176 + (u_177 - 1)) % 6 → i < kp → u_179 i = ph i := hp9.2.2.2.1
        have hq_185 : (u_179 ((u_176 + (u_177 - 1)) % 6).toNat).2.1 = (al, n0, n1) := hp9.2.2.2.2.1
        have hr_186 : ∀ j : Int, 0 ≤ j → j < n0 → (u_179 ((u_176 + (u_177 - 1)) % 6).toNat).2.2.1 j = g0 j := hp9.2.2.2.2.2.1
        have hs_187 : ∀ j : Int, 0 ≤ j → j < n1 → (u_179 ((u_176 + (u_177 - 1)) % 6).toNat).2.2.2 j = g1 j := hp9.2.2.2.2.2.2
        have hP : wP G [bGrid G di db dh, bTab G ta tm bs hi mi si F, bBD G x st sv bu di se wy ta tt rp, bState G st t1 t0 al, bText G t0 a0 n0 g0, bText G t1 a1 n1 g1, bSaved G sv sa u_176 u_177 u_178, bPool G u_179 u_180] H := hP
        have hD : wD A [bGrid G di db dh, bTab G ta tm bs hi mi si F, bBD G x st sv bu di se wy ta tt rp, bState G st t1 t0 al, bText G t0 a0 n0 g0, bText G t1 a1 n1 g1, bSaved G sv sa u_176 u_177 u_178, bPool G u_179 u_180] := hD
        show W p l e rmL_does s m args below meth c H locs 5 47 Q (F0 m 170 ls [.int (jz n1)])
        have hpv := sv_save hSV.1 ha_181 hb_182 hf_183 hp_184 hq_185 hr_186 hs_187
        have hpd := SV_save hSV hpv hal hn0 hn1 hg0 hg1
        exact cret_i hx hb hr hlocks hS hP hD (Nat.le_of_ble_eq_true rfl) (Nat.le_of_ble_eq_true rfl) rfl dL_does_170 [2, 3, 5, 4, 0, 1, 6, 7] (by decide) ⟨t1, t0, al, a1, n1, g1, a0, n0, g0, dh, bs, hi, mi, si, F, M, u_176, u_177, u_178, u_179, u_180, n1⟩ rfl ⟨(show (0 ≤ n1 ∧ n1 ≤ 100) ∧ (3 ≤ al ∧ al ≤ 4) ∧ (0 ≤ n1 ∧ n1 ≤ 20) ∧ (0 ≤ n0 ∧ n0 ≤ 20) from by omega), (show ∀ j : Int, 0 ≤ j → j < n1 → 0 ≤ g1 j ∧ g1 j < 3 from by exact hg1), (show ∀ j : Int, 0 ≤ j → j < n0 → 0 ≤ g0 j ∧ g0 j < 3 from by exact hg0), (show SV u_176 u_177 u_178 u_179 u_180 from by exact hpd), (show bs = if an v 15 = 10 ∧ an (sh v 5) 3 = 0 then 1 + an (sh v 7) 1 else bs from by rw [if_neg (by omega)]), (show rM F M from by exact hM), (show (-(B + 2000) ≤ hi ∧ hi ≤ B + 2000) ∧ (-(B + 2000) ≤ mi ∧ mi ≤ B + 2000) ∧ (-(B + 2000) ≤ si ∧ si ≤ B + 2000) from by omega)⟩ (congrArg (fun z : Int => some (Value.int (jz z))) (show n1 = n1 from by first | rfl | omega | (split <;> first | rfl | omega | (exfalso; omega)))) hQ
      · refine jv_table (z := 10) (off := 146) (tgt := 171) hx hb dL_does_25 c_130 (by decide) (by decide) (by decide) rfl (by decide) ?_
        refine lv_iload_n hx hb dL_does_171 rfl (lv_at hl 4 rfl) ?_
        refine jv_iconst hx hb dL_does_172 ?_
        refine jv_ishr hx hb dL_does_173 ?_
        refine jv_iconst hx hb dL_does_174 ?_
        refine jv_iand hx hb dL_does_175 ?_
        have ha_188 := an_bd (sh v 5) (y := 3) (by decide) (by decide)
        refine jv_if_le (tgt := 183) hx hb dL_does_176 (by decide) (by omega) (fun c_189 => ?_) (fun c_189 => ?_)
        · refine lv_aload_n hx hb dL_does_183 rfl (lv_at hl 3 rfl) ?_
          refine jv_iconst hx hb dL_does_184 ?_
          refine lv_iload_n hx hb dL_does_185 rfl (lv_at hl 4 rfl) ?_
          refine jv_bipush hx hb dL_does_186 (by decide) ?_
          refine jv_ishr hx hb dL_does_188 ?_
          refine jv_iconst hx hb dL_does_189 ?_
          refine jv_iand hx hb dL_does_190 ?_
          have ha_190 := an_bd (sh v 7) (y := 1) (by decide) (by decide)
          refine jv_iadd hx hb dL_does_191 ?_
          refine kV ⟨hx, hb, hml, hown, hts⟩ hK hA hS hP hD [.int (jz (1 + (an (sh v 7) 1)))] [] (mX8_setBlock_k l G x st sv bu di se wy ta tt rp ta tm bs hi mi si F (1 + (an (sh v 7) 1)) (by omega) (by omega)) lkL_34 [3, 1] [0, 2, 4, 5, 6, 7] (br := [bGrid G di db dh, bSaved G sv sa od sz f, bState G st t0 t1 al, bText G t0 a0 n0 g0, bText G t1 a1 n1 g1, bPool G ph kp]) rfl rfl (by decide) 0 8 rfl rfl rfl rfl (Nat.le_of_ble_eq_true rfl) hl.1 dL_does_192 ⟨Nat.le_of_ble_eq_true rfl, Nat.le_of_ble_eq_true rfl⟩ ⟨Nat.le_of_ble_eq_true rfl, Nat.le_of_ble_eq_true rfl⟩ (fun u9 H locs hp9 hP hD hS => ?_)
          obtain ⟨u_191, rfl⟩ : ∃ z, z = u9 := ⟨_, rfl⟩
          have hc_192 : ∀ w : Int, 0 ≤ w → w < 324 → u_191 w = 0 := hp9
          have hP : wP G [bGrid G di db dh, bSaved G sv sa od sz f, bState G st t0 t1 al, bText G t0 a0 n0 g0, bText G t1 a1 n1 g1, bPool G ph kp, bBD G x st sv bu di se wy ta tt rp, bTab G ta tm (1 + (an (sh v 7) 1)) 0 0 0 u_191] H := hP
          have hD : wD A [bGrid G di db dh, bSaved G sv sa od sz f, bState G st t0 t1 al, bText G t0 a0 n0 g0, bText G t1 a1 n1 g1, bPool G ph kp, bBD G x st sv bu di se wy ta tt rp, bTab G ta tm (1 + (an (sh v 7) 1)) 0 0 0 u_191] := hD
          have hP : wP G [bGrid G di db dh, bSaved G sv sa od sz f, bState G st t0 t1 al, bText G t0 a0 n0 g0, bText G t1 a1 n1 g1, bBD G x st sv bu di se wy ta tt rp, bTab G ta tm (1 + (an (sh v 7) 1)) 0 0 0 u_191, bPool G ph kp] H := wP_sub hP [0, 1, 2, 3, 4, 6, 7, 5] rfl
          have hD : wD A [bGrid G di db dh, bSaved G sv sa od sz f, bState G st t0 t1 al, bText G t0 a0 n0 g0, bText G t1 a1 n1 g1, bBD G x st sv bu di se wy ta tt rp, bTab G ta tm (1 + (an (sh v 7) 1)) 0 0 0 u_191, bPool G ph kp] := wD_sub hD [0, 1, 2, 3, 4, 6, 7, 5] (by decide) rfl
          show W p l e rmL_does s m args below meth c H locs 0 0 Q (F0 m 195 ls [.int (jz bs)])
          have hsb := hc_192
          exact cret_i hx hb hr hlocks hS hP hD (Nat.le_of_ble_eq_true rfl) (Nat.le_of_ble_eq_true rfl) rfl dL_does_195 [5, 2, 3, 4, 0, 6, 1, 7] (by decide) ⟨t0, t1, al, a0, n0, g0, a1, n1, g1, dh, 1 + (an (sh v 7) 1), 0, 0, 0, u_191, (fun _ => false), od, sz, f, ph, kp, bs⟩ rfl ⟨(show (0 ≤ bs ∧ bs ≤ 100) ∧ (3 ≤ al ∧ al ≤ 4) ∧ (0 ≤ n0 ∧ n0 ≤ 20) ∧ (0 ≤ n1 ∧ n1 ≤ 20) from by omega), (show ∀ j : Int, 0 ≤ j → j < n0 → 0 ≤ g0 j ∧ g0 j < 3 from by exact hg0), (show ∀ j : Int, 0 ≤ j → j < n1 → 0 ≤ g1 j ∧ g1 j < 3 from by exact hg1), (show SV od sz f ph kp from by exact hSV), (show (1 + (an (sh v 7) 1)) = if an v 15 = 10 ∧ an (sh v 5) 3 = 0 then 1 + an (sh v 7) 1 else bs from by rw [if_pos ⟨by omega, by omega⟩]), (show rM u_191 ((fun _ => false)) from by exact rM_0 hsb), (show (-(B + 2000) ≤ 0 ∧ 0 ≤ B + 2000) ∧ (-(B + 2000) ≤ 0 ∧ 0 ≤ B + 2000) ∧ (-(B + 2000) ≤ 0 ∧ 0 ≤ B + 2000) from by omega)⟩ (congrArg (fun z : Int => some (Value.int (jz z))) (show bs = bs from by first | rfl | omega | (split <;> first | rfl | omega | (exfalso; omega)))) hQ
        · refine jv_iconst hx hb dL_does_179 ?_
          refine lv_goto (tgt := 195) hx hb dL_does_180 (by decide) ?_
          exact cret_i hx hb hr hlocks hS hP hD (Nat.le_of_ble_eq_true rfl) (Nat.le_of_ble_eq_true rfl) rfl dL_does_195 [3, 4, 5, 6, 0, 1, 2, 7] (by decide) ⟨t0, t1, al, a0, n0, g0, a1, n1, g1, dh, bs, hi, mi, si, F, M, od, sz, f, ph, kp, 0⟩ rfl ⟨(show (0 ≤ 0 ∧ 0 ≤ 100) ∧ (3 ≤ al ∧ al ≤ 4) ∧ (0 ≤ n0 ∧ n0 ≤ 20) ∧ (0 ≤ n1 ∧ n1 ≤ 20) from by omega), (show ∀ j : Int, 0 ≤ j → j < n0 → 0 ≤ g0 j ∧ g0 j < 3 from by exact hg0), (show ∀ j : Int, 0 ≤ j → j < n1 → 0 ≤ g1 j ∧ g1 j < 3 from by exact hg1), (show SV od sz f ph kp from by exact hSV), (show bs = if an v 15 = 10 ∧ an (sh v 5) 3 = 0 then 1 + an (sh v 7) 1 else bs from by rw [if_neg (by omega)]), (show rM F M from by exact hM), (show (-(B + 2000) ≤ hi ∧ hi ≤ B + 2000) ∧ (-(B + 2000) ≤ mi ∧ mi ≤ B + 2000) ∧ (-(B + 2000) ≤ si ∧ si ≤ B + 2000) from by omega)⟩ (congrArg (fun z : Int => some (Value.int (jz z))) (show 0 = 0 from by first | rfl | omega | (split <;> first | rfl | omega | (exfalso; omega)))) hQ
      · refine jv_table (z := 11) (off := 171) (tgt := 196) hx hb dL_does_25 c_130 (by decide) (by decide) (by decide) rfl (by decide) ?_
        refine lv_aload_n hx hb dL_does_196 rfl (lv_at hl 3 rfl) ?_
        refine kV ⟨hx, hb, hml, hown, hts⟩ hK hA hS hP hD [] [] (mX8_savedStates l G x st sv bu di se wy ta tt rp sa od sz f ) lkL_37 [3, 2] [0, 1, 4, 5, 6, 7] (br := [bGrid G di db dh, bTab G ta tm bs hi mi si F, bState G st t0 t1 al, bText G t0 a0 n0 g0, bText G t1 a1 n1 g1, bPool G ph kp]) rfl rfl (by decide) 0 8 rfl rfl rfl rfl (Nat.le_of_ble_eq_true rfl) hl.1 dL_does_197 ⟨Nat.le_of_ble_eq_true rfl, Nat.le_of_ble_eq_true rfl⟩ ⟨Nat.le_of_ble_eq_true rfl, Nat.le_of_ble_eq_true rfl⟩ (fun u9 H locs hp9 hP hD hS => ?_)
        have hP : wP G [bGrid G di db dh, bTab G ta tm bs hi mi si F, bState G st t0 t1 al, bText G t0 a0 n0 g0, bText G t1 a1 n1 g1, bPool G ph kp, bBD G x st sv bu di se wy ta tt rp, bSaved G sv sa od sz f] H := hP
        have hD : wD A [bGrid G di db dh, bTab G ta tm bs hi mi si F, bState G st t0 t1 al, bText G t0 a0 n0 g0, bText G t1 a1 n1 g1, bPool G ph kp, bBD G x st sv bu di se wy ta tt rp, bSaved G sv sa od sz f] := hD
        have hP : wP G [bGrid G di db dh, bTab G ta tm bs hi mi si F, bState G st t0 t1 al, bText G t0 a0 n0 g0, bText G t1 a1 n1 g1, bBD G x st sv bu di se wy ta tt rp, bSaved G sv sa od sz f, bPool G ph kp] H := wP_sub hP [0, 1, 2, 3, 4, 6, 7, 5] rfl
        have hD : wD A [bGrid G di db dh, bTab G ta tm bs hi mi si F, bState G st t0 t1 al, bText G t0 a0 n0 g0, bText G t1 a1 n1 g1, bBD G x st sv bu di se wy ta tt rp, bSaved G sv sa od sz f, bPool G ph kp] := wD_sub hD [0, 1, 2, 3, 4, 6, 7, 5] (by decide) rfl
        show W p l e rmL_does s m args below meth c H locs 0 0 Q (F0 m 200 ls [.int (jz sz)])
        refine jv_if_ne (tgt := 207) hx hb dL_does_200 (by decide) (by omega) (fun c_194 => ?_) (fun c_194 => ?_)
        · refine lv_aload_n hx hb dL_does_207 rfl (lv_at hl 3 rfl) ?_
          refine kV ⟨hx, hb, hml, hown, hts⟩ hK hA hS hP hD [] [] (mX8_undo_k l G x st sv bu di se wy ta tt rp t0 t1 al a0 n0 g0 a1 n1 g1 sa od sz f ph kp (((od + (sz - 1)) % 6).toNat) (by omega) (by omega) (by omega) (by omega) (by exact hf) (by rfl) (by intro h0; exact okS_sz (SV_top hSV h0)) (by omega)) lkL_40 [5, 2, 3, 4, 6, 7] [0, 1] (br := [bGrid G di db dh, bTab G ta tm bs hi mi si F]) rfl rfl (by decide) 0 8 rfl rfl rfl rfl (Nat.le_of_ble_eq_true rfl) hl.1 dL_does_208 ⟨Nat.le_of_ble_eq_true rfl, Nat.le_of_ble_eq_true rfl⟩ ⟨Nat.le_of_ble_eq_true rfl, Nat.le_of_ble_eq_true rfl⟩ (fun u9 H locs hp9 hP hD hS => ?_)
          obtain ⟨u_195, u_196⟩ := u9
          have hc_197 : ∀ j : Int, 0 ≤ j → j < (ph (((od + (sz - 1)) % 6).toNat)).2.1.2.1 → u_195 j = (ph (((od + (sz - 1)) % 6).toNat)).2.2.1 j := hp9.1
          have hd_198 : ∀ j : Int, 0 ≤ j → j < (ph (((od + (sz - 1)) % 6).toNat)).2.1.2.2 → u_196 j = (ph (((od + (sz - 1)) % 6).toNat)).2.2.2 j := hp9.2
          have hP : wP G [bGrid G di db dh, bTab G ta tm bs hi mi si F, bBD G x st sv bu di se wy ta tt rp, bState G st t0 t1 ((ph (((od + (sz - 1)) % 6).toNat)).2.1.1), bText G t0 a0 ((ph (((od + (sz - 1)) % 6).toNat)).2.1.2.1) u_195, bText G t1 a1 ((ph (((od + (sz - 1)) % 6).toNat)).2.1.2.2) u_196, bSaved G sv sa od (sz - 1) f, bPool G ph kp] H := hP
          have hD : wD A [bGrid G di db dh, bTab G ta tm bs hi mi si F, bBD G x st sv bu di se wy ta tt rp, bState G st t0 t1 ((ph (((od + (sz - 1)) % 6).toNat)).2.1.1), bText G t0 a0 ((ph (((od + (sz - 1)) % 6).toNat)).2.1.2.1) u_195, bText G t1 a1 ((ph (((od + (sz - 1)) % 6).toNat)).2.1.2.2) u_196, bSaved G sv sa od (sz - 1) f, bPool G ph kp] := hD
          show W p l e rmL_does s m args below meth c H locs 0 0 Q (F0 m 211 ls [.int (jz (sz - 1))])
          have hu0 := hc_197
          have hu1 := hd_198
          have hto := SV_top hSV (by omega)
          exact cret_i hx hb hr hlocks hS hP hD (Nat.le_of_ble_eq_true rfl) (Nat.le_of_ble_eq_true rfl) rfl dL_does_211 [2, 3, 4, 5, 0, 1, 6, 7] (by decide) ⟨t0, t1, (ph (((od + (sz - 1)) % 6).toNat)).2.1.1, a0, (ph (((od + (sz - 1)) % 6).toNat)).2.1.2.1, u_195, a1, (ph (((od + (sz - 1)) % 6).toNat)).2.1.2.2, u_196, dh, bs, hi, mi, si, F, M, od, sz - 1, f, ph, kp, sz - 1⟩ rfl ⟨(show (0 ≤ (sz - 1) ∧ (sz - 1) ≤ 100) ∧ (3 ≤ ((ph (((od + (sz - 1)) % 6).toNat)).2.1.1) ∧ ((ph (((od + (sz - 1)) % 6).toNat)).2.1.1) ≤ 4) ∧ (0 ≤ ((ph (((od + (sz - 1)) % 6).toNat)).2.1.2.1) ∧ ((ph (((od + (sz - 1)) % 6).toNat)).2.1.2.1) ≤ 20) ∧ (0 ≤ ((ph (((od + (sz - 1)) % 6).toNat)).2.1.2.2) ∧ ((ph (((od + (sz - 1)) % 6).toNat)).2.1.2.2) ≤ 20) from by exact ⟨by omega, hto.1, hto.2.1, hto.2.2.1⟩), (show ∀ j : Int, 0 ≤ j → j < ((ph (((od + (sz - 1)) % 6).toNat)).2.1.2.1) → 0 ≤ u_195 j ∧ u_195 j < 3 from by exact fun j q1 q2 => by rw [hu0 j q1 q2]; exact hto.2.2.2.1 j q1 q2), (show ∀ j : Int, 0 ≤ j → j < ((ph (((od + (sz - 1)) % 6).toNat)).2.1.2.2) → 0 ≤ u_196 j ∧ u_196 j < 3 from by exact fun j q1 q2 => by rw [hu1 j q1 q2]; exact hto.2.2.2.2 j q1 q2), (show SV od (sz - 1) f ph kp from by exact SV_undo hSV (by omega)), (show bs = if an v 15 = 10 ∧ an (sh v 5) 3 = 0 then 1 + an (sh v 7) 1 else bs from by rw [if_neg (by omega)]), (show rM F M from by exact hM), (show (-(B + 2000) ≤ hi ∧ hi ≤ B + 2000) ∧ (-(B + 2000) ≤ mi ∧ mi ≤ B + 2000) ∧ (-(B + 2000) ≤ si ∧ si ≤ B + 2000) from by omega)⟩ (congrArg (fun z : Int => some (Value.int (jz z))) (show (sz - 1) = sz - 1 from by first | rfl | omega | (split <;> first | rfl | omega | (exfalso; omega)))) hQ
        · refine jv_iconst hx hb dL_does_203 ?_
          refine lv_goto (tgt := 211) hx hb dL_does_204 (by decide) ?_
          exact cret_i hx hb hr hlocks hS hP hD (Nat.le_of_ble_eq_true rfl) (Nat.le_of_ble_eq_true rfl) rfl dL_does_211 [5, 2, 3, 4, 0, 1, 6, 7] (by decide) ⟨t0, t1, al, a0, n0, g0, a1, n1, g1, dh, bs, hi, mi, si, F, M, od, sz, f, ph, kp, 0⟩ rfl ⟨(show (0 ≤ 0 ∧ 0 ≤ 100) ∧ (3 ≤ al ∧ al ≤ 4) ∧ (0 ≤ n0 ∧ n0 ≤ 20) ∧ (0 ≤ n1 ∧ n1 ≤ 20) from by omega), (show ∀ j : Int, 0 ≤ j → j < n0 → 0 ≤ g0 j ∧ g0 j < 3 from by exact hg0), (show ∀ j : Int, 0 ≤ j → j < n1 → 0 ≤ g1 j ∧ g1 j < 3 from by exact hg1), (show SV od sz f ph kp from by exact hSV), (show bs = if an v 15 = 10 ∧ an (sh v 5) 3 = 0 then 1 + an (sh v 7) 1 else bs from by rw [if_neg (by omega)]), (show rM F M from by exact hM), (show (-(B + 2000) ≤ hi ∧ hi ≤ B + 2000) ∧ (-(B + 2000) ≤ mi ∧ mi ≤ B + 2000) ∧ (-(B + 2000) ≤ si ∧ si ≤ B + 2000) from by omega)⟩ (congrArg (fun z : Int => some (Value.int (jz z))) (show 0 = 0 from by first | rfl | omega | (split <;> first | rfl | omega | (exfalso; omega)))) hQ
      · refine jv_table (z := 12) (off := 187) (tgt := 212) hx hb dL_does_25 c_130 (by decide) (by decide) (by decide) rfl (by decide) ?_
        refine lv_aload_n hx hb dL_does_212 rfl (lv_at hl 3 rfl) ?_
        refine jv_iconst hx hb dL_does_213 ?_
        refine lv_iload_n hx hb dL_does_214 rfl (lv_at hl 4 rfl) ?_
        refine jv_iconst hx hb dL_does_215 ?_
        refine jv_ishr hx hb dL_does_216 ?_
        refine jv_iconst hx hb dL_does_217 ?_
        refine jv_iand hx hb dL_does_218 ?_
        have ha_199 := an_bd (sh v 4) (y := 1) (by decide) (by decide)
        refine jv_iadd hx hb dL_does_219 ?_
        refine kV ⟨hx, hb, hml, hown, hts⟩ hK hA hS hP hD [.int (jz (3 + (an (sh v 4) 1)))] [] (mX8_setAlphabet_k l G x st sv bu di se wy ta tt rp t0 t1 al a0 n0 g0 a1 n1 g1 sa od sz f ph kp (3 + (an (sh v 4) 1)) (by omega) (by omega) (by omega) (by omega) (by omega) (by omega) (by exact hf) (by exact lt3_4 hg0) (by exact lt3_4 hg1) (by omega) (by exact ⟨by omega, fun j q1 q2 => by have := hg0 j q1 q2; omega, fun j q1 q2 => by have := hg1 j q1 q2; omega⟩)) lkL_43 [3, 4, 5, 6, 2, 7] [0, 1] (br := [bGrid G di db dh, bTab G ta tm bs hi mi si F]) rfl rfl (by decide) 0 8 rfl rfl rfl rfl (Nat.le_of_ble_eq_true rfl) hl.1 dL_does_220 ⟨Nat.le_of_ble_eq_true rfl, Nat.le_of_ble_eq_true rfl⟩ ⟨Nat.le_of_ble_eq_true rfl, Nat.le_of_ble_eq_true rfl⟩ (fun u9 H locs hp9 hP hD hS => ?_)
        obtain ⟨u_200, u_201, u_202, u_203, u_204⟩ := u9
        have ha_205 : (sz < 6 → u_200 = od ∧ u_201 = sz + 1) ∧ (sz = 6 → u_200 = (od + 1) % 6 ∧ u_201 = 6) := hp9.1
        have hb_206 : (u_204 = kp ∨ u_204 = kp + 1) ∧ (u_204 : Int) ≤ 6 ∧ u_201 ≤ u_204 ∧ (u_200 = 0 ∨ u_204 = 6) := hp9.2.1
        have hf_207 : ∀ z8 : Int, 0 ≤ z8 → z8 < 6 → u_202 z8 = if z8 < u_204 then some (u_203 z8.toNat).1.1 else none := hp9.2.2.1
        have hp_208 : ∀ i : Nat, (i : Int) ≠ (u_200 + (u_201 - 1)) % 6 → i < kp → u_203 i = ph i := hp9.2.2.2.1
        have hq_209 : (u_203 ((u_200 + (u_201 - 1)) % 6).toNat).2.1 = (al, n0, n1) := hp9.2.2.2.2.1
        have hr_210 : ∀ j : Int, 0 ≤ j → j < n0 → (u_203 ((u_200 + (u_201 - 1)) % 6).toNat).2.2.1 j = g0 j := hp9.2.2.2.2.2.1
        have hs_211 : ∀ j : Int, 0 ≤ j → j < n1 → (u_203 ((u_200 + (u_201 - 1)) % 6).toNat).2.2.2 j = g1 j := hp9.2.2.2.2.2.2
        have hP : wP G [bGrid G di db dh, bTab G ta tm bs hi mi si F, bBD G x st sv bu di se wy ta tt rp, bState G st t0 t1 (3 + (an (sh v 4) 1)), bText G t0 a0 n0 g0, bText G t1 a1 n1 g1, bSaved G sv sa u_200 u_201 u_202, bPool G u_203 u_204] H := hP
        have hD : wD A [bGrid G di db dh, bTab G ta tm bs hi mi si F, bBD G x st sv bu di se wy ta tt rp, bState G st t0 t1 (3 + (an (sh v 4) 1)), bText G t0 a0 n0 g0, bText G t1 a1 n1 g1, bSaved G sv sa u_200 u_201 u_202, bPool G u_203 u_204] := hD
        show W p l e rmL_does s m args below meth c H locs 5 47 Q (F0 m 223 ls [.int (jz al)])
        have hpv := sv_save hSV.1 ha_205 hb_206 hf_207 hp_208 hq_209 hr_210 hs_211
        have hpd := SV_save hSV hpv hal hn0 hn1 hg0 hg1
        exact cret_i hx hb hr hlocks hS hP hD (Nat.le_of_ble_eq_true rfl) (Nat.le_of_ble_eq_true rfl) rfl dL_does_223 [2, 3, 4, 5, 0, 1, 6, 7] (by decide) ⟨t0, t1, 3 + (an (sh v 4) 1), a0, n0, g0, a1, n1, g1, dh, bs, hi, mi, si, F, M, u_200, u_201, u_202, u_203, u_204, al⟩ rfl ⟨(show (0 ≤ al ∧ al ≤ 100) ∧ (3 ≤ (3 + (an (sh v 4) 1)) ∧ (3 + (an (sh v 4) 1)) ≤ 4) ∧ (0 ≤ n0 ∧ n0 ≤ 20) ∧ (0 ≤ n1 ∧ n1 ≤ 20) from by omega), (show ∀ j : Int, 0 ≤ j → j < n0 → 0 ≤ g0 j ∧ g0 j < 3 from by exact hg0), (show ∀ j : Int, 0 ≤ j → j < n1 → 0 ≤ g1 j ∧ g1 j < 3 from by exact hg1), (show SV u_200 u_201 u_202 u_203 u_204 from by exact hpd), (show bs = if an v 15 = 10 ∧ an (sh v 5) 3 = 0 then 1 + an (sh v 7) 1 else bs from by rw [if_neg (by omega)]), (show rM F M from by exact hM), (show (-(B + 2000) ≤ hi ∧ hi ≤ B + 2000) ∧ (-(B + 2000) ≤ mi ∧ mi ≤ B + 2000) ∧ (-(B + 2000) ≤ si ∧ si ≤ B + 2000) from by omega)⟩ (congrArg (fun z : Int => some (Value.int (jz z))) (show al = al from by first | rfl | omega | (split <;> first | rfl | omega | (exfalso; omega)))) hQ
      · refine jv_tabOut (tgt := 224) hx hb dL_does_25 (by omega) c_130 (by decide) ?_
        refine lv_aload_n hx hb dL_does_224 rfl (lv_at hl 3 rfl) ?_
        refine kV ⟨hx, hb, hml, hown, hts⟩ hK hA hS hP hD [] [] (mX8_measure l G x st sv bu di se wy ta tt rp t0 t1 al a0 n0 g0 a1 n1 g1 db dh ta tm bs hi mi si F M (by omega) (by omega) (by exact lt3_4 hg0) (by exact lt3_4 hg1) (by omega) (by exact hM)) lkL_46 [3, 4, 5, 6, 0, 1] [2, 7] (br := [bSaved G sv sa od sz f, bPool G ph kp]) rfl rfl (by decide) 0 8 rfl rfl rfl rfl (Nat.le_of_ble_eq_true rfl) hl.1 dL_does_225 ⟨Nat.le_of_ble_eq_true rfl, Nat.le_of_ble_eq_true rfl⟩ ⟨Nat.le_of_ble_eq_true rfl, Nat.le_of_ble_eq_true rfl⟩ (fun u9 H locs hp9 hP hD hS => ?_)
        obtain ⟨u_212, u_213, u_214, u_215, u_216, u_217⟩ := u9
        have hc_218 : (u_217, u_213, u_214, u_215) = tGo bs g0 g1 n0 n1 (M, hi, mi, si) := hp9.1
        have hd_219 : rM u_216 u_217 := hp9.2
        have hP : wP G [bSaved G sv sa od sz f, bPool G ph kp, bBD G x st sv bu di se wy ta tt rp, bState G st t0 t1 al, bText G t0 a0 n0 g0, bText G t1 a1 n1 g1, bGrid G di db u_212, bTab G ta tm bs u_213 u_214 u_215 u_216] H := hP
        have hD : wD A [bSaved G sv sa od sz f, bPool G ph kp, bBD G x st sv bu di se wy ta tt rp, bState G st t0 t1 al, bText G t0 a0 n0 g0, bText G t1 a1 n1 g1, bGrid G di db u_212, bTab G ta tm bs u_213 u_214 u_215 u_216] := hD
        have hP : wP G [bSaved G sv sa od sz f, bBD G x st sv bu di se wy ta tt rp, bState G st t0 t1 al, bText G t0 a0 n0 g0, bText G t1 a1 n1 g1, bGrid G di db u_212, bTab G ta tm bs u_213 u_214 u_215 u_216, bPool G ph kp] H := wP_sub hP [0, 2, 3, 4, 5, 6, 7, 1] rfl
        have hD : wD A [bSaved G sv sa od sz f, bBD G x st sv bu di se wy ta tt rp, bState G st t0 t1 al, bText G t0 a0 n0 g0, bText G t1 a1 n1 g1, bGrid G di db u_212, bTab G ta tm bs u_213 u_214 u_215 u_216, bPool G ph kp] := wD_sub hD [0, 2, 3, 4, 5, 6, 7, 1] (by decide) rfl
        show W p l e rmL_does s m args below meth c H locs 0 0 Q (F0 m 228 ls [.int (jz (D 1 g0 g1 n0 n1))])
        have hc1 := hc_218
        have hd1 := hd_219
        obtain ⟨q1a, q1b, q1c, q1d⟩ := tri_eq hc1
        have hcn1 := tGo_cnt (t := bs) g0 g1 hbs hn0 hn1 (M, hi, mi, si)
        rw [← q1b, ← q1c, ← q1d] at hcn1
        have hcn1 : u_213 + u_214 = hi + mi + whB bs n0 n1 ∧ u_215 = si + n0 * n1 - whB bs n0 n1 * bs * bs ∧ mi ≤ u_214 ∧ u_214 ≤ mi + 400 := hcn1
        exact cret_i hx hb hr hlocks hS hP hD (Nat.le_of_ble_eq_true rfl) (Nat.le_of_ble_eq_true rfl) rfl dL_does_228 [1, 2, 3, 4, 5, 6, 0, 7] (by decide) ⟨t0, t1, al, a0, n0, g0, a1, n1, g1, u_212, bs, u_213, u_214, u_215, u_216, u_217, od, sz, f, ph, kp, D 1 g0 g1 n0 n1⟩ rfl ⟨(show (0 ≤ (D 1 g0 g1 n0 n1) ∧ (D 1 g0 g1 n0 n1) ≤ 100) ∧ (3 ≤ al ∧ al ≤ 4) ∧ (0 ≤ n0 ∧ n0 ≤ 20) ∧ (0 ≤ n1 ∧ n1 ≤ 20) from by omega), (show ∀ j : Int, 0 ≤ j → j < n0 → 0 ≤ g0 j ∧ g0 j < 3 from by exact hg0), (show ∀ j : Int, 0 ≤ j → j < n1 → 0 ≤ g1 j ∧ g1 j < 3 from by exact hg1), (show SV od sz f ph kp from by exact hSV), (show bs = if an v 15 = 10 ∧ an (sh v 5) 3 = 0 then 1 + an (sh v 7) 1 else bs from by rw [if_neg (by omega)]), (show rM u_216 u_217 from by exact hd1), (show (-(B + 2000) ≤ u_213 ∧ u_213 ≤ B + 2000) ∧ (-(B + 2000) ≤ u_214 ∧ u_214 ≤ B + 2000) ∧ (-(B + 2000) ≤ u_215 ∧ u_215 ≤ B + 2000) from by omega)⟩ (congrArg (fun z : Int => some (Value.int (jz z))) (show (D 1 g0 g1 n0 n1) = D 1 g0 g1 n0 n1 from by first | rfl | omega | (split <;> first | rfl | omega | (exfalso; omega)))) hQ
  exact KH s.heap [] hP hD hS
