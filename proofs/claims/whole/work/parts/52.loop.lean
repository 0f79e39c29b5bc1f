/-! the law: where it begins, its cases by number, its loop -/
theorem RT_0 : RT 4 0 0 (fun _ => 0) (fun _ => 0) (up (fun _ => 0) 2 4) := ⟨⟨(u9eq _ _ _).symm, (u9ne (f := fun _ => 0) (k := 2) (v := 4) (q := 0) (by decide)).symm, (u9ne (f := fun _ => 0) (k := 2) (v := 4) (q := 1) (by decide)).symm⟩, ⟨by omega, by omega⟩, ⟨by omega, by omega⟩, ⟨by omega, by omega⟩, fun j h1 h2 => absurd h2 (by omega), fun j h1 h2 => absurd h2 (by omega), fun j h1 h2 => absurd h2 (by omega), fun j h1 h2 => absurd h2 (by omega)⟩
theorem RS_0 (ph : Nat → SG) : RS 0 0 (fun _ => none) ph 0 0 (fun _ => 0) := ⟨rfl, ⟨by omega, by omega⟩, ⟨by omega, by omega⟩, ⟨by omega, by omega⟩, Or.inl rfl, fun z h1 h2 => by rw [if_neg (by omega)], fun t h1 h2 => absurd h2 (by omega)⟩
theorem RK_0 : RK 2 0 0 0 (fun _ => 0) 2 0 0 0 0 (fun _ => 0) (fun _ => 0) (fun _ => false) 0 := ⟨⟨rfl, rfl, rfl, rfl⟩, Or.inr rfl, ⟨by omega, by omega⟩, rM_0 (fun w _ _ => rfl), fun k q1 q2 => ⟨Or.inl rfl, fun q => absurd (show (0 : Int) = 1 from q) (by decide), fun q => absurd (show false = true from q) (by decide)⟩, fun k q1 q2 => ⟨Int.le_refl 0, Int.le_refl 0⟩⟩
theorem INV_le {G : GG} {x y o : Nat} {t : Int} {bs9 : List va_W} (h9 : INV G x y o t bs9) : INV G x y o (t + 1) bs9 := by
  refine INV_elim h9 ?_
  intro st sv bu di se wy ta tt rp t0 t1 al a0 n0 g0 a1 n1 g1 sa od sz f ph kp bv k cb db dh sb sh wv wk wh tm bs hi mi si F tn bs2 hi2 mi2 si2 F9 q q2 ct ot b h b2 h2 ca cn cg oa on og xs xb xm xf xu xg xw kn bl ft vh vm vs ln th sp pl wr br aS aB aM aO aU aG aW fo M hw hRT hRS hRB hRK
  exact ⟨st, sv, bu, di, se, wy, ta, tt, rp, t0, t1, al, a0, n0, g0, a1, n1, g1, sa, od, sz, f, ph, kp, bv, k, cb, db, dh, sb, sh, wv, wk, wh, tm, bs, hi, mi, si, F, tn, bs2, hi2, mi2, si2, F9, q, q2, ct, ot, b, h, b2, h2, ca, cn, cg, oa, on, og, xs, xb, xm, xf, xu, xg, xw, kn, bl, ft, vh, vm, vs, ln, th, sp, pl, wr, br, aS, aB, aM, aO, aU, aG, aW, fo, M, hw, hRT, hRS, hRB, RK_le hRK (by omega)⟩
theorem law_dflt : LawC 1512 := by
  intro p l e s m below meth c ba L xs9 A G x y o Q cells slots i9 t bs9 H locs ls hl0 hF hc9 hs9 hi9 ht9 hI hP hD hS hl kk
  refine W.widen (k := cells + 8) (n := slots + 64) (Nat.le_add_right _ _) (Nat.le_add_right _ _) ?_
  exact kk bs9 H locs ls (INV_le hI) hP hD hS hl
theorem law_tab : ∀ k : Nat, k < 33 → ∃ (off : Int) (tgt : Nat), (#[145, 189, 269, 337, 417, 430, 486, 542, 610, 623, 691, 704, 760, 816, 872, 928, 969, 1025, 1038, 1051, 1064, 1077, 1145, 1158, 1171, 1251, 1307, 1320, 1376, 1389, 1402, 1446, 1459] : Array Int)[k]? = some off ∧ (39 : Int) + off = tgt ∧ LawC tgt := by
  intro k hk
  match k, hk with
  | 0, _ => exact ⟨145, 184, rfl, by decide, LawC_of law_load⟩
  | 1, _ => exact ⟨189, 228, rfl, by decide, LawC_of law_insert⟩
  | 2, _ => exact ⟨269, 308, rfl, by decide, LawC_of law_remove⟩
  | 3, _ => exact ⟨337, 376, rfl, by decide, LawC_of law_replace⟩
  | 4, _ => exact ⟨417, 456, rfl, by decide, LawC_of law_exchange⟩
  | 5, _ => exact ⟨430, 469, rfl, by decide, LawC_of law_setAlphabet⟩
  | 6, _ => exact ⟨486, 525, rfl, by decide, LawC_of law_length⟩
  | 7, _ => exact ⟨542, 581, rfl, by decide, LawC_of law_letter⟩
  | 8, _ => exact ⟨610, 649, rfl, by decide, LawC_of law_distance⟩
  | 9, _ => exact ⟨623, 662, rfl, by decide, LawC_of law_prefix⟩
  | 10, _ => exact ⟨691, 730, rfl, by decide, LawC_of law_steps⟩
  | 11, _ => exact ⟨704, 743, rfl, by decide, LawC_of law_step⟩
  | 12, _ => exact ⟨760, 799, rfl, by decide, LawC_of law_count⟩
  | 13, _ => exact ⟨816, 855, rfl, by decide, LawC_of law_within⟩
  | 14, _ => exact ⟨872, 911, rfl, by decide, LawC_of law_band⟩
  | 15, _ => exact ⟨928, 967, rfl, by decide, LawC_of law_similarity⟩
  | 16, _ => exact ⟨969, 1008, rfl, by decide, LawC_of law_setBlock⟩
  | 17, _ => exact ⟨1025, 1064, rfl, by decide, LawC_of law_measure⟩
  | 18, _ => exact ⟨1038, 1077, rfl, by decide, LawC_of law_hits⟩
  | 19, _ => exact ⟨1051, 1090, rfl, by decide, LawC_of law_misses⟩
  | 20, _ => exact ⟨1064, 1103, rfl, by decide, LawC_of law_singleSteps⟩
  | 21, _ => exact ⟨1077, 1116, rfl, by decide, LawC_of law_across⟩
  | 22, _ => exact ⟨1145, 1184, rfl, by decide, LawC_of law_foundDistance⟩
  | 23, _ => exact ⟨1158, 1197, rfl, by decide, LawC_of law_foundEnd⟩
  | 24, _ => exact ⟨1171, 1210, rfl, by decide, LawC_of law_ifReplaced⟩
  | 25, _ => exact ⟨1251, 1290, rfl, by decide, LawC_of law_bestReplacement⟩
  | 26, _ => exact ⟨1307, 1346, rfl, by decide, LawC_of law_missesToCome⟩
  | 27, _ => exact ⟨1320, 1359, rfl, by decide, LawC_of law_append⟩
  | 28, _ => exact ⟨1376, 1415, rfl, by decide, LawC_of law_clearBuffer⟩
  | 29, _ => exact ⟨1389, 1428, rfl, by decide, LawC_of law_firstError⟩
  | 30, _ => exact ⟨1402, 1441, rfl, by decide, LawC_of law_undo⟩
  | 31, _ => exact ⟨1446, 1485, rfl, by decide, LawC_of law_savedStates⟩
  | 32, _ => exact ⟨1459, 1498, rfl, by decide, LawC_of law_digest⟩
  | n + 33, h => exact absurd h (by omega)
set_option maxHeartbeats 4000000 in
set_option maxRecDepth 100000 in
theorem law_init {p : Program} {l : Launch} {e : Env} {s : State} {m : MethodId} {args : Array Value} {below : List Frame} {meth : Method} {c : Code} {A : Nat → Prop} {G : GG} {Q : State → Prop} {ba : Nat} (hx : p.tables.exec = Jvm.exec) (hb : c.code = cL_law) (hml : c.maxLocals = 9) (hown : s.vm.findClass RL = some m.cls) (hts : ∀ w ∈ WA, w.before args s = true) (hA : ∀ q : Nat, s.heap.size ≤ q → A q) (hK : KK G s)
    (kk : ∀ (x y o : Nat) (bs9 : List va_W) (H : Heap) (locs : List Loc) (ls : Array Slot), INV G x y o 0 bs9 → wP G bs9 H → wD A bs9 → va_S A s.heap H locs → lv_has ls 9 [(4, .int (jz 0)), (3, .ref o), (2, .ref y), (1, .ref x), (0, .ref ba)] → W p l e room_1 s m args below meth c H locs 38 44977 Q (F0 m 23 ls [])) :
    ∀ (H : Heap) (locs : List Loc) (ls : Array Slot), wP G [] H → wD A [] → va_S A s.heap H locs → lv_has ls 9 [(0, .ref ba)] → W p l e room_1 s m args below meth c H locs 0 0 Q (F0 m 0 ls []) := by
  intro H locs ls hP hD hS hl
  refine va_new (ci := 8) (fs := [.null, .null, .null, .null, .null, .null, .null, .null, .null]) (C := RX8) (T := TX8) (N := 9) hx hb hts wfX8 tyX8 tyX8_ok hown (hts _ wm47) (hts _ wm48) (hts _ wm29) hK.1 hP hD hS hA rfl (fun j hj => by rcases (show j = 0 ∨ j = 1 ∨ j = 2 ∨ j = 3 ∨ j = 4 ∨ j = 5 ∨ j = 6 ∨ j = 7 ∨ j = 8 by omega) with rfl | rfl | rfl | rfl | rfl | rfl | rfl | rfl | rfl <;> rfl) (Nat.le_of_ble_eq_true rfl) (Nat.le_of_ble_eq_true rfl) dL_law_0 (fun q_1 H hP hD hS => ?_)
  have hP : wP G [[(q_1, .inr (8, [.null, .null, .null, .null, .null, .null, .null, .null, .null]))]] H := hP
  have hD : wD A [[(q_1, .inr (8, [.null, .null, .null, .null, .null, .null, .null, .null, .null]))]] := hD
  show W p l e room_1 s m args below meth c H locs 1 9 Q (F0 m 3 ls [.ref q_1])
  refine lv_dup hx hb dL_law_3 rfl ?_
  refine kI ⟨hx, hb, hml, hown, hts⟩ hK hA hS hP hD [] [.ref q_1] (mX8_init l G q_1 ) lkL_73 [0] [] (br := []) rfl rfl (by decide) rfl rfl (Nat.le_of_ble_eq_true rfl) hl.1 dL_law_4 ⟨Nat.le_of_ble_eq_true rfl, Nat.le_of_ble_eq_true rfl⟩ ⟨Nat.le_of_ble_eq_true rfl, Nat.le_of_ble_eq_true rfl⟩ (fun u9 H locs hp9 hP hD hS => ?_)
  obtain ⟨u_2, u_3, u_4, u_5, u_6, u_7, u_8, u_9, u_10, u_11, u_12, u_13, u_14, u_15, u_16, u_17, u_18, u_19, u_20, u_21, u_22, u_23, u_24, u_25, u_26, u_27, u_28, u_29⟩ := u9
  have hP : wP G [bBD G q_1 u_2 u_3 u_4 u_5 u_6 u_7 u_8 u_9 u_10, bState G u_2 u_11 u_13 4, bText G u_11 u_12 0 (fun _ => 0), bText G u_13 u_14 0 (fun _ => 0), bSaved G u_3 u_15 0 0 (fun _ => none), bBuf G u_4 u_16 0 (fun _ => 0), bGrid G u_5 u_17 (fun _ => 0), bGrid G u_6 u_18 (fun _ => 0), bWay G u_7 u_19 0 (fun _ => 0), bTab G u_8 u_20 2 0 0 0 (fun _ => 0), bTab G u_9 u_21 2 0 0 0 (fun _ => 0), bRep G u_10 u_22 u_24 u_26 u_28, bGrid G u_22 u_23 (fun _ => 0), bGrid G u_24 u_25 (fun _ => 0), bText G u_26 u_27 0 (fun _ => 0), bText G u_28 u_29 0 (fun _ => 0)] H := hP
  have hD : wD A [bBD G q_1 u_2 u_3 u_4 u_5 u_6 u_7 u_8 u_9 u_10, bState G u_2 u_11 u_13 4, bText G u_11 u_12 0 (fun _ => 0), bText G u_13 u_14 0 (fun _ => 0), bSaved G u_3 u_15 0 0 (fun _ => none), bBuf G u_4 u_16 0 (fun _ => 0), bGrid G u_5 u_17 (fun _ => 0), bGrid G u_6 u_18 (fun _ => 0), bWay G u_7 u_19 0 (fun _ => 0), bTab G u_8 u_20 2 0 0 0 (fun _ => 0), bTab G u_9 u_21 2 0 0 0 (fun _ => 0), bRep G u_10 u_22 u_24 u_26 u_28, bGrid G u_22 u_23 (fun _ => 0), bGrid G u_24 u_25 (fun _ => 0), bText G u_26 u_27 0 (fun _ => 0), bText G u_28 u_29 0 (fun _ => 0)] := hD
  show W p l e room_1 s m args below meth c H locs 29 2643 Q (F0 m 7 ls [.ref q_1])
  refine lv_astore_n (lv' := [(1, .ref q_1), (0, .ref ba)]) hx hb dL_law_7 rfl hl (by decide) rfl (fun ls hl => ?_)
  refine va_new (ci := 9) (fs := [.null, .null, .int (jz 0), .int (jz 0), .null, .null, .int (jz 0), .int (jz 0), .int (jz 0), .int (jz 0), .null, .int (jz 0), .int (jz 0), .null, .null, .int (jz 0), .int (jz 0), .int (jz 0), .int (jz 0)]) (C := RX9) (T := TX9) (N := 19) hx hb hts wfX9 tyX9 tyX9_ok hown (hts _ wm804) (hts _ wm805) (hts _ wm38) hK.1 hP hD hS hA rfl (fun j hj => by rcases (show j = 0 ∨ j = 1 ∨ j = 2 ∨ j = 3 ∨ j = 4 ∨ j = 5 ∨ j = 6 ∨ j = 7 ∨ j = 8 ∨ j = 9 ∨ j = 10 ∨ j = 11 ∨ j = 12 ∨ j = 13 ∨ j = 14 ∨ j = 15 ∨ j = 16 ∨ j = 17 ∨ j = 18 by omega) with rfl | rfl | rfl | rfl | rfl | rfl | rfl | rfl | rfl | rfl | rfl | rfl | rfl | rfl | rfl | rfl | rfl | rfl | rfl <;> rfl) (Nat.le_of_ble_eq_true rfl) (Nat.le_of_ble_eq_true rfl) dL_law_8 (fun q_30 H hP hD hS => ?_)
  have hP : wP G [bBD G q_1 u_2 u_3 u_4 u_5 u_6 u_7 u_8 u_9 u_10, bState G u_2 u_11 u_13 4, bText G u_11 u_12 0 (fun _ => 0), bText G u_13 u_14 0 (fun _ => 0), bSaved G u_3 u_15 0 0 (fun _ => none), bBuf G u_4 u_16 0 (fun _ => 0), bGrid G u_5 u_17 (fun _ => 0), bGrid G u_6 u_18 (fun _ => 0), bWay G u_7 u_19 0 (fun _ => 0), bTab G u_8 u_20 2 0 0 0 (fun _ => 0), bTab G u_9 u_21 2 0 0 0 (fun _ => 0), bRep G u_10 u_22 u_24 u_26 u_28, bGrid G u_22 u_23 (fun _ => 0), bGrid G u_24 u_25 (fun _ => 0), bText G u_26 u_27 0 (fun _ => 0), bText G u_28 u_29 0 (fun _ => 0), [(q_30, .inr (9, [.null, .null, .int (jz 0), .int (jz 0), .null, .null, .int (jz 0), .int (jz 0), .int (jz 0), .int (jz 0), .null, .int (jz 0), .int (jz 0), .null, .null, .int (jz 0), .int (jz 0), .int (jz 0), .int (jz 0)]))]] H := hP
  have hD : wD A [bBD G q_1 u_2 u_3 u_4 u_5 u_6 u_7 u_8 u_9 u_10, bState G u_2 u_11 u_13 4, bText G u_11 u_12 0 (fun _ => 0), bText G u_13 u_14 0 (fun _ => 0), bSaved G u_3 u_15 0 0 (fun _ => none), bBuf G u_4 u_16 0 (fun _ => 0), bGrid G u_5 u_17 (fun _ => 0), bGrid G u_6 u_18 (fun _ => 0), bWay G u_7 u_19 0 (fun _ => 0), bTab G u_8 u_20 2 0 0 0 (fun _ => 0), bTab G u_9 u_21 2 0 0 0 (fun _ => 0), bRep G u_10 u_22 u_24 u_26 u_28, bGrid G u_22 u_23 (fun _ => 0), bGrid G u_24 u_25 (fun _ => 0), bText G u_26 u_27 0 (fun _ => 0), bText G u_28 u_29 0 (fun _ => 0), [(q_30, .inr (9, [.null, .null, .int (jz 0), .int (jz 0), .null, .null, .int (jz 0), .int (jz 0), .int (jz 0), .int (jz 0), .null, .int (jz 0), .int (jz 0), .null, .null, .int (jz 0), .int (jz 0), .int (jz 0), .int (jz 0)]))]] := hD
  show W p l e room_1 s m args below meth c H locs 30 2662 Q (F0 m 11 ls [.ref q_30])
  refine lv_dup hx hb dL_law_11 rfl ?_
  refine kI ⟨hx, hb, hml, hown, hts⟩ hK hA hS hP hD [] [.ref q_30] (mX9_init l G q_30 ) lkL_76 [16] [0, 1, 2, 3, 4, 5, 6, 7, 8, 9, 10, 11, 12, 13, 14, 15] (br := [bBD G q_1 u_2 u_3 u_4 u_5 u_6 u_7 u_8 u_9 u_10, bState G u_2 u_11 u_13 4, bText G u_11 u_12 0 (fun _ => 0), bText G u_13 u_14 0 (fun _ => 0), bSaved G u_3 u_15 0 0 (fun _ => none), bBuf G u_4 u_16 0 (fun _ => 0), bGrid G u_5 u_17 (fun _ => 0), bGrid G u_6 u_18 (fun _ => 0), bWay G u_7 u_19 0 (fun _ => 0), bTab G u_8 u_20 2 0 0 0 (fun _ => 0), bTab G u_9 u_21 2 0 0 0 (fun _ => 0), bRep G u_10 u_22 u_24 u_26 u_28, bGrid G u_22 u_23 (fun _ => 0), bGrid G u_24 u_25 (fun _ => 0), bText G u_26 u_27 0 (fun _ => 0), bText G u_28 u_29 0 (fun _ => 0)]) rfl rfl (by decide) rfl rfl (Nat.le_of_ble_eq_true rfl) hl.1 dL_law_12 ⟨Nat.le_of_ble_eq_true rfl, Nat.le_of_ble_eq_true rfl⟩ ⟨Nat.le_of_ble_eq_true rfl, Nat.le_of_ble_eq_true rfl⟩ (fun u9 H locs hp9 hP hD hS => ?_)
  obtain ⟨u_31, u_32, u_33, u_34, u_35, u_36, u_37⟩ := u9
  have hP : wP G [bBD G q_1 u_2 u_3 u_4 u_5 u_6 u_7 u_8 u_9 u_10, bState G u_2 u_11 u_13 4, bText G u_11 u_12 0 (fun _ => 0), bText G u_13 u_14 0 (fun _ => 0), bSaved G u_3 u_15 0 0 (fun _ => none), bBuf G u_4 u_16 0 (fun _ => 0), bGrid G u_5 u_17 (fun _ => 0), bGrid G u_6 u_18 (fun _ => 0), bWay G u_7 u_19 0 (fun _ => 0), bTab G u_8 u_20 2 0 0 0 (fun _ => 0), bTab G u_9 u_21 2 0 0 0 (fun _ => 0), bRep G u_10 u_22 u_24 u_26 u_28, bGrid G u_22 u_23 (fun _ => 0), bGrid G u_24 u_25 (fun _ => 0), bText G u_26 u_27 0 (fun _ => 0), bText G u_28 u_29 0 (fun _ => 0), bMod G q_30 u_31 u_32 u_33 u_34 u_35 u_36 u_37 0 2 0 0 0 0 0 0 0 0 0 0 ((up (fun _ => 0) 2 4)) ((fun _ => 0)) ((fun _ => 0)) ((fun _ => 0)) ((fun _ => 0)) ((fun _ => 0)) ((fun _ => 0))] H := hP
  have hD : wD A [bBD G q_1 u_2 u_3 u_4 u_5 u_6 u_7 u_8 u_9 u_10, bState G u_2 u_11 u_13 4, bText G u_11 u_12 0 (fun _ => 0), bText G u_13 u_14 0 (fun _ => 0), bSaved G u_3 u_15 0 0 (fun _ => none), bBuf G u_4 u_16 0 (fun _ => 0), bGrid G u_5 u_17 (fun _ => 0), bGrid G u_6 u_18 (fun _ => 0), bWay G u_7 u_19 0 (fun _ => 0), bTab G u_8 u_20 2 0 0 0 (fun _ => 0), bTab G u_9 u_21 2 0 0 0 (fun _ => 0), bRep G u_10 u_22 u_24 u_26 u_28, bGrid G u_22 u_23 (fun _ => 0), bGrid G u_24 u_25 (fun _ => 0), bText G u_26 u_27 0 (fun _ => 0), bText G u_28 u_29 0 (fun _ => 0), bMod G q_30 u_31 u_32 u_33 u_34 u_35 u_36 u_37 0 2 0 0 0 0 0 0 0 0 0 0 ((up (fun _ => 0) 2 4)) ((fun _ => 0)) ((fun _ => 0)) ((fun _ => 0)) ((fun _ => 0)) ((fun _ => 0)) ((fun _ => 0))] := hD
  show W p l e room_1 s m args below meth c H locs 37 44976 Q (F0 m 15 ls [.ref q_30])
  refine lv_astore_n (lv' := [(2, .ref q_30), (1, .ref q_1), (0, .ref ba)]) hx hb dL_law_15 rfl hl (by decide) rfl (fun ls hl => ?_)
  refine jv_iconst hx hb dL_law_16 ?_
  refine jv_newl hx hb hts hK.1 hP hD hS hA 1 rfl (by decide) (Nat.le_of_ble_eq_true rfl) (Nat.le_of_ble_eq_true rfl) wm161 dL_law_17 (fun q_38 H hP hD hS => ?_)
  have hP : wP G [bBD G q_1 u_2 u_3 u_4 u_5 u_6 u_7 u_8 u_9 u_10, bState G u_2 u_11 u_13 4, bText G u_11 u_12 0 (fun _ => 0), bText G u_13 u_14 0 (fun _ => 0), bSaved G u_3 u_15 0 0 (fun _ => none), bBuf G u_4 u_16 0 (fun _ => 0), bGrid G u_5 u_17 (fun _ => 0), bGrid G u_6 u_18 (fun _ => 0), bWay G u_7 u_19 0 (fun _ => 0), bTab G u_8 u_20 2 0 0 0 (fun _ => 0), bTab G u_9 u_21 2 0 0 0 (fun _ => 0), bRep G u_10 u_22 u_24 u_26 u_28, bGrid G u_22 u_23 (fun _ => 0), bGrid G u_24 u_25 (fun _ => 0), bText G u_26 u_27 0 (fun _ => 0), bText G u_28 u_29 0 (fun _ => 0), bMod G q_30 u_31 u_32 u_33 u_34 u_35 u_36 u_37 0 2 0 0 0 0 0 0 0 0 0 0 ((up (fun _ => 0) 2 4)) ((fun _ => 0)) ((fun _ => 0)) ((fun _ => 0)) ((fun _ => 0)) ((fun _ => 0)) ((fun _ => 0)), [(q_38, jl G 1 ((fun _ => 0)))]] H := hP
  have hD : wD A [bBD G q_1 u_2 u_3 u_4 u_5 u_6 u_7 u_8 u_9 u_10, bState G u_2 u_11 u_13 4, bText G u_11 u_12 0 (fun _ => 0), bText G u_13 u_14 0 (fun _ => 0), bSaved G u_3 u_15 0 0 (fun _ => none), bBuf G u_4 u_16 0 (fun _ => 0), bGrid G u_5 u_17 (fun _ => 0), bGrid G u_6 u_18 (fun _ => 0), bWay G u_7 u_19 0 (fun _ => 0), bTab G u_8 u_20 2 0 0 0 (fun _ => 0), bTab G u_9 u_21 2 0 0 0 (fun _ => 0), bRep G u_10 u_22 u_24 u_26 u_28, bGrid G u_22 u_23 (fun _ => 0), bGrid G u_24 u_25 (fun _ => 0), bText G u_26 u_27 0 (fun _ => 0), bText G u_28 u_29 0 (fun _ => 0), bMod G q_30 u_31 u_32 u_33 u_34 u_35 u_36 u_37 0 2 0 0 0 0 0 0 0 0 0 0 ((up (fun _ => 0) 2 4)) ((fun _ => 0)) ((fun _ => 0)) ((fun _ => 0)) ((fun _ => 0)) ((fun _ => 0)) ((fun _ => 0)), [(q_38, jl G 1 ((fun _ => 0)))]] := hD
  show W p l e room_1 s m args below meth c H locs 38 44977 Q (F0 m 19 ls [.ref q_38])
  refine lv_astore_n (lv' := [(3, .ref q_38), (2, .ref q_30), (1, .ref q_1), (0, .ref ba)]) hx hb dL_law_19 rfl hl (by decide) rfl (fun ls hl => ?_)
  refine jv_iconst hx hb dL_law_20 ?_
  refine lv_istore (lv' := [(4, .int (jz 0)), (3, .ref q_38), (2, .ref q_30), (1, .ref q_1), (0, .ref ba)]) hx hb dL_law_21 hl (by decide) rfl (fun ls hl => ?_)
  have hP : wP G [bBD G q_1 u_2 u_3 u_4 u_5 u_6 u_7 u_8 u_9 u_10, bState G u_2 u_11 u_13 4, bText G u_11 u_12 0 (fun _ => 0), bText G u_13 u_14 0 (fun _ => 0), bSaved G u_3 u_15 0 0 (fun _ => none), bBuf G u_4 u_16 0 (fun _ => 0), bGrid G u_5 u_17 (fun _ => 0), bGrid G u_6 u_18 (fun _ => 0), bWay G u_7 u_19 0 (fun _ => 0), bTab G u_8 u_20 2 0 0 0 (fun _ => 0), bTab G u_9 u_21 2 0 0 0 (fun _ => 0), bRep G u_10 u_22 u_24 u_26 u_28, bGrid G u_22 u_23 (fun _ => 0), bGrid G u_24 u_25 (fun _ => 0), bText G u_26 u_27 0 (fun _ => 0), bText G u_28 u_29 0 (fun _ => 0), bMod G q_30 u_31 u_32 u_33 u_34 u_35 u_36 u_37 0 2 0 0 0 0 0 0 0 0 0 0 ((up (fun _ => 0) 2 4)) ((fun _ => 0)) ((fun _ => 0)) ((fun _ => 0)) ((fun _ => 0)) ((fun _ => 0)) ((fun _ => 0)), [(q_38, jl G 1 ((fun _ => 0)))], bPool G ((fun _ => ((0, 0, 0, 0, 0), (0, 0, 0), (fun _ => 0), (fun _ => 0)))) 0] H := hP
  have hD : wD A [bBD G q_1 u_2 u_3 u_4 u_5 u_6 u_7 u_8 u_9 u_10, bState G u_2 u_11 u_13 4, bText G u_11 u_12 0 (fun _ => 0), bText G u_13 u_14 0 (fun _ => 0), bSaved G u_3 u_15 0 0 (fun _ => none), bBuf G u_4 u_16 0 (fun _ => 0), bGrid G u_5 u_17 (fun _ => 0), bGrid G u_6 u_18 (fun _ => 0), bWay G u_7 u_19 0 (fun _ => 0), bTab G u_8 u_20 2 0 0 0 (fun _ => 0), bTab G u_9 u_21 2 0 0 0 (fun _ => 0), bRep G u_10 u_22 u_24 u_26 u_28, bGrid G u_22 u_23 (fun _ => 0), bGrid G u_24 u_25 (fun _ => 0), bText G u_26 u_27 0 (fun _ => 0), bText G u_28 u_29 0 (fun _ => 0), bMod G q_30 u_31 u_32 u_33 u_34 u_35 u_36 u_37 0 2 0 0 0 0 0 0 0 0 0 0 ((up (fun _ => 0) 2 4)) ((fun _ => 0)) ((fun _ => 0)) ((fun _ => 0)) ((fun _ => 0)) ((fun _ => 0)) ((fun _ => 0)), [(q_38, jl G 1 ((fun _ => 0)))], bPool G ((fun _ => ((0, 0, 0, 0, 0), (0, 0, 0), (fun _ => 0), (fun _ => 0)))) 0] := hD
  refine kk q_1 q_30 q_38 [bBD G q_1 u_2 u_3 u_4 u_5 u_6 u_7 u_8 u_9 u_10, bState G u_2 u_11 u_13 4, bText G u_11 u_12 0 (fun _ => 0), bText G u_13 u_14 0 (fun _ => 0), bSaved G u_3 u_15 0 0 (fun _ => none), bBuf G u_4 u_16 0 (fun _ => 0), bGrid G u_5 u_17 (fun _ => 0), bGrid G u_6 u_18 (fun _ => 0), bWay G u_7 u_19 0 (fun _ => 0), bTab G u_8 u_20 2 0 0 0 (fun _ => 0), bTab G u_9 u_21 2 0 0 0 (fun _ => 0), bRep G u_10 u_22 u_24 u_26 u_28, bGrid G u_22 u_23 (fun _ => 0), bGrid G u_24 u_25 (fun _ => 0), bText G u_26 u_27 0 (fun _ => 0), bText G u_28 u_29 0 (fun _ => 0), bMod G q_30 u_31 u_32 u_33 u_34 u_35 u_36 u_37 0 2 0 0 0 0 0 0 0 0 0 0 ((up (fun _ => 0) 2 4)) ((fun _ => 0)) ((fun _ => 0)) ((fun _ => 0)) ((fun _ => 0)) ((fun _ => 0)) ((fun _ => 0)), [(q_38, jl G 1 ((fun _ => 0)))], bPool G ((fun _ => ((0, 0, 0, 0, 0), (0, 0, 0), (fun _ => 0), (fun _ => 0)))) 0] H locs ls ⟨u_2, u_3, u_4, u_5, u_6, u_7, u_8, u_9, u_10, u_11, u_13, 4, u_12, 0, fun _ => 0, u_14, 0, fun _ => 0, u_15, 0, 0, fun _ => none, (fun _ => ((0, 0, 0, 0, 0), (0, 0, 0), (fun _ => 0), (fun _ => 0))), 0, u_16, 0, fun _ => 0, u_17, fun _ => 0, u_18, fun _ => 0, u_19, 0, fun _ => 0, u_20, 2, 0, 0, 0, fun _ => 0, u_21, 2, 0, 0, 0, fun _ => 0, u_22, u_24, u_26, u_28, u_23, fun _ => 0, u_25, fun _ => 0, u_27, 0, fun _ => 0, u_29, 0, fun _ => 0, u_31, u_32, u_33, u_34, u_35, u_36, u_37, 0, 2, 0, 0, 0, 0, 0, 0, 0, 0, 0, 0, (up (fun _ => 0) 2 4), (fun _ => 0), (fun _ => 0), (fun _ => 0), (fun _ => 0), (fun _ => 0), (fun _ => 0), (fun _ => 0), (fun _ => false), rfl, RT_0, RS_0 _, RB_clr _ _, RK_0⟩ (wP_sub hP [0, 1, 2, 3, 4, 5, 6, 7, 8, 9, 10, 11, 12, 13, 14, 15, 16, 17, 18] rfl) (wD_sub hD [0, 1, 2, 3, 4, 5, 6, 7, 8, 9, 10, 11, 12, 13, 14, 15, 16, 17, 18] (by decide) rfl) hS (lv_sub hl [0, 1, 2, 3, 4] rfl)
theorem band63 (x : Int32) : 0 ≤ (x &&& jz 63).toInt ∧ (x &&& jz 63).toInt ≤ 63 := by
  have h : (x &&& jz 63).toBitVec.toNat ≤ 63 := by
    rw [Int32.toBitVec_and, BitVec.toNat_and]
    exact Nat.and_le_right
  have h2 : (x &&& jz 63).toInt = ((x &&& jz 63).toBitVec.toNat : Int) := by
    show (x &&& jz 63).toBitVec.toInt = _
    exact BitVec.toInt_eq_toNat_of_lt (by omega)
  omega
set_option maxHeartbeats 4000000 in
set_option maxRecDepth 100000 in
theorem law_loop {p : Program} {l : Launch} {e : Env} {s : State} {m : MethodId} {below : List Frame} {meth : Method} {c : Code} {ba L : Nat} {xs9 : Nat → Int32} {A : Nat → Prop} {G : GG} {x y o : Nat} {Q : State → Prop} (hl0 : l.stackTraces = false) (hF : LawF p s m meth c ba L xs9 A G)
    (hend : ∀ (H : Heap) (locs : List Loc) (ls : Array Slot), va_S A s.heap H locs → W p l e room_1 s m #[.ref ba] below meth c H locs 601024 7293034 Q (F0 m 1518 ls [])) :
    ∀ (n9 k : Nat) (bs9 : List va_W) (H : Heap) (locs : List Loc) (ls : Array Slot), L + 8 < 4 * k + n9 → 4 * k ≤ L + 3 → INV G x y o (k : Int) bs9 → wP G bs9 H → wD A bs9 → va_S A s.heap H locs → lv_has ls 9 [(4, .int (jz (4 * (k : Int)))), (3, .ref o), (2, .ref y), (1, .ref x), (0, .ref ba)] → W p l e room_1 s m #[.ref ba] below meth c H locs (38 + 8 * k) (44977 + 64 * k) Q (F0 m 23 ls []) := by
  intro n9
  induction n9 with
  | zero => intro k bs9 H locs ls h1 h2; exact absurd h1 (by omega)
  | succ n9 ih =>
    intro k bs9 H locs ls h1 h2 hI hP hD hS hl
    obtain ⟨hx, hb, hml, hown, hts, hA, hK, hX, hXs, hbl, hbA, hLm⟩ := id hF
    refine lv_iload hx hb dL_law_23 (lv_at hl 0 rfl) ?_
    refine lv_aload_n hx hb dL_law_25 rfl (lv_at hl 4 rfl) ?_
    refine va_slen hx hb hXs hbl hbA hS dL_law_26 ?_
    rw [show Int32.ofNat L = jz (L : Int) from jz_nI L]
    refine jv_iconst hx hb dL_law_27 ?_
    refine jv_isub hx hb dL_law_28 ?_
    refine jv_icmp_gt (tgt := 1518) hx hb dL_law_29 (by decide) (by omega) (by omega) (fun c9 => ?_) (fun c9 => ?_)
    · refine W.widen (k := 601024) (n := 7293034) (by omega) (by omega) ?_
      exact hend H locs ls hS
    · obtain ⟨z, hjz, ez⟩ : ∃ z : Int, jr z ∧ jz z = xs9 (jz (4 * (k : Int))).toNatClampNeg := ⟨_, jr_as _, jz_as _⟩
      refine lv_aload_n hx hb dL_law_32 rfl (lv_at hl 4 rfl) ?_
      refine lv_iload hx hb dL_law_33 (lv_at hl 0 rfl) ?_
      refine jv_sld (z := z) hx hb hXs hbl hbA hS (by omega) (by omega) hLm ez dL_law_35 ?_
      refine jv_bipush hx hb dL_law_36 (by decide) ?_
      refine lv_iand hx hb dL_law_38 ?_
      have hw := band63 (jz z)
      have hgo : ∀ tgt : Nat, LawC tgt → W p l e room_1 s m #[.ref ba] below meth c H locs (38 + 8 * k) (44977 + 64 * k) Q (F0 m tgt ls []) := by
        intro tgt hC
        refine hC p l e s m below meth c ba L xs9 A G x y o Q (38 + 8 * k) (44977 + 64 * k) (4 * (k : Int)) (k : Int) bs9 H locs ls hl0 hF (show 38 + 8 * k + 8 ≤ 601024 by omega) (show 44977 + 64 * k + 64 ≤ 7293034 by omega) ⟨by omega, by omega⟩ ⟨by omega, by omega⟩ hI hP hD hS hl ?_
        intro bs9 H locs ls hI hP hD hS hl
        refine jv_iinc (lv' := [(4, .int (jz (4 * (k : Int) + 4))), (3, .ref o), (2, .ref y), (1, .ref x), (0, .ref ba)]) (k := 0) hx hb dL_law_1512 hl rfl (by decide) rfl (fun ls hl => ?_)
        refine lv_goto (tgt := 23) hx hb dL_law_1515 (by decide) ?_
        rw [show (4 * (k : Int) + 4) = 4 * ((k + 1 : Nat) : Int) by omega] at hl
        rw [show 38 + 8 * k + 8 = 38 + 8 * (k + 1) by omega, show 44977 + 64 * k + 64 = 44977 + 64 * (k + 1) by omega]
        rw [show (k : Int) + 1 = ((k + 1 : Nat) : Int) by omega] at hI
        exact ih (k + 1) bs9 H locs ls (by omega) (by omega) hI hP hD hS hl
      by_cases h33 : (jz z &&& jz 63).toInt < 33
      · obtain ⟨off, tgt, q1, q2, q3⟩ := law_tab (jz z &&& jz 63).toInt.toNat (by omega)
        exact lv_tableIn hx hb dL_law_39 (by omega) (by omega) (by rw [Int.sub_zero]; exact q1) q2 (hgo tgt q3)
      · exact lv_tableOut hx hb dL_law_39 (by omega) (tgt := 1512) (by decide) (hgo 1512 law_dflt)
theorem mem_strW : ∀ q ∈ strW, Cond.stringRef RX8 q.1 q.2 ∈ lw_tbl := by decide +kernel
theorem mem_ncW : ∀ q ∈ ncW, Cond.not (.castable q.1 q.2) ∈ flatC (Jvm.Cond.and given_1 narrow_1) := by decide +kernel
theorem kk_start {s : State} {args : Array Value} (hts : ∀ w ∈ lw_tbl, w.before args s = true) (hgv : (Jvm.Cond.and given_1 narrow_1).before args s = true) : ∃ G : GG, KK G s := by
  have hwa : ∀ w ∈ WA, w.before args s = true := fun w h => hts w (wa_tbl h)
  obtain ⟨c0, i0, k0⟩ := u_known (C := RX0) (T := TX0) (N := 5) (n := 5) hwa wfX0 (hwa _ wm140)
  obtain ⟨c1, i1, k1⟩ := u_known (C := RX1) (T := TX1) (N := 1) (n := 1) hwa wfX1 (hwa _ wm117)
  obtain ⟨c2, i2, k2⟩ := u_known (C := RX2) (T := TX2) (N := 2) (n := 2) hwa wfX2 (hwa _ wm104)
  obtain ⟨c3, i3, k3⟩ := u_known (C := RX3) (T := TX3) (N := 4) (n := 4) hwa wfX3 (hwa _ wm163)
  obtain ⟨c4, i4, k4⟩ := u_known (C := RX4) (T := TX4) (N := 3) (n := 3) hwa wfX4 (hwa _ wm86)
  obtain ⟨c5, i5, k5⟩ := u_known (C := RX5) (T := TX5) (N := 3) (n := 3) hwa wfX5 (hwa _ wm56)
  obtain ⟨c6, i6, k6⟩ := u_known (C := RX6) (T := TX6) (N := 2) (n := 2) hwa wfX6 (hwa _ wm62)
  obtain ⟨c7, i7, k7⟩ := u_known (C := RX7) (T := TX7) (N := 2) (n := 2) hwa wfX7 (hwa _ wm127)
  obtain ⟨c8, i8, k8⟩ := u_known (C := RX8) (T := TX8) (N := 9) (n := 9) hwa wfX8 (hwa _ wm48)
  obtain ⟨c9, i9, k9⟩ := u_known (C := RX9) (T := TX9) (N := 19) (n := 19) hwa wfX9 (hwa _ wm805)
  obtain ⟨cI, kI, pI, aI1, aI2, aI3⟩ := Cond.arrayClass_spec (hwa _ wm74)
  obtain ⟨cL, kL, pL, aL1, aL2, aL3⟩ := Cond.arrayClass_spec (hwa _ wm161)
  obtain ⟨cZ, kZ, pZ, aZ1, aZ2, aZ3⟩ := Cond.arrayClass_spec (hwa _ wm868)
  have hao : (Cond.arrayOver (.object RX5)).before args s = true := hts _ (List.mem_of_getElem? (i := 92) (by decide +kernel))
  obtain ⟨pS, cS, kS, aS1, aS2, aS3, aS4, aS5⟩ := Cond.arrayOver_spec hao
  refine ⟨((fun n => match n with | 0 => c0 | 1 => c1 | 2 => c2 | 3 => c3 | 4 => c4 | 5 => c5 | 6 => c6 | 7 => c7 | 8 => c8 | _ => c9, fun n => match n with | 0 => i0 | 1 => i1 | 2 => i2 | 3 => i3 | 4 => i4 | 5 => i5 | 6 => i6 | 7 => i7 | 8 => i8 | _ => i9), (cI, cL, cZ, cS)), ⟨fun c q hq => ?_, fun k q hk => ?_⟩, fun w hw => ?_, fun w hw => ?_, fun q hq => ?_, fun q hq => ?_, va_AO.of hao⟩
  · match c, hq with
    | 0, hq => cases hq; exact k0
    | 1, hq => cases hq; exact k1
    | 2, hq => cases hq; exact k2
    | 3, hq => cases hq; exact k3
    | 4, hq => cases hq; exact k4
    | 5, hq => cases hq; exact k5
    | 6, hq => cases hq; exact k6
    | 7, hq => cases hq; exact k7
    | 8, hq => cases hq; exact k8
    | 9, hq => cases hq; exact k9
    | n + 10, hq => exact absurd hq (by simp [vwCl])
  · match k, hk with
    | 0, hk => cases hk; exact ⟨fun n z => ⟨fun k h => (by cases h), kI, aI2, pI, aI3⟩, aI1⟩
    | 1, hk => cases hk; exact ⟨fun n z => ⟨fun k h => (by cases h), kL, aL2, pL, aL3⟩, aL1⟩
    | 2, hk => cases hk; exact ⟨fun n z => ⟨fun k h => (by cases h), kZ, aZ2, pZ, aZ3⟩, aZ1⟩
    | 3, hk => cases hk; exact ⟨fun n z => ⟨fun k h => (by cases h), kS, aS3, pS, aS4⟩, kS, pS, aS3, aS4, aS1, aS5⟩
    | n + 4, hk => exact absurd hk (by simp)
  · have h2 := (List.mem_filter.mp hw).2
    simp only [w_face, Bool.and_eq_true] at h2
    exact va_Nw.of h2.1 (hts w (List.mem_filter.mp hw).1)
  · exact va_Nw.of (w_nest_tab (List.mem_filter.mp hw).2) (hts w (List.mem_filter.mp hw).1)
  · have hw := hts _ (mem_strW q hq)
    obtain ⟨kc, cf, j, a, -, -, -, -, -, hev⟩ := Cond.stringRef_spec k8.2.1 hw
    exact ⟨a, vk_R.of hw hev⟩
  · exact va_Nc.of (flat_of_before _ hgv _ (mem_ncW q hq))
theorem xk_start {s : State} {args : Array Value} {A : Nat → Prop} (hts : ∀ w ∈ lw_tbl, w.before args s = true) (hgv : (Jvm.Cond.and given_1 narrow_1).before args s = true) (hA : ∀ a : Nat, a < s.heap.size → ¬ A a) : XK A s s.heap :=
  ⟨vx_Zqof (hts _ (List.mem_of_getElem? (i := 495) (by decide +kernel))) (hts _ (List.mem_of_getElem? (i := 39) (by decide +kernel))) (flat_of_before _ hgv _ (by decide +kernel)) hA, vx_Zqof (hts _ (List.mem_of_getElem? (i := 497) (by decide +kernel))) (hts _ (List.mem_of_getElem? (i := 39) (by decide +kernel))) (flat_of_before _ hgv _ (by decide +kernel)) hA⟩
