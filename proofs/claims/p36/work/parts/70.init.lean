/-! the law: where it begins -/
theorem SV_0 (ph : Nat → SG) : SV 0 0 (fun _ => none) ph 0 := ⟨⟨⟨by omega, by omega⟩, ⟨by omega, by omega⟩, ⟨by omega, by omega⟩, Or.inl rfl, fun z h1 h2 => by rw [if_neg (by omega)]⟩, fun y h1 h2 => absurd h2 (by omega)⟩
set_option maxHeartbeats 4000000 in
set_option maxRecDepth 100000 in
theorem law_init {p : Program} {l : Launch} {e : Env} {s : State} {m : MethodId} {args : Array Value} {below : List Frame} {meth : Method} {c : Code} {A : Nat → Prop} {G : GG} {Q : State → Prop} {ba : Nat} (hx : p.tables.exec = Jvm.exec) (hb : c.code = cL_law) (hml : c.maxLocals = 8) (hown : s.vm.findClass RL = some m.cls) (hts : ∀ w ∈ WA, w.before args s = true) (hA : ∀ q : Nat, s.heap.size ≤ q → A q) (hK : KK G s)
    (kk : ∀ (x : Nat) (bs9 : List va_W) (H : Heap) (locs : List Loc) (ls : Array Slot), INV G x 4 2 0 0 bs9 → wP G bs9 H → wD A bs9 → va_S A s.heap H locs → lv_has ls 8 [(4, .int (jz 0)), (3, .int (jz 4)), (2, .int (jz 2)), (1, .ref x), (0, .ref ba)] → W p l e room_1 s m args below meth c H locs 29 2643 Q (F0 m 15 ls [])) :
    ∀ (H : Heap) (locs : List Loc) (ls : Array Slot), wP G [] H → wD A [] → va_S A s.heap H locs → lv_has ls 8 [(0, .ref ba)] → W p l e room_1 s m args below meth c H locs 0 0 Q (F0 m 0 ls []) := by
  intro H locs ls hP hD hS hl
  refine va_new (ci := 8) (fs := [.null, .null, .null, .null, .null, .null, .null, .null, .null]) (C := RX8) (T := TX8) (N := 9) hx hb hts wfX8 tyX8 tyX8_ok hown (hts _ wm28) (hts _ wm29) (hts _ wm11) hK.1 hP hD hS hA rfl (fun j hj => by rcases (show j = 0 ∨ j = 1 ∨ j = 2 ∨ j = 3 ∨ j = 4 ∨ j = 5 ∨ j = 6 ∨ j = 7 ∨ j = 8 by omega) with rfl | rfl | rfl | rfl | rfl | rfl | rfl | rfl | rfl <;> rfl) (Nat.le_of_ble_eq_true rfl) (Nat.le_of_ble_eq_true rfl) dL_law_0 (fun q_1 H hP hD hS => ?_)
  have hP : wP G [[(q_1, .inr (8, [.null, .null, .null, .null, .null, .null, .null, .null, .null]))]] H := hP
  have hD : wD A [[(q_1, .inr (8, [.null, .null, .null, .null, .null, .null, .null, .null, .null]))]] := hD
  show W p l e room_1 s m args below meth c H locs 1 9 Q (F0 m 3 ls [.ref q_1])
  refine lv_dup hx hb dL_law_3 rfl ?_
  refine kI ⟨hx, hb, hml, hown, hts⟩ hK hA hS hP hD [] [.ref q_1] (mX8_init l G q_1 ) lkL_107 [0] [] (br := []) rfl rfl (by decide) rfl rfl (Nat.le_of_ble_eq_true rfl) hl.1 dL_law_4 ⟨Nat.le_of_ble_eq_true rfl, Nat.le_of_ble_eq_true rfl⟩ ⟨Nat.le_of_ble_eq_true rfl, Nat.le_of_ble_eq_true rfl⟩ (fun u9 H locs hp9 hP hD hS => ?_)
  obtain ⟨u_2, u_3, u_4, u_5, u_6, u_7, u_8, u_9, u_10, u_11, u_12, u_13, u_14, u_15, u_16, u_17, u_18, u_19, u_20, u_21, u_22, u_23, u_24, u_25, u_26, u_27, u_28, u_29⟩ := u9
  have hP : wP G [bBD G q_1 u_2 u_3 u_4 u_5 u_6 u_7 u_8 u_9 u_10, bState G u_2 u_11 u_13 4, bText G u_11 u_12 0 (fun _ => 0), bText G u_13 u_14 0 (fun _ => 0), bSaved G u_3 u_15 0 0 (fun _ => none), bBuf G u_4 u_16 0 (fun _ => 0), bGrid G u_5 u_17 (fun _ => 0), bGrid G u_6 u_18 (fun _ => 0), bWay G u_7 u_19 0 (fun _ => 0), bTab G u_8 u_20 2 0 0 0 (fun _ => 0), bTab G u_9 u_21 2 0 0 0 (fun _ => 0), bRep G u_10 u_22 u_24 u_26 u_28, bGrid G u_22 u_23 (fun _ => 0), bGrid G u_24 u_25 (fun _ => 0), bText G u_26 u_27 0 (fun _ => 0), bText G u_28 u_29 0 (fun _ => 0)] H := hP
  have hD : wD A [bBD G q_1 u_2 u_3 u_4 u_5 u_6 u_7 u_8 u_9 u_10, bState G u_2 u_11 u_13 4, bText G u_11 u_12 0 (fun _ => 0), bText G u_13 u_14 0 (fun _ => 0), bSaved G u_3 u_15 0 0 (fun _ => none), bBuf G u_4 u_16 0 (fun _ => 0), bGrid G u_5 u_17 (fun _ => 0), bGrid G u_6 u_18 (fun _ => 0), bWay G u_7 u_19 0 (fun _ => 0), bTab G u_8 u_20 2 0 0 0 (fun _ => 0), bTab G u_9 u_21 2 0 0 0 (fun _ => 0), bRep G u_10 u_22 u_24 u_26 u_28, bGrid G u_22 u_23 (fun _ => 0), bGrid G u_24 u_25 (fun _ => 0), bText G u_26 u_27 0 (fun _ => 0), bText G u_28 u_29 0 (fun _ => 0)] := hD
  show W p l e room_1 s m args below meth c H locs 29 2643 Q (F0 m 7 ls [.ref q_1])
  refine lv_astore_n (lv' := [(1, .ref q_1), (0, .ref ba)]) hx hb dL_law_7 rfl hl (by decide) rfl (fun ls hl => ?_)
  refine jv_iconst hx hb dL_law_8 ?_
  refine lv_istore_n (lv' := [(2, .int (jz 2)), (1, .ref q_1), (0, .ref ba)]) hx hb dL_law_9 rfl hl (by decide) rfl (fun ls hl => ?_)
  refine jv_iconst hx hb dL_law_10 ?_
  refine lv_istore_n (lv' := [(3, .int (jz 4)), (2, .int (jz 2)), (1, .ref q_1), (0, .ref ba)]) hx hb dL_law_11 rfl hl (by decide) rfl (fun ls hl => ?_)
  refine jv_iconst hx hb dL_law_12 ?_
  refine lv_istore (lv' := [(4, .int (jz 0)), (3, .int (jz 4)), (2, .int (jz 2)), (1, .ref q_1), (0, .ref ba)]) hx hb dL_law_13 hl (by decide) rfl (fun ls hl => ?_)
  have hP : wP G [bBD G q_1 u_2 u_3 u_4 u_5 u_6 u_7 u_8 u_9 u_10, bState G u_2 u_11 u_13 4, bText G u_11 u_12 0 (fun _ => 0), bText G u_13 u_14 0 (fun _ => 0), bSaved G u_3 u_15 0 0 (fun _ => none), bBuf G u_4 u_16 0 (fun _ => 0), bGrid G u_5 u_17 (fun _ => 0), bGrid G u_6 u_18 (fun _ => 0), bWay G u_7 u_19 0 (fun _ => 0), bTab G u_8 u_20 2 0 0 0 (fun _ => 0), bTab G u_9 u_21 2 0 0 0 (fun _ => 0), bRep G u_10 u_22 u_24 u_26 u_28, bGrid G u_22 u_23 (fun _ => 0), bGrid G u_24 u_25 (fun _ => 0), bText G u_26 u_27 0 (fun _ => 0), bText G u_28 u_29 0 (fun _ => 0), bPool G ((fun _ => ((0, 0, 0, 0, 0), (0, 0, 0), (fun _ => 0), (fun _ => 0)))) 0] H := hP
  have hD : wD A [bBD G q_1 u_2 u_3 u_4 u_5 u_6 u_7 u_8 u_9 u_10, bState G u_2 u_11 u_13 4, bText G u_11 u_12 0 (fun _ => 0), bText G u_13 u_14 0 (fun _ => 0), bSaved G u_3 u_15 0 0 (fun _ => none), bBuf G u_4 u_16 0 (fun _ => 0), bGrid G u_5 u_17 (fun _ => 0), bGrid G u_6 u_18 (fun _ => 0), bWay G u_7 u_19 0 (fun _ => 0), bTab G u_8 u_20 2 0 0 0 (fun _ => 0), bTab G u_9 u_21 2 0 0 0 (fun _ => 0), bRep G u_10 u_22 u_24 u_26 u_28, bGrid G u_22 u_23 (fun _ => 0), bGrid G u_24 u_25 (fun _ => 0), bText G u_26 u_27 0 (fun _ => 0), bText G u_28 u_29 0 (fun _ => 0), bPool G ((fun _ => ((0, 0, 0, 0, 0), (0, 0, 0), (fun _ => 0), (fun _ => 0)))) 0] := hD
  refine kk q_1 [bBD G q_1 u_2 u_3 u_4 u_5 u_6 u_7 u_8 u_9 u_10, bState G u_2 u_11 u_13 4, bText G u_11 u_12 0 (fun _ => 0), bText G u_13 u_14 0 (fun _ => 0), bSaved G u_3 u_15 0 0 (fun _ => none), bGrid G u_5 u_17 (fun _ => 0), bGrid G u_6 u_18 (fun _ => 0), bWay G u_7 u_19 0 (fun _ => 0), bTab G u_8 u_20 2 0 0 0 (fun _ => 0), bTab G u_9 u_21 2 0 0 0 (fun _ => 0), bRep G u_10 u_22 u_24 u_26 u_28, bGrid G u_22 u_23 (fun _ => 0), bGrid G u_24 u_25 (fun _ => 0), bText G u_26 u_27 0 (fun _ => 0), bText G u_28 u_29 0 (fun _ => 0), bPool G ((fun _ => ((0, 0, 0, 0, 0), (0, 0, 0), (fun _ => 0), (fun _ => 0)))) 0] H locs ls ⟨u_2, u_3, u_4, u_5, u_6, u_7, u_8, u_9, u_10, u_11, u_13, u_12, 0, fun _ => 0, u_14, 0, fun _ => 0, u_15, 0, 0, fun _ => none, u_17, fun _ => 0, u_18, fun _ => 0, u_19, 0, fun _ => 0, u_20, 0, 0, 0, fun _ => 0, u_21, 2, 0, 0, 0, fun _ => 0, u_22, u_24, u_26, u_28, u_23, fun _ => 0, u_25, fun _ => 0, u_27, 0, fun _ => 0, u_29, 0, fun _ => 0, (fun _ => ((0, 0, 0, 0, 0), (0, 0, 0), (fun _ => 0), (fun _ => 0))), 0, (fun _ => false), rfl, by omega, by omega, (fun j h1 h2 => absurd h2 (by omega)), (fun j h1 h2 => absurd h2 (by omega)), SV_0 _, by omega, rM_0 (fun w _ _ => rfl), by omega⟩ (wP_sub hP [0, 1, 2, 3, 4, 6, 7, 8, 9, 10, 11, 12, 13, 14, 15, 16] rfl) (wD_sub hD [0, 1, 2, 3, 4, 6, 7, 8, 9, 10, 11, 12, 13, 14, 15, 16] (by decide) rfl) hS (lv_sub hl [0, 1, 2, 3, 4] rfl)
theorem mem_strW : ∀ q ∈ strW, Cond.stringRef RX8 q.1 q.2 ∈ lw_tbl := by decide +kernel
theorem kk_start {s : State} {args : Array Value} (hts : ∀ w ∈ lw_tbl, w.before args s = true) (hgv : (Jvm.Cond.and given_1 narrow_1).before args s = true) : ∃ G : GG, KK G s := by
  have hwa : ∀ w ∈ WA, w.before args s = true := fun w h => hts w (wa_tbl h)
  obtain ⟨c0, i0, k0⟩ := u_known (C := RX0) (T := TX0) (N := 5) (n := 5) hwa wfX0 (hwa _ wm121)
  obtain ⟨c1, i1, k1⟩ := u_known (C := RX1) (T := TX1) (N := 1) (n := 1) hwa wfX1 (hwa _ wm98)
  obtain ⟨c2, i2, k2⟩ := u_known (C := RX2) (T := TX2) (N := 2) (n := 2) hwa wfX2 (hwa _ wm85)
  obtain ⟨c3, i3, k3⟩ := u_known (C := RX3) (T := TX3) (N := 4) (n := 4) hwa wfX3 (hwa _ wm144)
  obtain ⟨c4, i4, k4⟩ := u_known (C := RX4) (T := TX4) (N := 3) (n := 3) hwa wfX4 (hwa _ wm67)
  obtain ⟨c5, i5, k5⟩ := u_known (C := RX5) (T := TX5) (N := 3) (n := 3) hwa wfX5 (hwa _ wm37)
  obtain ⟨c6, i6, k6⟩ := u_known (C := RX6) (T := TX6) (N := 2) (n := 2) hwa wfX6 (hwa _ wm43)
  obtain ⟨c7, i7, k7⟩ := u_known (C := RX7) (T := TX7) (N := 2) (n := 2) hwa wfX7 (hwa _ wm108)
  obtain ⟨c8, i8, k8⟩ := u_known (C := RX8) (T := TX8) (N := 9) (n := 9) hwa wfX8 (hwa _ wm29)
  obtain ⟨cI, kI, pI, aI1, aI2, aI3⟩ := Cond.arrayClass_spec (hwa _ wm55)
  obtain ⟨cL, kL, pL, aL1, aL2, aL3⟩ := Cond.arrayClass_spec (hwa _ wm142)
  obtain ⟨cZ, kZ, pZ, aZ1, aZ2, aZ3⟩ := Cond.arrayClass_spec (hts (.arrayClass .byte) (List.mem_of_getElem? (i := 269) (by decide +kernel)))
  have hao : (Cond.arrayOver (.object RX5)).before args s = true := hts _ (List.mem_of_getElem? (i := 73) (by decide +kernel))
  obtain ⟨pS, cS, kS, aS1, aS2, aS3, aS4, aS5⟩ := Cond.arrayOver_spec hao
  refine ⟨((fun n => match n with | 0 => c0 | 1 => c1 | 2 => c2 | 3 => c3 | 4 => c4 | 5 => c5 | 6 => c6 | 7 => c7 | _ => c8, fun n => match n with | 0 => i0 | 1 => i1 | 2 => i2 | 3 => i3 | 4 => i4 | 5 => i5 | 6 => i6 | 7 => i7 | _ => i8), (cI, cL, cZ, cS)), ⟨fun c q hq => ?_, fun k q hk => ?_⟩, fun w hw => ?_, fun w hw => ?_, fun q hq => ?_, fun q hq => ?_, va_AO.of hao⟩
  · match c, hq with
    | 0, hq => cases hq; exact k0
    | 1, hq => cases hq; exact k1
    | 2, hq => cases hq; exact k2
    | 3, hq => cases hq; exact k3
    | 4, hq => cases hq; exact k4
    | 5, hq => cases hq; exact k5
    | 6, hq => cases hq; exact k6
    | 7, hq => cases hq; exact k7
    | 8, hq => cases hq; exact k8
    | n + 9, hq => exact absurd hq (by simp [vwCl])
  · match k, hk with
    | 0, hk => cases hk; exact ⟨fun n z => ⟨fun k h => (by cases h), kI, aI2, pI, aI3⟩, aI1⟩
    | 1, hk => cases hk; exact ⟨fun n z => ⟨fun k h => (by cases h), kL, aL2, pL, aL3⟩, aL1⟩
    | 2, hk => cases hk; exact ⟨fun n z => ⟨fun k h => (by cases h), kZ, aZ2, pZ, aZ3⟩, aZ1⟩
    | 3, hk => cases hk; exact ⟨fun n z => ⟨fun k h => (by cases h), kS, aS3, pS, aS4⟩, kS, pS, aS3, aS4, aS1, aS5⟩
    | n + 4, hk => exact absurd hk (by simp)
  · have h2 := (List.mem_filter.mp hw).2
    simp only [w_face, Bool.and_eq_true] at h2
    exact va_Nw.of h2.1 (hts w (List.mem_filter.mp hw).1)
  · exact va_Nw.of (w_nest_tab (List.mem_filter.mp hw).2) (hts w (List.mem_filter.mp hw).1)
  · have hw := hts _ (mem_strW q hq)
    obtain ⟨kc, cf, j, a, -, -, -, -, -, hev⟩ := Cond.stringRef_spec k8.2.1 hw
    exact ⟨a, vk_R.of hw hev⟩
  · exact absurd hq (by simp [ncW])
