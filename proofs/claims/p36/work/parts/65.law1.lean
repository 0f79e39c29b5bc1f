abbrev bFour (G : GG) (qf : Nat) (ff : Int → Int) : va_W := [(qf, ja G 4 ff)]
theorem stp_a {a b : Int → Int} {i j : Int} (h1 : 0 < i) (h2 : 0 < j) (h3 : D 1 a b i j = D 1 a b (i - 1) (j - 1) + cst (a (i - 1)) (b (j - 1))) : stp a b i j = cst (a (i - 1)) (b (j - 1)) := by
  unfold stp; rw [if_pos ⟨h1, h2, h3⟩]
theorem stp_b {a b : Int → Int} {i j : Int} (h : ¬ (0 < i ∧ 0 < j ∧ D 1 a b i j = D 1 a b (i - 1) (j - 1) + cst (a (i - 1)) (b (j - 1)))) (h1 : 0 < i) (h2 : D 1 a b i j = D 1 a b (i - 1) j + 1) : stp a b i j = 2 := by
  unfold stp; rw [if_neg h, if_pos ⟨h1, h2⟩]
theorem stp_c {a b : Int → Int} {i j : Int} (h : ¬ (0 < i ∧ 0 < j ∧ D 1 a b i j = D 1 a b (i - 1) (j - 1) + cst (a (i - 1)) (b (j - 1)))) (h1 : ¬ (0 < i ∧ D 1 a b i j = D 1 a b (i - 1) j + 1)) : stp a b i j = 3 := by
  unfold stp; rw [if_neg h, if_neg h1]
theorem cst_e {x y : Int} (h : x = y) : cst x y = 0 := if_pos h
theorem cst_n {x y : Int} (h : x ≠ y) : cst x y = 1 := if_neg h
theorem D_ls {a b : Int → Int} {i j : Int} (hi : 0 ≤ i) (hj : 1 ≤ j) : D 1 a b i j - D 1 a b i (j - 1) ≤ 1 ∧ -1 ≤ D 1 a b i j - D 1 a b i (j - 1) := by
  have h := D_left2 a b (i := i) (j := j - 1) hi (by omega)
  rw [show j - 1 + 1 = j by omega] at h
  refine ⟨?_, by omega⟩
  by_cases h0 : 0 < i
  · have h1 := D_s 1 a b h0 (show 0 < j by omega)
    omega
  · have h1 := D_0 1 a b (i := i) (j := j) (by omega) (by omega)
    have h2 := D_0 1 a b (i := i) (j := j - 1) (by omega) (by omega)
    omega
theorem wQ_t {a b : Int → Int} {m n u u2 i i2 j j2 s d : Int} {c : Int → Int} (h : wQ a b m n (u + 1) (if s = 3 then i else i - 1) (if s = 2 then j else j - 1) (up c s (c s + 1))) (hd : d = s) (hu : u2 = u + 1) (hi : (d = 3 → i2 = i) ∧ (d ≠ 3 → i2 = i - 1)) (hj : (d = 2 → j2 = j) ∧ (d ≠ 2 → j2 = j - 1)) : wQ a b m n u2 i2 j2 (up c d (c d + 1)) := by
  subst hd hu
  have ei : i2 = if d = 3 then i else i - 1 := by split <;> omega
  have ej : j2 = if d = 2 then j else j - 1 := by split <;> omega
  rw [ei, ej]
  exact h
abbrev rmL_low : Room := { frames := 0, cells := 0, slots := 0, locals := 0 }
set_option maxHeartbeats 4000000 in
set_option maxRecDepth 100000 in
theorem mL_low (l : Launch) (G : GG) (v : Int) (n : Int) (hn : 1 ≤ n ∧ n ≤ 21) : Ct l yL_low cL_low 2 (some .int) rmL_low G [.int (jz v), .int (jz n)] [] (fun uo : Int => some (.int (jz uo))) (fun uo => (0 ≤ uo ∧ uo < n)) (fun uo => []) := by
  refine cof (by decide) (Nat.le_of_ble_eq_true rfl) ?_
  intro p e s m args below meth c A ls hx hb hr hml hown hts hlocks hin hA hK hP hD hS hl Q hQ
  have hown : s.vm.findClass RL = some m.cls := hown
  have hl : lv_has ls 2 [(0, .int (jz v)), (1, .int (jz n))] := hl
  have KH : ∀ (H : Heap) (locs : List Loc), wP G [] H → wD A [] → va_S A s.heap H locs → W p l e rmL_low s m args below meth c H locs 0 0 Q (F0 m 0 ls []) := by
    intro H locs hP hD hS
    refine lv_iload_n hx hb dL_low_0 rfl (lv_at hl 0 rfl) ?_
    refine lv_ldc (v := jz 2147483647) hx hb hown (hts _ (by first | exact wm376 | decide +kernel)) dL_low_1 ?_
    refine jv_iand hx hb dL_low_3 ?_
    have ha_1 := an_bd v (y := 2147483647) (by decide) (by decide)
    refine lv_iload_n hx hb dL_low_4 rfl (lv_at hl 1 rfl) ?_
    refine jv_irem hx hb dL_low_5 (by omega) (by omega) (by omega) (by omega) ?_
    exact cret_i hx hb hr hlocks hS hP hD (Nat.le_of_ble_eq_true rfl) (Nat.le_of_ble_eq_true rfl) rfl dL_low_6 [] (by decide) ((an v 2147483647) % n) rfl (show 0 ≤ ((an v 2147483647) % n) ∧ ((an v 2147483647) % n) < n from by exact ⟨Int.emod_nonneg _ (by omega), Int.emod_lt_of_pos _ (by omega)⟩) (congrArg (fun z : Int => some (Value.int (jz z))) (show ((an v 2147483647) % n) = (an v 2147483647) % n from by first | rfl | omega | (split <;> first | rfl | omega | (exfalso; omega)))) hQ
  exact KH s.heap [] hP hD hS
abbrev rmL_least : Room := { frames := 0, cells := 0, slots := 0, locals := 0 }
set_option maxHeartbeats 4000000 in
set_option maxRecDepth 100000 in
theorem mL_least (l : Launch) (G : GG) (x1 : Int) (x2 : Int) (x3 : Int) (h1 : jr x1) (h2 : jr x2) (h3 : jr x3) : Ct l yL_least cL_least 4 (some .int) rmL_least G [.int (jz x1), .int (jz x2), .int (jz x3)] [] (fun uo : Unit => some (.int (jz (min (min x1 x2) x3)))) (fun uo => True) (fun uo => []) := by
  refine cof (by decide) (Nat.le_of_ble_eq_true rfl) ?_
  intro p e s m args below meth c A ls hx hb hr hml hown hts hlocks hin hA hK hP hD hS hl Q hQ
  have hown : s.vm.findClass RL = some m.cls := hown
  have hl : lv_has ls 4 [(0, .int (jz x1)), (1, .int (jz x2)), (2, .int (jz x3))] := hl
  have KH : ∀ (H : Heap) (locs : List Loc), wP G [] H → wD A [] → va_S A s.heap H locs → W p l e rmL_least s m args below meth c H locs 0 0 Q (F0 m 0 ls []) := by
    intro H locs hP hD hS
    refine lv_iload_n hx hb dL_least_0 rfl (lv_at hl 0 rfl) ?_
    refine lv_iload_n hx hb dL_least_1 rfl (lv_at hl 1 rfl) ?_
    refine jv_icmp_ge (tgt := 9) hx hb dL_least_2 (by decide) (by omega) (by omega) (fun c_1 => ?_) (fun c_1 => ?_)
    · refine lv_iload_n hx hb dL_least_9 rfl (lv_at hl 1 rfl) ?_
      refine lv_istore_n (lv' := [(3, .int (jz x2)), (0, .int (jz x1)), (1, .int (jz x2)), (2, .int (jz x3))]) hx hb dL_least_10 rfl hl (by decide) rfl (fun ls hl => ?_)
      refine lv_iload_n hx hb dL_least_11 rfl (lv_at hl 0 rfl) ?_
      refine lv_iload_n hx hb dL_least_12 rfl (lv_at hl 3 rfl) ?_
      refine jv_icmp_ge (tgt := 20) hx hb dL_least_13 (by decide) (by omega) (by omega) (fun c_2 => ?_) (fun c_2 => ?_)
      · refine lv_iload_n hx hb dL_least_20 rfl (lv_at hl 3 rfl) ?_
        exact cret_i hx hb hr hlocks hS hP hD (Nat.le_of_ble_eq_true rfl) (Nat.le_of_ble_eq_true rfl) rfl dL_least_21 [] (by decide) () rfl trivial (congrArg (fun z : Int => some (Value.int (jz z))) (show x3 = min (min x1 x2) x3 from by omega)) hQ
      · refine lv_iload_n hx hb dL_least_16 rfl (lv_at hl 0 rfl) ?_
        refine lv_goto (tgt := 21) hx hb dL_least_17 (by decide) ?_
        exact cret_i hx hb hr hlocks hS hP hD (Nat.le_of_ble_eq_true rfl) (Nat.le_of_ble_eq_true rfl) rfl dL_least_21 [] (by decide) () rfl trivial (congrArg (fun z : Int => some (Value.int (jz z))) (show x2 = min (min x1 x2) x3 from by omega)) hQ
    · refine lv_iload_n hx hb dL_least_5 rfl (lv_at hl 0 rfl) ?_
      refine lv_goto (tgt := 10) hx hb dL_least_6 (by decide) ?_
      refine lv_istore_n (lv' := [(3, .int (jz x1)), (0, .int (jz x1)), (1, .int (jz x2)), (2, .int (jz x3))]) hx hb dL_least_10 rfl hl (by decide) rfl (fun ls hl => ?_)
      refine lv_iload_n hx hb dL_least_11 rfl (lv_at hl 0 rfl) ?_
      refine lv_iload_n hx hb dL_least_12 rfl (lv_at hl 3 rfl) ?_
      refine jv_icmp_ge (tgt := 20) hx hb dL_least_13 (by decide) (by omega) (by omega) (fun c_3 => ?_) (fun c_3 => ?_)
      · refine lv_iload_n hx hb dL_least_20 rfl (lv_at hl 3 rfl) ?_
        exact cret_i hx hb hr hlocks hS hP hD (Nat.le_of_ble_eq_true rfl) (Nat.le_of_ble_eq_true rfl) rfl dL_least_21 [] (by decide) () rfl trivial (congrArg (fun z : Int => some (Value.int (jz z))) (show x3 = min (min x1 x2) x3 from by omega)) hQ
      · refine lv_iload_n hx hb dL_least_16 rfl (lv_at hl 0 rfl) ?_
        refine lv_goto (tgt := 21) hx hb dL_least_17 (by decide) ?_
        exact cret_i hx hb hr hlocks hS hP hD (Nat.le_of_ble_eq_true rfl) (Nat.le_of_ble_eq_true rfl) rfl dL_least_21 [] (by decide) () rfl trivial (congrArg (fun z : Int => some (Value.int (jz z))) (show x1 = min (min x1 x2) x3 from by omega)) hQ
  exact KH s.heap [] hP hD hS
abbrev rmL_isGridSo : Room := { frames := 5, cells := 0, slots := 0, locals := 112 }
set_option maxHeartbeats 4000000 in
set_option maxRecDepth 100000 in
theorem mL_isGridSo (l : Launch) (G : GG) (x : Nat) (st : Nat) (sv : Nat) (bu : Nat) (di : Nat) (se : Nat) (wy : Nat) (ta : Nat) (tt : Nat) (rp : Nat) (t0 : Nat) (t1 : Nat) (al : Int) (a0 : Nat) (n0 : Int) (g0 : Int → Int) (a1 : Nat) (n1 : Int) (g1 : Int → Int) (db : Nat) (dh : Int → Int) (hn0 : 0 ≤ n0 ∧ n0 ≤ 20) (hn1 : 0 ≤ n1 ∧ n1 ≤ 20) (hg0 : ∀ j : Int, 0 ≤ j → j < n0 → 0 ≤ g0 j ∧ g0 j < 4) (hg1 : ∀ j : Int, 0 ≤ j → j < n1 → 0 ≤ g1 j ∧ g1 j < 4) : Ct l yL_isGridSo cL_isGridSo 7 (some .boolean) rmL_isGridSo G [.ref x] [bBD G x st sv bu di se wy ta tt rp, bState G st t0 t1 al, bText G t0 a0 n0 g0, bText G t1 a1 n1 g1, bGrid G di db dh] (fun uo : (Int → Int) => some (.int (jz 1))) (fun uo => True) (fun uo => [bBD G x st sv bu di se wy ta tt rp, bState G st t0 t1 al, bText G t0 a0 n0 g0, bText G t1 a1 n1 g1, bGrid G di db uo]) := by
  refine cof (by decide) (Nat.le_of_ble_eq_true rfl) ?_
  intro p e s m args below meth c A ls hx hb hr hml hown hts hlocks hin hA hK hP hD hS hl Q hQ
  have hown : s.vm.findClass RL = some m.cls := hown
  have hl : lv_has ls 7 [(0, .ref x)] := hl
  have KH : ∀ (H : Heap) (locs : List Loc), wP G [bBD G x st sv bu di se wy ta tt rp, bState G st t0 t1 al, bText G t0 a0 n0 g0, bText G t1 a1 n1 g1, bGrid G di db dh] H → wD A [bBD G x st sv bu di se wy ta tt rp, bState G st t0 t1 al, bText G t0 a0 n0 g0, bText G t1 a1 n1 g1, bGrid G di db dh] → va_S A s.heap H locs → W p l e rmL_isGridSo s m args below meth c H locs 0 0 Q (F0 m 0 ls []) := by
    intro H locs hP hD hS
    refine lv_aload_n hx hb dL_isGridSo_0 rfl (lv_at hl 0 rfl) ?_
    refine jv_iconst hx hb dL_isGridSo_1 ?_
    refine kV ⟨hx, hb, hml, hown, hts⟩ hK hA hS hP hD [.int (jz 0)] [] (mX8_length_0 l G x st sv bu di se wy ta tt rp t0 t1 al a0 n0 g0 a1 n1 g1 0 (by omega)) lkL_8 [0, 1, 2, 3] [4] (br := [bGrid G di db dh]) rfl rfl (by decide) 0 8 rfl rfl rfl rfl (Nat.le_of_ble_eq_true rfl) hl.1 dL_isGridSo_2 ⟨Nat.le_of_ble_eq_true rfl, Nat.le_of_ble_eq_true rfl⟩ ⟨Nat.le_of_ble_eq_true rfl, Nat.le_of_ble_eq_true rfl⟩ (fun u9 H locs hp9 hP hD hS => ?_)
    have hP : wP G [bGrid G di db dh, bBD G x st sv bu di se wy ta tt rp, bState G st t0 t1 al, bText G t0 a0 n0 g0, bText G t1 a1 n1 g1] H := hP
    have hD : wD A [bGrid G di db dh, bBD G x st sv bu di se wy ta tt rp, bState G st t0 t1 al, bText G t0 a0 n0 g0, bText G t1 a1 n1 g1] := hD
    show W p l e rmL_isGridSo s m args below meth c H locs 0 0 Q (F0 m 5 ls [.int (jz n0)])
    refine lv_istore_n (lv' := [(1, .int (jz n0)), (0, .ref x)]) hx hb dL_isGridSo_5 rfl hl (by decide) rfl (fun ls hl => ?_)
    refine lv_aload_n hx hb dL_isGridSo_6 rfl (lv_at hl 1 rfl) ?_
    refine jv_iconst hx hb dL_isGridSo_7 ?_
    refine kV ⟨hx, hb, hml, hown, hts⟩ hK hA hS hP hD [.int (jz 1)] [] (mX8_length_1 l G x st sv bu di se wy ta tt rp t0 t1 al a0 n0 g0 a1 n1 g1 1 (by omega)) lkL_8 [1, 2, 3, 4] [0] (br := [bGrid G di db dh]) rfl rfl (by decide) 0 8 rfl rfl rfl rfl (Nat.le_of_ble_eq_true rfl) hl.1 dL_isGridSo_8 ⟨Nat.le_of_ble_eq_true rfl, Nat.le_of_ble_eq_true rfl⟩ ⟨Nat.le_of_ble_eq_true rfl, Nat.le_of_ble_eq_true rfl⟩ (fun u9 H locs hp9 hP hD hS => ?_)
    have hP : wP G [bGrid G di db dh, bBD G x st sv bu di se wy ta tt rp, bState G st t0 t1 al, bText G t0 a0 n0 g0, bText G t1 a1 n1 g1] H := hP
    have hD : wD A [bGrid G di db dh, bBD G x st sv bu di se wy ta tt rp, bState G st t0 t1 al, bText G t0 a0 n0 g0, bText G t1 a1 n1 g1] := hD
    show W p l e rmL_isGridSo s m args below meth c H locs 0 0 Q (F0 m 11 ls [.int (jz n1)])
    refine lv_istore_n (lv' := [(2, .int (jz n1)), (1, .int (jz n0)), (0, .ref x)]) hx hb dL_isGridSo_11 rfl hl (by decide) rfl (fun ls hl => ?_)
    refine jv_iconst hx hb dL_isGridSo_12 ?_
    refine lv_istore_n (lv' := [(3, .int (jz 1)), (2, .int (jz n1)), (1, .int (jz n0)), (0, .ref x)]) hx hb dL_isGridSo_13 rfl hl (by decide) rfl (fun ls hl => ?_)
    refine jv_iconst hx hb dL_isGridSo_14 ?_
    refine lv_istore (lv' := [(4, .int (jz 0)), (3, .int (jz 1)), (2, .int (jz n1)), (1, .int (jz n0)), (0, .ref x)]) hx hb dL_isGridSo_15 hl (by decide) rfl (fun ls hl => ?_)
    have K17 : ∀ (n9 : Nat) (h1 : Int → Int) (i : Int) , ((n0 + 1 - i).toNat) < n9 → (0 ≤ i ∧ i ≤ n0 + 1) → ∀ (H : Heap) (locs : List Loc) (ls : Array Slot), wP G [bBD G x st sv bu di se wy ta tt rp, bState G st t0 t1 al, bText G t0 a0 n0 g0, bText G t1 a1 n1 g1, bGrid G di db h1] H → wD A [bBD G x st sv bu di se wy ta tt rp, bState G st t0 t1 al, bText G t0 a0 n0 g0, bText G t1 a1 n1 g1, bGrid G di db h1] → va_S A s.heap H locs → lv_has ls 7 [(0, .ref x), (1, .int (jz n0)), (2, .int (jz n1)), (3, .int (jz 1)), (4, .int (jz i))] → W p l e rmL_isGridSo s m args below meth c H locs 0 0 Q (F0 m 17 ls []) := by
      intro n9
      induction n9 with
      | zero => intro h1 i hm9; exact absurd hm9 (Nat.not_lt_zero _)
      | succ n9 ih17 =>
        intro h1 i hm9 hi H locs ls hP hD hS hl
        refine lv_iload hx hb dL_isGridSo_17 (lv_at hl 4 rfl) ?_
        refine lv_iload_n hx hb dL_isGridSo_19 rfl (lv_at hl 1 rfl) ?_
        refine jv_icmp_gt (tgt := 209) hx hb dL_isGridSo_20 (by decide) (by omega) (by omega) (fun c_3 => ?_) (fun c_3 => ?_)
        · refine lv_iload_n hx hb dL_isGridSo_209 rfl (lv_at hl 3 rfl) ?_
          refine jv_if_eq (tgt := 230) hx hb dL_isGridSo_210 (by decide) (by omega) (fun c_4 => ?_) (fun c_4 => ?_)
          · exfalso; omega
          · refine lv_aload_n hx hb dL_isGridSo_213 rfl (lv_at hl 0 rfl) ?_
            have hb5 := D_bd (c := 1) (Or.inr rfl) g0 g1 (i := n0) (j := n1) (by omega) (by omega)
            refine kV ⟨hx, hb, hml, hown, hts⟩ hK hA hS hP hD [] [] (mX8_distance l G x st sv bu di se wy ta tt rp t0 t1 al a0 n0 g0 a1 n1 g1 db h1 (by omega) (by omega) (by exact hg0) (by exact hg1)) lkL_61 [0, 1, 2, 3, 4] [] (br := []) rfl rfl (by decide) 0 8 rfl rfl rfl rfl (Nat.le_of_ble_eq_true rfl) hl.1 dL_isGridSo_214 ⟨Nat.le_of_ble_eq_true rfl, Nat.le_of_ble_eq_true rfl⟩ ⟨Nat.le_of_ble_eq_true rfl, Nat.le_of_ble_eq_true rfl⟩ (fun u9 H locs hp9 hP hD hS => ?_)
            obtain ⟨u_5, rfl⟩ : ∃ z, z = u9 := ⟨_, rfl⟩
            have hP : wP G [bBD G x st sv bu di se wy ta tt rp, bState G st t0 t1 al, bText G t0 a0 n0 g0, bText G t1 a1 n1 g1, bGrid G di db u_5] H := hP
            have hD : wD A [bBD G x st sv bu di se wy ta tt rp, bState G st t0 t1 al, bText G t0 a0 n0 g0, bText G t1 a1 n1 g1, bGrid G di db u_5] := hD
            show W p l e rmL_isGridSo s m args below meth c H locs 0 0 Q (F0 m 217 ls [.int (jz (D 1 g0 g1 n0 n1))])
            refine lv_aload_n hx hb dL_isGridSo_217 rfl (lv_at hl 0 rfl) ?_
            refine lv_iload_n hx hb dL_isGridSo_218 rfl (lv_at hl 1 rfl) ?_
            refine lv_iload_n hx hb dL_isGridSo_219 rfl (lv_at hl 2 rfl) ?_
            refine kV ⟨hx, hb, hml, hown, hts⟩ hK hA hS hP hD [.int (jz n0), .int (jz n1)] [.int (jz (D 1 g0 g1 n0 n1))] (mX8_prefix_k l G x st sv bu di se wy ta tt rp t0 t1 al a0 n0 g0 a1 n1 g1 db u_5 n0 n1 (by omega) (by omega) (by exact hg0) (by exact hg1) (by omega) (by omega) (by omega)) lkL_49 [0, 1, 2, 3, 4] [] (br := []) rfl rfl (by decide) 0 8 rfl rfl rfl rfl (Nat.le_of_ble_eq_true rfl) hl.1 dL_isGridSo_220 ⟨Nat.le_of_ble_eq_true rfl, Nat.le_of_ble_eq_true rfl⟩ ⟨Nat.le_of_ble_eq_true rfl, Nat.le_of_ble_eq_true rfl⟩ (fun u9 H locs hp9 hP hD hS => ?_)
            obtain ⟨u_6, rfl⟩ : ∃ z, z = u9 := ⟨_, rfl⟩
            have hP : wP G [bBD G x st sv bu di se wy ta tt rp, bState G st t0 t1 al, bText G t0 a0 n0 g0, bText G t1 a1 n1 g1, bGrid G di db u_6] H := hP
            have hD : wD A [bBD G x st sv bu di se wy ta tt rp, bState G st t0 t1 al, bText G t0 a0 n0 g0, bText G t1 a1 n1 g1, bGrid G di db u_6] := hD
            show W p l e rmL_isGridSo s m args below meth c H locs 0 0 Q (F0 m 223 ls [.int (jz (D 1 g0 g1 n0 n1)), .int (jz (D 1 g0 g1 n0 n1))])
            refine jv_icmp_ne (tgt := 230) hx hb dL_isGridSo_223 (by decide) (by omega) (by omega) (fun c_7 => ?_) (fun c_7 => ?_)
            · exfalso; omega
            · refine jv_iconst hx hb dL_isGridSo_226 ?_
              refine lv_goto (tgt := 231) hx hb dL_isGridSo_227 (by decide) ?_
              exact cret_i hx hb hr hlocks hS hP hD (Nat.le_of_ble_eq_true rfl) (Nat.le_of_ble_eq_true rfl) (jz_nb (show 1 = 0 ∨ 1 = 1 by omega)) dL_isGridSo_231 [0, 1, 2, 3, 4] (by decide) u_6 rfl trivial (congrArg (fun z : Int => some (Value.int (jz z))) (show 1 = 1 from by first | rfl | omega | (split <;> first | rfl | omega | (exfalso; omega)))) hQ
        · refine jv_iconst hx hb dL_isGridSo_23 ?_
          refine lv_istore (lv' := [(5, .int (jz 0)), (0, .ref x), (1, .int (jz n0)), (2, .int (jz n1)), (3, .int (jz 1)), (4, .int (jz i))]) hx hb dL_isGridSo_24 hl (by decide) rfl (fun ls hl => ?_)
          have K26 : ∀ (n9 : Nat) (h2 : Int → Int) (j : Int) , ((n1 + 1 - j).toNat) < n9 → (0 ≤ j ∧ j ≤ n1 + 1) → ∀ (H : Heap) (locs : List Loc) (ls : Array Slot), wP G [bBD G x st sv bu di se wy ta tt rp, bState G st t0 t1 al, bText G t0 a0 n0 g0, bText G t1 a1 n1 g1, bGrid G di db h2] H → wD A [bBD G x st sv bu di se wy ta tt rp, bState G st t0 t1 al, bText G t0 a0 n0 g0, bText G t1 a1 n1 g1, bGrid G di db h2] → va_S A s.heap H locs → lv_has ls 7 [(0, .ref x), (1, .int (jz n0)), (2, .int (jz n1)), (3, .int (jz 1)), (4, .int (jz i)), (5, .int (jz j))] → W p l e rmL_isGridSo s m args below meth c H locs 0 0 Q (F0 m 26 ls []) := by
            intro n9
            induction n9 with
            | zero => intro h2 j hm9; exact absurd hm9 (Nat.not_lt_zero _)
            | succ n9 ih26 =>
              intro h2 j hm9 hj H locs ls hP hD hS hl
              refine lv_iload hx hb dL_isGridSo_26 (lv_at hl 5 rfl) ?_
              refine lv_iload_n hx hb dL_isGridSo_28 rfl (lv_at hl 2 rfl) ?_
              refine jv_icmp_gt (tgt := 203) hx hb dL_isGridSo_29 (by decide) (by omega) (by omega) (fun c_8 => ?_) (fun c_8 => ?_)
              · refine jv_iinc (lv' := [(4, .int (jz (i + 1))), (0, .ref x), (1, .int (jz n0)), (2, .int (jz n1)), (3, .int (jz 1)), (5, .int (jz j))]) (k := 4) hx hb dL_isGridSo_203 hl rfl (by decide) rfl (fun ls hl => ?_)
                refine lv_goto (tgt := 17) hx hb dL_isGridSo_206 (by decide) ?_
                exact ih17 h2 (i + 1) (by omega) (by omega) H _ _ hP hD hS (lv_sub hl [1, 2, 3, 4, 0] rfl)
              · have K118 : ∀ (h3 : Int → Int) (du : Int) , (du = D 1 g0 g1 i j) → ∀ (H : Heap) (locs : List Loc) (ls : Array Slot), wP G [bBD G x st sv bu di se wy ta tt rp, bState G st t0 t1 al, bText G t0 a0 n0 g0, bText G t1 a1 n1 g1, bGrid G di db h3] H → wD A [bBD G x st sv bu di se wy ta tt rp, bState G st t0 t1 al, bText G t0 a0 n0 g0, bText G t1 a1 n1 g1, bGrid G di db h3] → va_S A s.heap H locs → lv_has ls 7 [(0, .ref x), (1, .int (jz n0)), (2, .int (jz n1)), (3, .int (jz 1)), (4, .int (jz i)), (5, .int (jz j))] → W p l e rmL_isGridSo s m args below meth c H locs 0 0 Q (F0 m 118 ls [.int (jz du)]) := by
                  intro h3 du hdu H locs ls hP hD hS hl
                  have hdb := D_bd (c := 1) (Or.inr rfl) g0 g1 (i := i) (j := j) (by omega) (by omega)
                  refine lv_istore (lv' := [(6, .int (jz du)), (0, .ref x), (1, .int (jz n0)), (2, .int (jz n1)), (3, .int (jz 1)), (4, .int (jz i)), (5, .int (jz j))]) hx hb dL_isGridSo_118 hl (by decide) rfl (fun ls hl => ?_)
                  refine lv_iload_n hx hb dL_isGridSo_120 rfl (lv_at hl 4 rfl) ?_
                  refine jv_if_eq (tgt := 195) hx hb dL_isGridSo_121 (by decide) (by omega) (fun c_9 => ?_) (fun c_9 => ?_)
                  · exfalso; omega
                  · refine lv_aload_n hx hb dL_isGridSo_124 rfl (lv_at hl 1 rfl) ?_
                    refine lv_iload hx hb dL_isGridSo_125 (lv_at hl 5 rfl) ?_
                    refine lv_iload hx hb dL_isGridSo_127 (lv_at hl 6 rfl) ?_
                    refine kV ⟨hx, hb, hml, hown, hts⟩ hK hA hS hP hD [.int (jz i), .int (jz j)] [] (mX8_prefix_k l G x st sv bu di se wy ta tt rp t0 t1 al a0 n0 g0 a1 n1 g1 db h3 i j (by omega) (by omega) (by exact hg0) (by exact hg1) (by omega) (by omega) (by omega)) lkL_49 [0, 1, 2, 3, 4] [] (br := []) rfl rfl (by decide) 0 8 rfl rfl rfl rfl (Nat.le_of_ble_eq_true rfl) hl.1 dL_isGridSo_129 ⟨Nat.le_of_ble_eq_true rfl, Nat.le_of_ble_eq_true rfl⟩ ⟨Nat.le_of_ble_eq_true rfl, Nat.le_of_ble_eq_true rfl⟩ (fun u9 H locs hp9 hP hD hS => ?_)
                    obtain ⟨u_10, rfl⟩ : ∃ z, z = u9 := ⟨_, rfl⟩
                    have hP : wP G [bBD G x st sv bu di se wy ta tt rp, bState G st t0 t1 al, bText G t0 a0 n0 g0, bText G t1 a1 n1 g1, bGrid G di db u_10] H := hP
                    have hD : wD A [bBD G x st sv bu di se wy ta tt rp, bState G st t0 t1 al, bText G t0 a0 n0 g0, bText G t1 a1 n1 g1, bGrid G di db u_10] := hD
                    show W p l e rmL_isGridSo s m args below meth c H locs 0 0 Q (F0 m 132 ls [.int (jz (D 1 g0 g1 i j))])
                    refine jv_top (fun r_11 er_11 => ?_)
                    refine lv_iload hx hb dL_isGridSo_132 (lv_at hl 0 rfl) ?_
                    refine jv_icmp_ne (tgt := 195) hx hb dL_isGridSo_134 (by decide) (by omega) (by omega) (fun c_12 => ?_) (fun c_12 => ?_)
                    · exfalso; omega
                    · refine lv_iload hx hb dL_isGridSo_137 (lv_at hl 6 rfl) ?_
                      refine jv_if_eq (tgt := 191) hx hb dL_isGridSo_139 (by decide) (by omega) (fun c_13 => ?_) (fun c_13 => ?_)
                      · refine jv_iconst hx hb dL_isGridSo_191 ?_
                        refine lv_goto (tgt := 196) hx hb dL_isGridSo_192 (by decide) ?_
                        refine lv_istore_n (lv' := [(3, .int (jz 1)), (6, .int (jz du)), (0, .ref x), (1, .int (jz n0)), (2, .int (jz n1)), (4, .int (jz i)), (5, .int (jz j))]) hx hb dL_isGridSo_196 rfl hl (by decide) rfl (fun ls hl => ?_)
                        refine jv_iinc (lv' := [(5, .int (jz (j + 1))), (3, .int (jz 1)), (6, .int (jz du)), (0, .ref x), (1, .int (jz n0)), (2, .int (jz n1)), (4, .int (jz i))]) (k := 6) hx hb dL_isGridSo_197 hl rfl (by decide) rfl (fun ls hl => ?_)
                        refine lv_goto (tgt := 26) hx hb dL_isGridSo_200 (by decide) ?_
                        exact ih26 u_10 (j + 1) (by omega) (by omega) H _ _ hP hD hS (lv_sub hl [3, 4, 5, 1, 6, 0] rfl)
                      · refine lv_aload_n hx hb dL_isGridSo_142 rfl (lv_at hl 1 rfl) ?_
                        refine lv_iload hx hb dL_isGridSo_143 (lv_at hl 5 rfl) ?_
                        refine lv_iload hx hb dL_isGridSo_145 (lv_at hl 6 rfl) ?_
                        refine kV ⟨hx, hb, hml, hown, hts⟩ hK hA hS hP hD [.int (jz i), .int (jz j)] [] (mX8_across_k l G x st sv bu di se wy ta tt rp t0 t1 al a0 n0 g0 a1 n1 g1 db u_10 i j (by omega) (by omega) (by exact hg0) (by exact hg1) (by omega) (by omega) (by omega)) lkL_58 [0, 1, 2, 3, 4] [] (br := []) rfl rfl (by decide) 0 8 rfl rfl rfl rfl (Nat.le_of_ble_eq_true rfl) hl.1 dL_isGridSo_147 ⟨Nat.le_of_ble_eq_true rfl, Nat.le_of_ble_eq_true rfl⟩ ⟨Nat.le_of_ble_eq_true rfl, Nat.le_of_ble_eq_true rfl⟩ (fun u9 H locs hp9 hP hD hS => ?_)
                        obtain ⟨u_14, rfl⟩ : ∃ z, z = u9 := ⟨_, rfl⟩
                        have hP : wP G [bBD G x st sv bu di se wy ta tt rp, bState G st t0 t1 al, bText G t0 a0 n0 g0, bText G t1 a1 n1 g1, bGrid G di db u_14] H := hP
                        have hD : wD A [bBD G x st sv bu di se wy ta tt rp, bState G st t0 t1 al, bText G t0 a0 n0 g0, bText G t1 a1 n1 g1, bGrid G di db u_14] := hD
                        show W p l e rmL_isGridSo s m args below meth c H locs 0 0 Q (F0 m 150 ls [.int (jz (D 1 g0 g1 i j - D 1 g0 g1 i (j - 1)))])
                        refine jv_top (fun r_15 er_15 => ?_)
                        have hb4 := D_bd (c := 1) (Or.inr rfl) g0 g1 (i := i) (j := j - 1) (by omega) (by omega)
                        refine lv_iload hx hb dL_isGridSo_150 (lv_at hl 0 rfl) ?_
                        refine lv_aload_n hx hb dL_isGridSo_152 rfl (lv_at hl 1 rfl) ?_
                        refine lv_iload hx hb dL_isGridSo_153 (lv_at hl 5 rfl) ?_
                        refine lv_iload hx hb dL_isGridSo_155 (lv_at hl 6 rfl) ?_
                        refine jv_iconst hx hb dL_isGridSo_157 ?_
                        refine jv_isub hx hb dL_isGridSo_158 ?_
                        refine kV ⟨hx, hb, hml, hown, hts⟩ hK hA hS hP hD [.int (jz i), .int (jz (j - 1))] [.int (jz du), .int (jz r_15)] (mX8_prefix_k l G x st sv bu di se wy ta tt rp t0 t1 al a0 n0 g0 a1 n1 g1 db u_14 i (j - 1) (by omega) (by omega) (by exact hg0) (by exact hg1) (by omega) (by omega) (by omega)) lkL_49 [0, 1, 2, 3, 4] [] (br := []) rfl rfl (by decide) 0 8 rfl rfl rfl rfl (Nat.le_of_ble_eq_true rfl) hl.1 dL_isGridSo_159 ⟨Nat.le_of_ble_eq_true rfl, Nat.le_of_ble_eq_true rfl⟩ ⟨Nat.le_of_ble_eq_true rfl, Nat.le_of_ble_eq_true rfl⟩ (fun u9 H locs hp9 hP hD hS => ?_)
                        obtain ⟨u_16, rfl⟩ : ∃ z, z = u9 := ⟨_, rfl⟩
                        have hP : wP G [bBD G x st sv bu di se wy ta tt rp, bState G st t0 t1 al, bText G t0 a0 n0 g0, bText G t1 a1 n1 g1, bGrid G di db u_16] H := hP
                        have hD : wD A [bBD G x st sv bu di se wy ta tt rp, bState G st t0 t1 al, bText G t0 a0 n0 g0, bText G t1 a1 n1 g1, bGrid G di db u_16] := hD
                        show W p l e rmL_isGridSo s m args below meth c H locs 0 0 Q (F0 m 162 ls [.int (jz (D 1 g0 g1 i (j - 1))), .int (jz du), .int (jz r_15)])
                        refine jv_top (fun r_17 er_17 => ?_)
                        have hls := D_ls (a := g0) (b := g1) (i := i) (j := j) (by omega) (by omega)
                        refine jv_isub hx hb dL_isGridSo_162 ?_
                        refine jv_icmp_ne (tgt := 195) hx hb dL_isGridSo_163 (by decide) (by omega) (by omega) (fun c_18 => ?_) (fun c_18 => ?_)
                        · exfalso; omega
                        · refine lv_aload_n hx hb dL_isGridSo_166 rfl (lv_at hl 1 rfl) ?_
                          refine lv_iload hx hb dL_isGridSo_167 (lv_at hl 5 rfl) ?_
                          refine lv_iload hx hb dL_isGridSo_169 (lv_at hl 6 rfl) ?_
                          refine kV ⟨hx, hb, hml, hown, hts⟩ hK hA hS hP hD [.int (jz i), .int (jz j)] [] (mX8_across_k l G x st sv bu di se wy ta tt rp t0 t1 al a0 n0 g0 a1 n1 g1 db u_16 i j (by omega) (by omega) (by exact hg0) (by exact hg1) (by omega) (by omega) (by omega)) lkL_58 [0, 1, 2, 3, 4] [] (br := []) rfl rfl (by decide) 0 8 rfl rfl rfl rfl (Nat.le_of_ble_eq_true rfl) hl.1 dL_isGridSo_171 ⟨Nat.le_of_ble_eq_true rfl, Nat.le_of_ble_eq_true rfl⟩ ⟨Nat.le_of_ble_eq_true rfl, Nat.le_of_ble_eq_true rfl⟩ (fun u9 H locs hp9 hP hD hS => ?_)
                          obtain ⟨u_19, rfl⟩ : ∃ z, z = u9 := ⟨_, rfl⟩
                          have hP : wP G [bBD G x st sv bu di se wy ta tt rp, bState G st t0 t1 al, bText G t0 a0 n0 g0, bText G t1 a1 n1 g1, bGrid G di db u_19] H := hP
                          have hD : wD A [bBD G x st sv bu di se wy ta tt rp, bState G st t0 t1 al, bText G t0 a0 n0 g0, bText G t1 a1 n1 g1, bGrid G di db u_19] := hD
                          show W p l e rmL_isGridSo s m args below meth c H locs 0 0 Q (F0 m 174 ls [.int (jz (D 1 g0 g1 i j - D 1 g0 g1 i (j - 1)))])
                          refine jv_top (fun r_20 er_20 => ?_)
                          refine jv_iconst hx hb dL_isGridSo_174 ?_
                          refine jv_icmp_ge (tgt := 195) hx hb dL_isGridSo_175 (by decide) (by omega) (by omega) (fun c_21 => ?_) (fun c_21 => ?_)
                          · exfalso; omega
                          · refine lv_aload_n hx hb dL_isGridSo_178 rfl (lv_at hl 1 rfl) ?_
                            refine lv_iload hx hb dL_isGridSo_179 (lv_at hl 5 rfl) ?_
                            refine lv_iload hx hb dL_isGridSo_181 (lv_at hl 6 rfl) ?_
                            refine kV ⟨hx, hb, hml, hown, hts⟩ hK hA hS hP hD [.int (jz i), .int (jz j)] [] (mX8_across_k l G x st sv bu di se wy ta tt rp t0 t1 al a0 n0 g0 a1 n1 g1 db u_19 i j (by omega) (by omega) (by exact hg0) (by exact hg1) (by omega) (by omega) (by omega)) lkL_58 [0, 1, 2, 3, 4] [] (br := []) rfl rfl (by decide) 0 8 rfl rfl rfl rfl (Nat.le_of_ble_eq_true rfl) hl.1 dL_isGridSo_183 ⟨Nat.le_of_ble_eq_true rfl, Nat.le_of_ble_eq_true rfl⟩ ⟨Nat.le_of_ble_eq_true rfl, Nat.le_of_ble_eq_true rfl⟩ (fun u9 H locs hp9 hP hD hS => ?_)
                            obtain ⟨u_22, rfl⟩ : ∃ z, z = u9 := ⟨_, rfl⟩
                            have hP : wP G [bBD G x st sv bu di se wy ta tt rp, bState G st t0 t1 al, bText G t0 a0 n0 g0, bText G t1 a1 n1 g1, bGrid G di db u_22] H := hP
                            have hD : wD A [bBD G x st sv bu di se wy ta tt rp, bState G st t0 t1 al, bText G t0 a0 n0 g0, bText G t1 a1 n1 g1, bGrid G di db u_22] := hD
                            show W p l e rmL_isGridSo s m args below meth c H locs 0 0 Q (F0 m 186 ls [.int (jz (D 1 g0 g1 i j - D 1 g0 g1 i (j - 1)))])
                            refine jv_top (fun r_23 er_23 => ?_)
                            refine jv_bipush hx hb dL_isGridSo_186 (by decide) ?_
                            refine jv_icmp_le (tgt := 195) hx hb dL_isGridSo_188 (by decide) (by omega) (by omega) (fun c_24 => ?_) (fun c_24 => ?_)
                            · exfalso; omega
                            · refine jv_iconst hx hb dL_isGridSo_191 ?_
                              refine lv_goto (tgt := 196) hx hb dL_isGridSo_192 (by decide) ?_
                              refine lv_istore_n (lv' := [(3, .int (jz 1)), (6, .int (jz du)), (0, .ref x), (1, .int (jz n0)), (2, .int (jz n1)), (4, .int (jz i)), (5, .int (jz j))]) hx hb dL_isGridSo_196 rfl hl (by decide) rfl (fun ls hl => ?_)
                              refine jv_iinc (lv' := [(5, .int (jz (j + 1))), (3, .int (jz 1)), (6, .int (jz du)), (0, .ref x), (1, .int (jz n0)), (2, .int (jz n1)), (4, .int (jz i))]) (k := 6) hx hb dL_isGridSo_197 hl rfl (by decide) rfl (fun ls hl => ?_)
                              refine lv_goto (tgt := 26) hx hb dL_isGridSo_200 (by decide) ?_
                              exact ih26 u_22 (j + 1) (by omega) (by omega) H _ _ hP hD hS (lv_sub hl [3, 4, 5, 1, 6, 0] rfl)
                refine lv_iload hx hb dL_isGridSo_32 (lv_at hl 4 rfl) ?_
                refine jv_if_ne (tgt := 42) hx hb dL_isGridSo_34 (by decide) (by omega) (fun c_25 => ?_) (fun c_25 => ?_)
                · refine lv_iload hx hb dL_isGridSo_42 (lv_at hl 5 rfl) ?_
                  refine jv_if_ne (tgt := 52) hx hb dL_isGridSo_44 (by decide) (by omega) (fun c_26 => ?_) (fun c_26 => ?_)
                  · refine lv_aload_n hx hb dL_isGridSo_52 rfl (lv_at hl 0 rfl) ?_
                    refine lv_iload hx hb dL_isGridSo_53 (lv_at hl 4 rfl) ?_
                    refine jv_iconst hx hb dL_isGridSo_55 ?_
                    refine jv_isub hx hb dL_isGridSo_56 ?_
                    refine lv_iload hx hb dL_isGridSo_57 (lv_at hl 5 rfl) ?_
                    refine kV ⟨hx, hb, hml, hown, hts⟩ hK hA hS hP hD [.int (jz (i - 1)), .int (jz j)] [] (mX8_prefix_k l G x st sv bu di se wy ta tt rp t0 t1 al a0 n0 g0 a1 n1 g1 db h2 (i - 1) j (by omega) (by omega) (by exact hg0) (by exact hg1) (by omega) (by omega) (by omega)) lkL_49 [0, 1, 2, 3, 4] [] (br := []) rfl rfl (by decide) 0 8 rfl rfl rfl rfl (Nat.le_of_ble_eq_true rfl) hl.1 dL_isGridSo_59 ⟨Nat.le_of_ble_eq_true rfl, Nat.le_of_ble_eq_true rfl⟩ ⟨Nat.le_of_ble_eq_true rfl, Nat.le_of_ble_eq_true rfl⟩ (fun u9 H locs hp9 hP hD hS => ?_)
                    obtain ⟨u_27, rfl⟩ : ∃ z, z = u9 := ⟨_, rfl⟩
                    have hP : wP G [bBD G x st sv bu di se wy ta tt rp, bState G st t0 t1 al, bText G t0 a0 n0 g0, bText G t1 a1 n1 g1, bGrid G di db u_27] H := hP
                    have hD : wD A [bBD G x st sv bu di se wy ta tt rp, bState G st t0 t1 al, bText G t0 a0 n0 g0, bText G t1 a1 n1 g1, bGrid G di db u_27] := hD
                    show W p l e rmL_isGridSo s m args below meth c H locs 0 0 Q (F0 m 62 ls [.int (jz (D 1 g0 g1 (i - 1) j))])
                    refine jv_top (fun r_28 er_28 => ?_)
                    have hb1 := D_bd (c := 1) (Or.inr rfl) g0 g1 (i := i - 1) (j := j) (by omega) (by omega)
                    refine jv_iconst hx hb dL_isGridSo_62 ?_
                    refine jv_iadd hx hb dL_isGridSo_63 ?_
                    refine lv_aload_n hx hb dL_isGridSo_64 rfl (lv_at hl 0 rfl) ?_
                    refine lv_iload hx hb dL_isGridSo_65 (lv_at hl 4 rfl) ?_
                    refine lv_iload hx hb dL_isGridSo_67 (lv_at hl 5 rfl) ?_
                    refine jv_iconst hx hb dL_isGridSo_69 ?_
                    refine jv_isub hx hb dL_isGridSo_70 ?_
                    refine kV ⟨hx, hb, hml, hown, hts⟩ hK hA hS hP hD [.int (jz i), .int (jz (j - 1))] [.int (jz (r_28 + 1))] (mX8_prefix_k l G x st sv bu di se wy ta tt rp t0 t1 al a0 n0 g0 a1 n1 g1 db u_27 i (j - 1) (by omega) (by omega) (by exact hg0) (by exact hg1) (by omega) (by omega) (by omega)) lkL_49 [0, 1, 2, 3, 4] [] (br := []) rfl rfl (by decide) 0 8 rfl rfl rfl rfl (Nat.le_of_ble_eq_true rfl) hl.1 dL_isGridSo_71 ⟨Nat.le_of_ble_eq_true rfl, Nat.le_of_ble_eq_true rfl⟩ ⟨Nat.le_of_ble_eq_true rfl, Nat.le_of_ble_eq_true rfl⟩ (fun u9 H locs hp9 hP hD hS => ?_)
                    obtain ⟨u_29, rfl⟩ : ∃ z, z = u9 := ⟨_, rfl⟩
                    have hP : wP G [bBD G x st sv bu di se wy ta tt rp, bState G st t0 t1 al, bText G t0 a0 n0 g0, bText G t1 a1 n1 g1, bGrid G di db u_29] H := hP
                    have hD : wD A [bBD G x st sv bu di se wy ta tt rp, bState G st t0 t1 al, bText G t0 a0 n0 g0, bText G t1 a1 n1 g1, bGrid G di db u_29] := hD
                    show W p l e rmL_isGridSo s m args below meth c H locs 0 0 Q (F0 m 74 ls [.int (jz (D 1 g0 g1 i (j - 1))), .int (jz (r_28 + 1))])
                    refine jv_top (fun r_30 er_30 => ?_)
                    have hb2 := D_bd (c := 1) (Or.inr rfl) g0 g1 (i := i) (j := j - 1) (by omega) (by omega)
                    refine jv_iconst hx hb dL_isGridSo_74 ?_
                    refine jv_iadd hx hb dL_isGridSo_75 ?_
                    refine lv_aload_n hx hb dL_isGridSo_76 rfl (lv_at hl 0 rfl) ?_
                    refine lv_iload hx hb dL_isGridSo_77 (lv_at hl 4 rfl) ?_
                    refine jv_iconst hx hb dL_isGridSo_79 ?_
                    refine jv_isub hx hb dL_isGridSo_80 ?_
                    refine lv_iload hx hb dL_isGridSo_81 (lv_at hl 5 rfl) ?_
                    refine jv_iconst hx hb dL_isGridSo_83 ?_
                    refine jv_isub hx hb dL_isGridSo_84 ?_
                    refine kV ⟨hx, hb, hml, hown, hts⟩ hK hA hS hP hD [.int (jz (i - 1)), .int (jz (j - 1))] [.int (jz (r_30 + 1)), .int (jz (r_28 + 1))] (mX8_prefix_k l G x st sv bu di se wy ta tt rp t0 t1 al a0 n0 g0 a1 n1 g1 db u_29 (i - 1) (j - 1) (by omega) (by omega) (by exact hg0) (by exact hg1) (by omega) (by omega) (by omega)) lkL_49 [0, 1, 2, 3, 4] [] (br := []) rfl rfl (by decide) 0 8 rfl rfl rfl rfl (Nat.le_of_ble_eq_true rfl) hl.1 dL_isGridSo_85 ⟨Nat.le_of_ble_eq_true rfl, Nat.le_of_ble_eq_true rfl⟩ ⟨Nat.le_of_ble_eq_true rfl, Nat.le_of_ble_eq_true rfl⟩ (fun u9 H locs hp9 hP hD hS => ?_)
                    obtain ⟨u_31, rfl⟩ : ∃ z, z = u9 := ⟨_, rfl⟩
                    have hP : wP G [bBD G x st sv bu di se wy ta tt rp, bState G st t0 t1 al, bText G t0 a0 n0 g0, bText G t1 a1 n1 g1, bGrid G di db u_31] H := hP
                    have hD : wD A [bBD G x st sv bu di se wy ta tt rp, bState G st t0 t1 al, bText G t0 a0 n0 g0, bText G t1 a1 n1 g1, bGrid G di db u_31] := hD
                    show W p l e rmL_isGridSo s m args below meth c H locs 0 0 Q (F0 m 88 ls [.int (jz (D 1 g0 g1 (i - 1) (j - 1))), .int (jz (r_30 + 1)), .int (jz (r_28 + 1))])
                    refine jv_top (fun r_32 er_32 => ?_)
                    have hb3 := D_bd (c := 1) (Or.inr rfl) g0 g1 (i := i - 1) (j := j - 1) (by omega) (by omega)
                    refine lv_aload_n hx hb dL_isGridSo_88 rfl (lv_at hl 0 rfl) ?_
                    refine jv_iconst hx hb dL_isGridSo_89 ?_
                    refine lv_iload hx hb dL_isGridSo_90 (lv_at hl 4 rfl) ?_
                    refine jv_iconst hx hb dL_isGridSo_92 ?_
                    refine jv_isub hx hb dL_isGridSo_93 ?_
                    refine kV ⟨hx, hb, hml, hown, hts⟩ hK hA hS hP hD [.int (jz 0), .int (jz (i - 1))] [.int (jz r_32), .int (jz (r_30 + 1)), .int (jz (r_28 + 1))] (mX8_letter_0_k l G x st sv bu di se wy ta tt rp t0 t1 al a0 n0 g0 a1 n1 g1 0 (i - 1) (by omega) (by omega) (by omega) (by omega) (by omega)) lkL_52 [0, 1, 2, 3] [4] (br := [bGrid G di db u_31]) rfl rfl (by decide) 0 8 rfl rfl rfl rfl (Nat.le_of_ble_eq_true rfl) hl.1 dL_isGridSo_94 ⟨Nat.le_of_ble_eq_true rfl, Nat.le_of_ble_eq_true rfl⟩ ⟨Nat.le_of_ble_eq_true rfl, Nat.le_of_ble_eq_true rfl⟩ (fun u9 H locs hp9 hP hD hS => ?_)
                    have hP : wP G [bGrid G di db u_31, bBD G x st sv bu di se wy ta tt rp, bState G st t0 t1 al, bText G t0 a0 n0 g0, bText G t1 a1 n1 g1] H := hP
                    have hD : wD A [bGrid G di db u_31, bBD G x st sv bu di se wy ta tt rp, bState G st t0 t1 al, bText G t0 a0 n0 g0, bText G t1 a1 n1 g1] := hD
                    show W p l e rmL_isGridSo s m args below meth c H locs 0 0 Q (F0 m 97 ls [.int (jz (g0 (i - 1))), .int (jz r_32), .int (jz (r_30 + 1)), .int (jz (r_28 + 1))])
                    have hq0 := hg0 (i - 1) (by omega) (by omega)
                    refine lv_aload_n hx hb dL_isGridSo_97 rfl (lv_at hl 0 rfl) ?_
                    refine jv_iconst hx hb dL_isGridSo_98 ?_
                    refine lv_iload hx hb dL_isGridSo_99 (lv_at hl 5 rfl) ?_
                    refine jv_iconst hx hb dL_isGridSo_101 ?_
                    refine jv_isub hx hb dL_isGridSo_102 ?_
                    refine kV ⟨hx, hb, hml, hown, hts⟩ hK hA hS hP hD [.int (jz 1), .int (jz (j - 1))] [.int (jz (g0 (i - 1))), .int (jz r_32), .int (jz (r_30 + 1)), .int (jz (r_28 + 1))] (mX8_letter_1_k l G x st sv bu di se wy ta tt rp t0 t1 al a0 n0 g0 a1 n1 g1 1 (j - 1) (by omega) (by omega) (by omega) (by omega) (by omega)) lkL_52 [1, 2, 3, 4] [0] (br := [bGrid G di db u_31]) rfl rfl (by decide) 0 8 rfl rfl rfl rfl (Nat.le_of_ble_eq_true rfl) hl.1 dL_isGridSo_103 ⟨Nat.le_of_ble_eq_true rfl, Nat.le_of_ble_eq_true rfl⟩ ⟨Nat.le_of_ble_eq_true rfl, Nat.le_of_ble_eq_true rfl⟩ (fun u9 H locs hp9 hP hD hS => ?_)
                    have hP : wP G [bGrid G di db u_31, bBD G x st sv bu di se wy ta tt rp, bState G st t0 t1 al, bText G t0 a0 n0 g0, bText G t1 a1 n1 g1] H := hP
                    have hD : wD A [bGrid G di db u_31, bBD G x st sv bu di se wy ta tt rp, bState G st t0 t1 al, bText G t0 a0 n0 g0, bText G t1 a1 n1 g1] := hD
                    show W p l e rmL_isGridSo s m args below meth c H locs 0 0 Q (F0 m 106 ls [.int (jz (g1 (j - 1))), .int (jz (g0 (i - 1))), .int (jz r_32), .int (jz (r_30 + 1)), .int (jz (r_28 + 1))])
                    have hq1 := hg1 (j - 1) (by omega) (by omega)
                    refine jv_icmp_ne (tgt := 113) hx hb dL_isGridSo_106 (by decide) (by omega) (by omega) (fun c_35 => ?_) (fun c_35 => ?_)
                    · have hcs := cst_n c_35
                      refine jv_iconst hx hb dL_isGridSo_113 ?_
                      refine jv_iadd hx hb dL_isGridSo_114 ?_
                      refine kS ⟨hx, hb, hml, hown, hts⟩ hK hA hS hP hD [.int (jz (r_28 + 1)), .int (jz (r_30 + 1)), .int (jz (r_32 + 1))] [] (mL_least l G (r_28 + 1) (r_30 + 1) (r_32 + 1) (by omega) (by omega) (by omega)) lkL_55 [] [0, 1, 2, 3, 4] (br := [bGrid G di db u_31, bBD G x st sv bu di se wy ta tt rp, bState G st t0 t1 al, bText G t0 a0 n0 g0, bText G t1 a1 n1 g1]) rfl rfl (by decide) rfl rfl (Nat.le_of_ble_eq_true rfl) hl.1 dL_isGridSo_115 ⟨Nat.le_of_ble_eq_true rfl, Nat.le_of_ble_eq_true rfl⟩ ⟨Nat.le_of_ble_eq_true rfl, Nat.le_of_ble_eq_true rfl⟩ (fun u9 H locs hp9 hP hD hS => ?_)
                      have hP : wP G [bGrid G di db u_31, bBD G x st sv bu di se wy ta tt rp, bState G st t0 t1 al, bText G t0 a0 n0 g0, bText G t1 a1 n1 g1] H := hP
                      have hD : wD A [bGrid G di db u_31, bBD G x st sv bu di se wy ta tt rp, bState G st t0 t1 al, bText G t0 a0 n0 g0, bText G t1 a1 n1 g1] := hD
                      show W p l e rmL_isGridSo s m args below meth c H locs 0 0 Q (F0 m 118 ls [.int (jz (min (min (r_28 + 1) (r_30 + 1)) (r_32 + 1)))])
                      refine jv_top (fun r_37 er_37 => ?_)
                      have hDs := D_s 1 g0 g1 (i := i) (j := j) (by omega) (by omega)
                      exact K118 u_31 r_37 (by omega) H _ _ (wP_sub (bc := [bBD G x st sv bu di se wy ta tt rp, bState G st t0 t1 al, bText G t0 a0 n0 g0, bText G t1 a1 n1 g1, bGrid G di db u_31]) hP [1, 2, 3, 4, 0] rfl) (wD_sub (bc := [bBD G x st sv bu di se wy ta tt rp, bState G st t0 t1 al, bText G t0 a0 n0 g0, bText G t1 a1 n1 g1, bGrid G di db u_31]) hD [1, 2, 3, 4, 0] (by decide) rfl) hS (lv_sub hl [0, 1, 2, 3, 4, 5] rfl)
                    · have hcs := cst_e c_35
                      refine jv_iconst hx hb dL_isGridSo_109 ?_
                      refine lv_goto (tgt := 114) hx hb dL_isGridSo_110 (by decide) ?_
                      refine jv_iadd hx hb dL_isGridSo_114 ?_
                      refine kS ⟨hx, hb, hml, hown, hts⟩ hK hA hS hP hD [.int (jz (r_28 + 1)), .int (jz (r_30 + 1)), .int (jz (r_32 + 0))] [] (mL_least l G (r_28 + 1) (r_30 + 1) (r_32 + 0) (by omega) (by omega) (by omega)) lkL_55 [] [0, 1, 2, 3, 4] (br := [bGrid G di db u_31, bBD G x st sv bu di se wy ta tt rp, bState G st t0 t1 al, bText G t0 a0 n0 g0, bText G t1 a1 n1 g1]) rfl rfl (by decide) rfl rfl (Nat.le_of_ble_eq_true rfl) hl.1 dL_isGridSo_115 ⟨Nat.le_of_ble_eq_true rfl, Nat.le_of_ble_eq_true rfl⟩ ⟨Nat.le_of_ble_eq_true rfl, Nat.le_of_ble_eq_true rfl⟩ (fun u9 H locs hp9 hP hD hS => ?_)
                      have hP : wP G [bGrid G di db u_31, bBD G x st sv bu di se wy ta tt rp, bState G st t0 t1 al, bText G t0 a0 n0 g0, bText G t1 a1 n1 g1] H := hP
                      have hD : wD A [bGrid G di db u_31, bBD G x st sv bu di se wy ta tt rp, bState G st t0 t1 al, bText G t0 a0 n0 g0, bText G t1 a1 n1 g1] := hD
                      show W p l e rmL_isGridSo s m args below meth c H locs 0 0 Q (F0 m 118 ls [.int (jz (min (min (r_28 + 1) (r_30 + 1)) (r_32 + 0)))])
                      refine jv_top (fun r_39 er_39 => ?_)
                      have hDs := D_s 1 g0 g1 (i := i) (j := j) (by omega) (by omega)
                      exact K118 u_31 r_39 (by omega) H _ _ (wP_sub (bc := [bBD G x st sv bu di se wy ta tt rp, bState G st t0 t1 al, bText G t0 a0 n0 g0, bText G t1 a1 n1 g1, bGrid G di db u_31]) hP [1, 2, 3, 4, 0] rfl) (wD_sub (bc := [bBD G x st sv bu di se wy ta tt rp, bState G st t0 t1 al, bText G t0 a0 n0 g0, bText G t1 a1 n1 g1, bGrid G di db u_31]) hD [1, 2, 3, 4, 0] (by decide) rfl) hS (lv_sub hl [0, 1, 2, 3, 4, 5] rfl)
                  · refine lv_iload hx hb dL_isGridSo_47 (lv_at hl 4 rfl) ?_
                    refine lv_goto (tgt := 118) hx hb dL_isGridSo_49 (by decide) ?_
                    exact K118 h2 i (by rw [D_l 1 g0 g1 (by omega) (by omega)]; omega) H _ _ hP hD hS (lv_sub hl [0, 1, 2, 3, 4, 5] rfl)
                · refine lv_iload hx hb dL_isGridSo_37 (lv_at hl 5 rfl) ?_
                  refine lv_goto (tgt := 118) hx hb dL_isGridSo_39 (by decide) ?_
                  exact K118 h2 j (by exact (D_0 1 g0 g1 (by omega) (by omega)).symm) H _ _ hP hD hS (lv_sub hl [0, 1, 2, 3, 4, 5] rfl)
          exact K26 (((n1 + 1 - 0).toNat) + 1) h1 0 (Nat.lt_succ_self _) (by omega) H _ _ hP hD hS (lv_sub hl [1, 2, 3, 4, 5, 0] rfl)
    exact K17 (((n0 + 1 - 0).toNat) + 1) dh 0 (Nat.lt_succ_self _) (by omega) H _ _ (wP_sub (bc := [bBD G x st sv bu di se wy ta tt rp, bState G st t0 t1 al, bText G t0 a0 n0 g0, bText G t1 a1 n1 g1, bGrid G di db dh]) hP [1, 2, 3, 4, 0] rfl) (wD_sub (bc := [bBD G x st sv bu di se wy ta tt rp, bState G st t0 t1 al, bText G t0 a0 n0 g0, bText G t1 a1 n1 g1, bGrid G di db dh]) hD [1, 2, 3, 4, 0] (by decide) rfl) hS (lv_sub hl [4, 3, 2, 1, 0] rfl)
  exact KH s.heap [] hP hD hS
abbrev rmL_isWaySo : Room := { frames := 6, cells := 1, slots := 4, locals := 134 }
set_option maxHeartbeats 4000000 in
set_option maxRecDepth 100000 in
theorem mL_isWaySo (l : Launch) (G : GG) (x : Nat) (st : Nat) (sv : Nat) (bu : Nat) (di : Nat) (se : Nat) (wy : Nat) (ta : Nat) (tt : Nat) (rp : Nat) (t0 : Nat) (t1 : Nat) (al : Int) (a0 : Nat) (n0 : Int) (g0 : Int → Int) (a1 : Nat) (n1 : Int) (g1 : Int → Int) (db : Nat) (dh : Int → Int) (wv : Nat) (wk : Int) (wh : Int → Int) (hn0 : 0 ≤ n0 ∧ n0 ≤ 20) (hn1 : 0 ≤ n1 ∧ n1 ≤ 20) (hg0 : ∀ j : Int, 0 ≤ j → j < n0 → 0 ≤ g0 j ∧ g0 j < 4) (hg1 : ∀ j : Int, 0 ≤ j → j < n1 → 0 ≤ g1 j ∧ g1 j < 4) : Ct l yL_isWaySo cL_isWaySo 9 (some .boolean) rmL_isWaySo G [.ref x] [bBD G x st sv bu di se wy ta tt rp, bState G st t0 t1 al, bText G t0 a0 n0 g0, bText G t1 a1 n1 g1, bGrid G di db dh, bWay G wy wv wk wh] (fun uo : (Int → Int) × (Int → Int) => some (.int (jz 1))) (fun uo => True) (fun uo => [bBD G x st sv bu di se wy ta tt rp, bState G st t0 t1 al, bText G t0 a0 n0 g0, bText G t1 a1 n1 g1, bGrid G di db uo.1, bWay G wy wv (wL g0 g1 n0 n1) uo.2]) := by
  refine cof (by decide) (Nat.le_of_ble_eq_true rfl) ?_
  intro p e s m args below meth c A ls hx hb hr hml hown hts hlocks hin hA hK hP hD hS hl Q hQ
  have hown : s.vm.findClass RL = some m.cls := hown
  have hl : lv_has ls 9 [(0, .ref x)] := hl
  have KH : ∀ (H : Heap) (locs : List Loc), wP G [bBD G x st sv bu di se wy ta tt rp, bState G st t0 t1 al, bText G t0 a0 n0 g0, bText G t1 a1 n1 g1, bGrid G di db dh, bWay G wy wv wk wh] H → wD A [bBD G x st sv bu di se wy ta tt rp, bState G st t0 t1 al, bText G t0 a0 n0 g0, bText G t1 a1 n1 g1, bGrid G di db dh, bWay G wy wv wk wh] → va_S A s.heap H locs → W p l e rmL_isWaySo s m args below meth c H locs 0 0 Q (F0 m 0 ls []) := by
    intro H locs hP hD hS
    have hwl := wL_bd g0 g1 hn0 hn1
    have hdb0 := D_bd (c := 1) (Or.inr rfl) g0 g1 (i := n0) (j := n1) (by omega) (by omega)
    refine lv_aload_n hx hb dL_isWaySo_0 rfl (lv_at hl 0 rfl) ?_
    refine jv_iconst hx hb dL_isWaySo_1 ?_
    refine kV ⟨hx, hb, hml, hown, hts⟩ hK hA hS hP hD [.int (jz 0)] [] (mX8_length_0 l G x st sv bu di se wy ta tt rp t0 t1 al a0 n0 g0 a1 n1 g1 0 (by omega)) lkL_8 [0, 1, 2, 3] [4, 5] (br := [bGrid G di db dh, bWay G wy wv wk wh]) rfl rfl (by decide) 0 8 rfl rfl rfl rfl (Nat.le_of_ble_eq_true rfl) hl.1 dL_isWaySo_2 ⟨Nat.le_of_ble_eq_true rfl, Nat.le_of_ble_eq_true rfl⟩ ⟨Nat.le_of_ble_eq_true rfl, Nat.le_of_ble_eq_true rfl⟩ (fun u9 H locs hp9 hP hD hS => ?_)
    have hP : wP G [bGrid G di db dh, bWay G wy wv wk wh, bBD G x st sv bu di se wy ta tt rp, bState G st t0 t1 al, bText G t0 a0 n0 g0, bText G t1 a1 n1 g1] H := hP
    have hD : wD A [bGrid G di db dh, bWay G wy wv wk wh, bBD G x st sv bu di se wy ta tt rp, bState G st t0 t1 al, bText G t0 a0 n0 g0, bText G t1 a1 n1 g1] := hD
    show W p l e rmL_isWaySo s m args below meth c H locs 0 0 Q (F0 m 5 ls [.int (jz n0)])
    refine lv_istore_n (lv' := [(1, .int (jz n0)), (0, .ref x)]) hx hb dL_isWaySo_5 rfl hl (by decide) rfl (fun ls hl => ?_)
    refine lv_aload_n hx hb dL_isWaySo_6 rfl (lv_at hl 1 rfl) ?_
    refine jv_iconst hx hb dL_isWaySo_7 ?_
    refine kV ⟨hx, hb, hml, hown, hts⟩ hK hA hS hP hD [.int (jz 1)] [] (mX8_length_1 l G x st sv bu di se wy ta tt rp t0 t1 al a0 n0 g0 a1 n1 g1 1 (by omega)) lkL_8 [2, 3, 4, 5] [0, 1] (br := [bGrid G di db dh, bWay G wy wv wk wh]) rfl rfl (by decide) 0 8 rfl rfl rfl rfl (Nat.le_of_ble_eq_true rfl) hl.1 dL_isWaySo_8 ⟨Nat.le_of_ble_eq_true rfl, Nat.le_of_ble_eq_true rfl⟩ ⟨Nat.le_of_ble_eq_true rfl, Nat.le_of_ble_eq_true rfl⟩ (fun u9 H locs hp9 hP hD hS => ?_)
    have hP : wP G [bGrid G di db dh, bWay G wy wv wk wh, bBD G x st sv bu di se wy ta tt rp, bState G st t0 t1 al, bText G t0 a0 n0 g0, bText G t1 a1 n1 g1] H := hP
    have hD : wD A [bGrid G di db dh, bWay G wy wv wk wh, bBD G x st sv bu di se wy ta tt rp, bState G st t0 t1 al, bText G t0 a0 n0 g0, bText G t1 a1 n1 g1] := hD
    show W p l e rmL_isWaySo s m args below meth c H locs 0 0 Q (F0 m 11 ls [.int (jz n1)])
    refine lv_istore_n (lv' := [(2, .int (jz n1)), (1, .int (jz n0)), (0, .ref x)]) hx hb dL_isWaySo_11 rfl hl (by decide) rfl (fun ls hl => ?_)
    refine jv_iconst hx hb dL_isWaySo_12 ?_
    refine jv_newi hx hb hts hK.1 hP hD hS hA 4 rfl (by decide) (Nat.le_of_ble_eq_true rfl) (Nat.le_of_ble_eq_true rfl) wm55 dL_isWaySo_13 (fun q_3 H hP hD hS => ?_)
    have hP : wP G [bGrid G di db dh, bWay G wy wv wk wh, bBD G x st sv bu di se wy ta tt rp, bState G st t0 t1 al, bText G t0 a0 n0 g0, bText G t1 a1 n1 g1, [(q_3, ja G 4 ((fun _ => 0)))]] H := hP
    have hD : wD A [bGrid G di db dh, bWay G wy wv wk wh, bBD G x st sv bu di se wy ta tt rp, bState G st t0 t1 al, bText G t0 a0 n0 g0, bText G t1 a1 n1 g1, [(q_3, ja G 4 ((fun _ => 0)))]] := hD
    show W p l e rmL_isWaySo s m args below meth c H locs 1 4 Q (F0 m 15 ls [.ref q_3])
    have hP : wP G [bGrid G di db dh, bWay G wy wv wk wh, bBD G x st sv bu di se wy ta tt rp, bState G st t0 t1 al, bText G t0 a0 n0 g0, bText G t1 a1 n1 g1, bFour G q_3 ((fun _ => 0))] H := hP
    have hD : wD A [bGrid G di db dh, bWay G wy wv wk wh, bBD G x st sv bu di se wy ta tt rp, bState G st t0 t1 al, bText G t0 a0 n0 g0, bText G t1 a1 n1 g1, bFour G q_3 ((fun _ => 0))] := hD
    refine lv_astore_n (lv' := [(3, .ref q_3), (2, .int (jz n1)), (1, .int (jz n0)), (0, .ref x)]) hx hb dL_isWaySo_15 rfl hl (by decide) rfl (fun ls hl => ?_)
    refine jv_iconst hx hb dL_isWaySo_16 ?_
    refine lv_istore (lv' := [(4, .int (jz 1)), (3, .ref q_3), (2, .int (jz n1)), (1, .int (jz n0)), (0, .ref x)]) hx hb dL_isWaySo_17 hl (by decide) rfl (fun ls hl => ?_)
    refine lv_aload_n hx hb dL_isWaySo_19 rfl (lv_at hl 4 rfl) ?_
    refine kV ⟨hx, hb, hml, hown, hts⟩ hK hA hS hP hD [] [] (mX8_steps l G x st sv bu di se wy ta tt rp t0 t1 al a0 n0 g0 a1 n1 g1 db dh wv wk wh (by omega) (by omega) (by exact hg0) (by exact hg1)) lkL_64 [2, 3, 4, 5, 0, 1] [6] (br := [bFour G q_3 ((fun _ => 0))]) rfl rfl (by decide) 0 8 rfl rfl rfl rfl (Nat.le_of_ble_eq_true rfl) hl.1 dL_isWaySo_20 ⟨Nat.le_of_ble_eq_true rfl, Nat.le_of_ble_eq_true rfl⟩ ⟨Nat.le_of_ble_eq_true rfl, Nat.le_of_ble_eq_true rfl⟩ (fun u9 H locs hp9 hP hD hS => ?_)
    obtain ⟨u_4, u_5⟩ := u9
    have hc_6 : ∀ x8 : Int, 0 ≤ x8 → x8 < wL g0 g1 n0 n1 → u_5 x8 = wA g0 g1 n0 n1 x8 := hp9
    have hP : wP G [bFour G q_3 ((fun _ => 0)), bBD G x st sv bu di se wy ta tt rp, bState G st t0 t1 al, bText G t0 a0 n0 g0, bText G t1 a1 n1 g1, bGrid G di db u_4, bWay G wy wv (wL g0 g1 n0 n1) u_5] H := hP
    have hD : wD A [bFour G q_3 ((fun _ => 0)), bBD G x st sv bu di se wy ta tt rp, bState G st t0 t1 al, bText G t0 a0 n0 g0, bText G t1 a1 n1 g1, bGrid G di db u_4, bWay G wy wv (wL g0 g1 n0 n1) u_5] := hD
    show W p l e rmL_isWaySo s m args below meth c H locs 1 4 Q (F0 m 23 ls [.int (jz (wL g0 g1 n0 n1))])
    refine jv_iconst hx hb dL_isWaySo_23 ?_
    refine jv_isub hx hb dL_isWaySo_24 ?_
    refine lv_istore (lv' := [(5, .int (jz ((wL g0 g1 n0 n1) - 1))), (4, .int (jz 1)), (3, .ref q_3), (2, .int (jz n1)), (1, .int (jz n0)), (0, .ref x)]) hx hb dL_isWaySo_25 hl (by decide) rfl (fun ls hl => ?_)
    have K27 : ∀ (n9 : Nat) (qf : Nat) (h1 : Int → Int) (f1 : Int → Int) (cc : Int → Int) (i : Int) (j : Int) (k : Int) , ((k + 1).toNat) < n9 → (-1 ≤ k ∧ k < wL g0 g1 n0 n1) → (wQ g0 g1 n0 n1 (wL g0 g1 n0 n1 - 1 - k) i j cc) → ∀ (H : Heap) (locs : List Loc) (ls : Array Slot), wP G [bBD G x st sv bu di se wy ta tt rp, bState G st t0 t1 al, bText G t0 a0 n0 g0, bText G t1 a1 n1 g1, bGrid G di db h1, bWay G wy wv (wL g0 g1 n0 n1) f1, bFour G qf cc] H → wD A [bBD G x st sv bu di se wy ta tt rp, bState G st t0 t1 al, bText G t0 a0 n0 g0, bText G t1 a1 n1 g1, bGrid G di db h1, bWay G wy wv (wL g0 g1 n0 n1) f1, bFour G qf cc] → va_S A s.heap H locs → lv_has ls 9 [(0, .ref x), (1, .int (jz i)), (2, .int (jz j)), (3, .ref qf), (4, .int (jz 1)), (5, .int (jz k))] → W p l e rmL_isWaySo s m args below meth c H locs 1 4 Q (F0 m 27 ls []) := by
      intro n9
      induction n9 with
      | zero => intro qf h1 f1 cc i j k hm9; exact absurd hm9 (Nat.not_lt_zero _)
      | succ n9 ih27 =>
        intro qf h1 f1 cc i j k hm9 hk hQw H locs ls hP hD hS hl
        have hb9 := wQ_bd hQw hn0 hn1
        refine lv_iload hx hb dL_isWaySo_27 (lv_at hl 5 rfl) ?_
        refine jv_if_lt (tgt := 213) hx hb dL_isWaySo_29 (by decide) (by omega) (fun c_7 => ?_) (fun c_7 => ?_)
        · have hE : wQ g0 g1 n0 n1 (wL g0 g1 n0 n1) i j cc := by rw [show wL g0 g1 n0 n1 - 1 - k = wL g0 g1 n0 n1 by omega] at hQw; exact hQw
          have hz9 := wInv_fin hE.1
          have hD0 := D_0 1 g0 g1 (i := i) (j := j) (by omega) (by omega)
          refine jv_iconst hx hb dL_isWaySo_213 ?_
          refine lv_istore (lv' := [(5, .int (jz 0)), (0, .ref x), (1, .int (jz i)), (2, .int (jz j)), (3, .ref qf), (4, .int (jz 1))]) hx hb dL_isWaySo_214 hl (by decide) rfl (fun ls hl => ?_)
          have K216 : ∀ (n9 : Nat) (h4 : Int → Int) (f4 : Int → Int) (k2 : Int) , (((4 : Int) - k2).toNat) < n9 → (0 ≤ k2 ∧ k2 ≤ 4) → ∀ (H : Heap) (locs : List Loc) (ls : Array Slot), wP G [bBD G x st sv bu di se wy ta tt rp, bState G st t0 t1 al, bText G t0 a0 n0 g0, bText G t1 a1 n1 g1, bGrid G di db h4, bWay G wy wv (wL g0 g1 n0 n1) f4, bFour G qf cc] H → wD A [bBD G x st sv bu di se wy ta tt rp, bState G st t0 t1 al, bText G t0 a0 n0 g0, bText G t1 a1 n1 g1, bGrid G di db h4, bWay G wy wv (wL g0 g1 n0 n1) f4, bFour G qf cc] → va_S A s.heap H locs → lv_has ls 9 [(0, .ref x), (1, .int (jz i)), (2, .int (jz j)), (3, .ref qf), (4, .int (jz 1)), (5, .int (jz k2))] → W p l e rmL_isWaySo s m args below meth c H locs 1 4 Q (F0 m 216 ls []) := by
            intro n9
            induction n9 with
            | zero => intro h4 f4 k2 hm9; exact absurd hm9 (Nat.not_lt_zero _)
            | succ n9 ih216 =>
              intro h4 f4 k2 hm9 hk2 H locs ls hP hD hS hl
              refine lv_iload hx hb dL_isWaySo_216 (lv_at hl 5 rfl) ?_
              refine jv_iconst hx hb dL_isWaySo_218 ?_
              refine jv_icmp_ge (tgt := 253) hx hb dL_isWaySo_219 (by decide) (by omega) (by omega) (fun c_8 => ?_) (fun c_8 => ?_)
              · have hc1 := wQ_c hE (x := 1) (by omega) (by omega)
                have hc2 := wQ_c hE (x := 2) (by omega) (by omega)
                have hc3 := wQ_c hE (x := 3) (by omega) (by omega)
                have hE3 := hE.2.2
                refine lv_iload hx hb dL_isWaySo_253 (lv_at hl 4 rfl) ?_
                refine jv_if_eq (tgt := 300) hx hb dL_isWaySo_255 (by decide) (by omega) (fun c_9 => ?_) (fun c_9 => ?_)
                · exfalso; omega
                · refine lv_iload_n hx hb dL_isWaySo_258 rfl (lv_at hl 1 rfl) ?_
                  refine jv_if_ne (tgt := 300) hx hb dL_isWaySo_259 (by decide) (by omega) (fun c_10 => ?_) (fun c_10 => ?_)
                  · exfalso; omega
                  · refine lv_iload_n hx hb dL_isWaySo_262 rfl (lv_at hl 2 rfl) ?_
                    refine jv_if_ne (tgt := 300) hx hb dL_isWaySo_263 (by decide) (by omega) (fun c_11 => ?_) (fun c_11 => ?_)
                    · exfalso; omega
                    · refine lv_aload_n hx hb dL_isWaySo_266 rfl (lv_at hl 0 rfl) ?_
                      refine kV ⟨hx, hb, hml, hown, hts⟩ hK hA hS hP hD [] [] (mX8_distance l G x st sv bu di se wy ta tt rp t0 t1 al a0 n0 g0 a1 n1 g1 db h4 (by omega) (by omega) (by exact hg0) (by exact hg1)) lkL_61 [0, 1, 2, 3, 4] [5, 6] (br := [bWay G wy wv (wL g0 g1 n0 n1) f4, bFour G qf cc]) rfl rfl (by decide) 0 8 rfl rfl rfl rfl (Nat.le_of_ble_eq_true rfl) hl.1 dL_isWaySo_267 ⟨Nat.le_of_ble_eq_true rfl, Nat.le_of_ble_eq_true rfl⟩ ⟨Nat.le_of_ble_eq_true rfl, Nat.le_of_ble_eq_true rfl⟩ (fun u9 H locs hp9 hP hD hS => ?_)
                      obtain ⟨u_12, rfl⟩ : ∃ z, z = u9 := ⟨_, rfl⟩
                      have hP : wP G [bWay G wy wv (wL g0 g1 n0 n1) f4, bFour G qf cc, bBD G x st sv bu di se wy ta tt rp, bState G st t0 t1 al, bText G t0 a0 n0 g0, bText G t1 a1 n1 g1, bGrid G di db u_12] H := hP
                      have hD : wD A [bWay G wy wv (wL g0 g1 n0 n1) f4, bFour G qf cc, bBD G x st sv bu di se wy ta tt rp, bState G st t0 t1 al, bText G t0 a0 n0 g0, bText G t1 a1 n1 g1, bGrid G di db u_12] := hD
                      show W p l e rmL_isWaySo s m args below meth c H locs 1 4 Q (F0 m 270 ls [.int (jz (D 1 g0 g1 n0 n1))])
                      refine lv_aload_n hx hb dL_isWaySo_270 rfl (lv_at hl 3 rfl) ?_
                      refine jv_iconst hx hb dL_isWaySo_271 ?_
                      refine jv_iald hx hb hK.1 hP 2 (g := cc) rfl (by omega) (by omega) (by decide) dL_isWaySo_272 ?_
                      refine lv_aload_n hx hb dL_isWaySo_273 rfl (lv_at hl 3 rfl) ?_
                      refine jv_iconst hx hb dL_isWaySo_274 ?_
                      refine jv_iald hx hb hK.1 hP 2 (g := cc) rfl (by omega) (by omega) (by decide) dL_isWaySo_275 ?_
                      refine jv_iadd hx hb dL_isWaySo_276 ?_
                      refine lv_aload_n hx hb dL_isWaySo_277 rfl (lv_at hl 3 rfl) ?_
                      refine jv_iconst hx hb dL_isWaySo_278 ?_
                      refine jv_iald hx hb hK.1 hP 2 (g := cc) rfl (by omega) (by omega) (by decide) dL_isWaySo_279 ?_
                      refine jv_iadd hx hb dL_isWaySo_280 ?_
                      refine jv_icmp_ne (tgt := 300) hx hb dL_isWaySo_281 (by decide) (by omega) (by omega) (fun c_13 => ?_) (fun c_13 => ?_)
                      · exfalso; omega
                      · refine lv_aload_n hx hb dL_isWaySo_284 rfl (lv_at hl 0 rfl) ?_
                        refine lv_aload_n hx hb dL_isWaySo_285 rfl (lv_at hl 0 rfl) ?_
                        refine kV ⟨hx, hb, hml, hown, hts⟩ hK hA hS hP hD [] [.ref x] (mX8_steps l G x st sv bu di se wy ta tt rp t0 t1 al a0 n0 g0 a1 n1 g1 db u_12 wv (wL g0 g1 n0 n1) f4 (by omega) (by omega) (by exact hg0) (by exact hg1)) lkL_64 [2, 3, 4, 5, 6, 0] [1] (br := [bFour G qf cc]) rfl rfl (by decide) 0 8 rfl rfl rfl rfl (Nat.le_of_ble_eq_true rfl) hl.1 dL_isWaySo_286 ⟨Nat.le_of_ble_eq_true rfl, Nat.le_of_ble_eq_true rfl⟩ ⟨Nat.le_of_ble_eq_true rfl, Nat.le_of_ble_eq_true rfl⟩ (fun u9 H locs hp9 hP hD hS => ?_)
                        obtain ⟨u_14, u_15⟩ := u9
                        have hc_16 : ∀ x8 : Int, 0 ≤ x8 → x8 < wL g0 g1 n0 n1 → u_15 x8 = wA g0 g1 n0 n1 x8 := hp9
                        have hP : wP G [bFour G qf cc, bBD G x st sv bu di se wy ta tt rp, bState G st t0 t1 al, bText G t0 a0 n0 g0, bText G t1 a1 n1 g1, bGrid G di db u_14, bWay G wy wv (wL g0 g1 n0 n1) u_15] H := hP
                        have hD : wD A [bFour G qf cc, bBD G x st sv bu di se wy ta tt rp, bState G st t0 t1 al, bText G t0 a0 n0 g0, bText G t1 a1 n1 g1, bGrid G di db u_14, bWay G wy wv (wL g0 g1 n0 n1) u_15] := hD
                        show W p l e rmL_isWaySo s m args below meth c H locs 1 4 Q (F0 m 289 ls [.int (jz (wL g0 g1 n0 n1)), .ref x])
                        refine kV ⟨hx, hb, hml, hown, hts⟩ hK hA hS hP hD [.int (jz (wL g0 g1 n0 n1))] [] (mX8_step_k l G x st sv bu di se wy ta tt rp t0 t1 al a0 n0 g0 a1 n1 g1 db u_14 wv (wL g0 g1 n0 n1) u_15 (wL g0 g1 n0 n1) (by omega) (by omega) (by exact hg0) (by exact hg1) (by omega) (by omega)) lkL_67 [1, 2, 3, 4, 5, 6] [0] (br := [bFour G qf cc]) rfl rfl (by decide) 0 8 rfl rfl rfl rfl (Nat.le_of_ble_eq_true rfl) hl.1 dL_isWaySo_289 ⟨Nat.le_of_ble_eq_true rfl, Nat.le_of_ble_eq_true rfl⟩ ⟨Nat.le_of_ble_eq_true rfl, Nat.le_of_ble_eq_true rfl⟩ (fun u9 H locs hp9 hP hD hS => ?_)
                        obtain ⟨u_17, u_18⟩ := u9
                        have hP : wP G [bFour G qf cc, bBD G x st sv bu di se wy ta tt rp, bState G st t0 t1 al, bText G t0 a0 n0 g0, bText G t1 a1 n1 g1, bGrid G di db u_17, bWay G wy wv (wL g0 g1 n0 n1) u_18] H := hP
                        have hD : wD A [bFour G qf cc, bBD G x st sv bu di se wy ta tt rp, bState G st t0 t1 al, bText G t0 a0 n0 g0, bText G t1 a1 n1 g1, bGrid G di db u_17, bWay G wy wv (wL g0 g1 n0 n1) u_18] := hD
                        show W p l e rmL_isWaySo s m args below meth c H locs 1 4 Q (F0 m 292 ls [.int (jz (if (wL g0 g1 n0 n1) < wL g0 g1 n0 n1 then wA g0 g1 n0 n1 (wL g0 g1 n0 n1 - 1 - (wL g0 g1 n0 n1)) else -1))])
                        refine jv_to (z' := -1) (by rw [if_neg (by omega)]) ?_
                        refine jv_iconst hx hb dL_isWaySo_292 ?_
                        refine jv_icmp_ne (tgt := 300) hx hb dL_isWaySo_293 (by decide) (by omega) (by omega) (fun c_19 => ?_) (fun c_19 => ?_)
                        · exfalso; omega
                        · refine jv_iconst hx hb dL_isWaySo_296 ?_
                          refine lv_goto (tgt := 301) hx hb dL_isWaySo_297 (by decide) ?_
                          exact cret_i hx hb hr hlocks hS hP hD (Nat.le_of_ble_eq_true rfl) (Nat.le_of_ble_eq_true rfl) (jz_nb (show 1 = 0 ∨ 1 = 1 by omega)) dL_isWaySo_301 [1, 2, 3, 4, 5, 6] (by decide) ⟨u_17, u_18⟩ rfl trivial (congrArg (fun z : Int => some (Value.int (jz z))) (show 1 = 1 from by first | rfl | omega | (split <;> first | rfl | omega | (exfalso; omega)))) hQ
              · have hc9 := hE.2.1 k2 (by omega) (by omega)
                have hcb := wQ_c hE (x := k2) (by omega) (by omega)
                refine lv_iload hx hb dL_isWaySo_222 (lv_at hl 4 rfl) ?_
                refine jv_if_eq (tgt := 244) hx hb dL_isWaySo_224 (by decide) (by omega) (fun c_20 => ?_) (fun c_20 => ?_)
                · exfalso; omega
                · refine lv_aload_n hx hb dL_isWaySo_227 rfl (lv_at hl 0 rfl) ?_
                  refine lv_iload hx hb dL_isWaySo_228 (lv_at hl 5 rfl) ?_
                  refine kV ⟨hx, hb, hml, hown, hts⟩ hK hA hS hP hD [.int (jz k2)] [] (mX8_count_k l G x st sv bu di se wy ta tt rp t0 t1 al a0 n0 g0 a1 n1 g1 db h4 wv (wL g0 g1 n0 n1) f4 k2 (by omega) (by omega) (by exact hg0) (by exact hg1) (by omega) (by omega)) lkL_70 [0, 1, 2, 3, 4, 5] [6] (br := [bFour G qf cc]) rfl rfl (by decide) 0 8 rfl rfl rfl rfl (Nat.le_of_ble_eq_true rfl) hl.1 dL_isWaySo_230 ⟨Nat.le_of_ble_eq_true rfl, Nat.le_of_ble_eq_true rfl⟩ ⟨Nat.le_of_ble_eq_true rfl, Nat.le_of_ble_eq_true rfl⟩ (fun u9 H locs hp9 hP hD hS => ?_)
                  obtain ⟨u_21, u_22⟩ := u9
                  have hP : wP G [bFour G qf cc, bBD G x st sv bu di se wy ta tt rp, bState G st t0 t1 al, bText G t0 a0 n0 g0, bText G t1 a1 n1 g1, bGrid G di db u_21, bWay G wy wv (wL g0 g1 n0 n1) u_22] H := hP
                  have hD : wD A [bFour G qf cc, bBD G x st sv bu di se wy ta tt rp, bState G st t0 t1 al, bText G t0 a0 n0 g0, bText G t1 a1 n1 g1, bGrid G di db u_21, bWay G wy wv (wL g0 g1 n0 n1) u_22] := hD
                  show W p l e rmL_isWaySo s m args below meth c H locs 1 4 Q (F0 m 233 ls [.int (jz (cnt (wA g0 g1 n0 n1) k2 (wL g0 g1 n0 n1)))])
                  refine lv_aload_n hx hb dL_isWaySo_233 rfl (lv_at hl 3 rfl) ?_
                  refine lv_iload hx hb dL_isWaySo_234 (lv_at hl 5 rfl) ?_
                  refine jv_iald hx hb hK.1 hP 0 (g := cc) rfl (by omega) (by omega) (by decide) dL_isWaySo_236 ?_
                  refine jv_icmp_ne (tgt := 244) hx hb dL_isWaySo_237 (by decide) (by omega) (by omega) (fun c_23 => ?_) (fun c_23 => ?_)
                  · exfalso; omega
                  · refine jv_iconst hx hb dL_isWaySo_240 ?_
                    refine lv_goto (tgt := 245) hx hb dL_isWaySo_241 (by decide) ?_
                    refine lv_istore (lv' := [(4, .int (jz 1)), (0, .ref x), (1, .int (jz i)), (2, .int (jz j)), (3, .ref qf), (5, .int (jz k2))]) hx hb dL_isWaySo_245 hl (by decide) rfl (fun ls hl => ?_)
                    refine jv_iinc (lv' := [(5, .int (jz (k2 + 1))), (4, .int (jz 1)), (0, .ref x), (1, .int (jz i)), (2, .int (jz j)), (3, .ref qf)]) (k := 5) hx hb dL_isWaySo_247 hl rfl (by decide) rfl (fun ls hl => ?_)
                    refine lv_goto (tgt := 216) hx hb dL_isWaySo_250 (by decide) ?_
                    exact ih216 u_21 u_22 (k2 + 1) (by omega) (by omega) H _ _ (wP_sub (bc := [bBD G x st sv bu di se wy ta tt rp, bState G st t0 t1 al, bText G t0 a0 n0 g0, bText G t1 a1 n1 g1, bGrid G di db u_21, bWay G wy wv (wL g0 g1 n0 n1) u_22, bFour G qf cc]) hP [1, 2, 3, 4, 5, 6, 0] rfl) (wD_sub (bc := [bBD G x st sv bu di se wy ta tt rp, bState G st t0 t1 al, bText G t0 a0 n0 g0, bText G t1 a1 n1 g1, bGrid G di db u_21, bWay G wy wv (wL g0 g1 n0 n1) u_22, bFour G qf cc]) hD [1, 2, 3, 4, 5, 6, 0] (by decide) rfl) hS (lv_sub hl [2, 3, 4, 5, 1, 0] rfl)
          exact K216 ((((4 : Int) - 0).toNat) + 1) h1 f1 0 (Nat.lt_succ_self _) (by omega) H _ _ hP hD hS (lv_sub hl [1, 2, 3, 4, 5, 0] rfl)
        · have hs9 := wQ_s hQw (by omega)
          rw [show wL g0 g1 n0 n1 - 1 - k = wL g0 g1 n0 n1 - 1 - k from rfl] at hs9
          have hg9 := wInv_go hQw.1 (show wL g0 g1 n0 n1 - 1 - k < wL g0 g1 n0 n1 by omega)
          have hst := stp_bd (a := g0) (b := g1) (show 0 ≤ i by omega) (show 0 ≤ j by omega) hg9
          have hdb := D_bd (c := 1) (Or.inr rfl) g0 g1 (i := i) (j := j) (by omega) (by omega)
          refine lv_aload_n hx hb dL_isWaySo_32 rfl (lv_at hl 0 rfl) ?_
          refine lv_iload_n hx hb dL_isWaySo_33 rfl (lv_at hl 1 rfl) ?_
          refine lv_iload_n hx hb dL_isWaySo_34 rfl (lv_at hl 2 rfl) ?_
          refine kV ⟨hx, hb, hml, hown, hts⟩ hK hA hS hP hD [.int (jz i), .int (jz j)] [] (mX8_prefix_k l G x st sv bu di se wy ta tt rp t0 t1 al a0 n0 g0 a1 n1 g1 db h1 i j (by omega) (by omega) (by exact hg0) (by exact hg1) (by omega) (by omega) (by omega)) lkL_49 [0, 1, 2, 3, 4] [5, 6] (br := [bWay G wy wv (wL g0 g1 n0 n1) f1, bFour G qf cc]) rfl rfl (by decide) 0 8 rfl rfl rfl rfl (Nat.le_of_ble_eq_true rfl) hl.1 dL_isWaySo_35 ⟨Nat.le_of_ble_eq_true rfl, Nat.le_of_ble_eq_true rfl⟩ ⟨Nat.le_of_ble_eq_true rfl, Nat.le_of_ble_eq_true rfl⟩ (fun u9 H locs hp9 hP hD hS => ?_)
          obtain ⟨u_24, rfl⟩ : ∃ z, z = u9 := ⟨_, rfl⟩
          have hP : wP G [bWay G wy wv (wL g0 g1 n0 n1) f1, bFour G qf cc, bBD G x st sv bu di se wy ta tt rp, bState G st t0 t1 al, bText G t0 a0 n0 g0, bText G t1 a1 n1 g1, bGrid G di db u_24] H := hP
          have hD : wD A [bWay G wy wv (wL g0 g1 n0 n1) f1, bFour G qf cc, bBD G x st sv bu di se wy ta tt rp, bState G st t0 t1 al, bText G t0 a0 n0 g0, bText G t1 a1 n1 g1, bGrid G di db u_24] := hD
          show W p l e rmL_isWaySo s m args below meth c H locs 1 4 Q (F0 m 38 ls [.int (jz (D 1 g0 g1 i j))])
          refine jv_top (fun r_25 er_25 => ?_)
          refine lv_istore (lv' := [(6, .int (jz r_25)), (0, .ref x), (1, .int (jz i)), (2, .int (jz j)), (3, .ref qf), (4, .int (jz 1)), (5, .int (jz k))]) hx hb dL_isWaySo_38 hl (by decide) rfl (fun ls hl => ?_)
          have K72 : ∀ (co : Int) (at0 : Int) (h2 : Int → Int) , (at0 = D 1 g0 g1 i j) → ((0 ≤ co ∧ co ≤ 1) ∧ (0 < i → 0 < j → co = cst (g0 (i - 1)) (g1 (j - 1)))) → ∀ (H : Heap) (locs : List Loc) (ls : Array Slot), wP G [bBD G x st sv bu di se wy ta tt rp, bState G st t0 t1 al, bText G t0 a0 n0 g0, bText G t1 a1 n1 g1, bGrid G di db h2, bWay G wy wv (wL g0 g1 n0 n1) f1, bFour G qf cc] H → wD A [bBD G x st sv bu di se wy ta tt rp, bState G st t0 t1 al, bText G t0 a0 n0 g0, bText G t1 a1 n1 g1, bGrid G di db h2, bWay G wy wv (wL g0 g1 n0 n1) f1, bFour G qf cc] → va_S A s.heap H locs → lv_has ls 9 [(0, .ref x), (1, .int (jz i)), (2, .int (jz j)), (3, .ref qf), (4, .int (jz 1)), (5, .int (jz k)), (6, .int (jz at0))] → W p l e rmL_isWaySo s m args below meth c H locs 1 4 Q (F0 m 72 ls [.int (jz co)]) := by
            intro co at0 h2 hat hco H locs ls hP hD hS hl
            refine lv_istore (lv' := [(7, .int (jz co)), (0, .ref x), (1, .int (jz i)), (2, .int (jz j)), (3, .ref qf), (4, .int (jz 1)), (5, .int (jz k)), (6, .int (jz at0))]) hx hb dL_isWaySo_72 hl (by decide) rfl (fun ls hl => ?_)
            have K129 : ∀ (du : Int) (h3 : Int → Int) , (du = stp g0 g1 i j) → ∀ (H : Heap) (locs : List Loc) (ls : Array Slot), wP G [bBD G x st sv bu di se wy ta tt rp, bState G st t0 t1 al, bText G t0 a0 n0 g0, bText G t1 a1 n1 g1, bGrid G di db h3, bWay G wy wv (wL g0 g1 n0 n1) f1, bFour G qf cc] H → wD A [bBD G x st sv bu di se wy ta tt rp, bState G st t0 t1 al, bText G t0 a0 n0 g0, bText G t1 a1 n1 g1, bGrid G di db h3, bWay G wy wv (wL g0 g1 n0 n1) f1, bFour G qf cc] → va_S A s.heap H locs → lv_has ls 9 [(0, .ref x), (1, .int (jz i)), (2, .int (jz j)), (3, .ref qf), (4, .int (jz 1)), (5, .int (jz k))] → W p l e rmL_isWaySo s m args below meth c H locs 1 4 Q (F0 m 129 ls [.int (jz du)]) := by
              intro du h3 hdu H locs ls hP hD hS hl
              refine lv_istore (lv' := [(8, .int (jz du)), (0, .ref x), (1, .int (jz i)), (2, .int (jz j)), (3, .ref qf), (4, .int (jz 1)), (5, .int (jz k))]) hx hb dL_isWaySo_129 hl (by decide) rfl (fun ls hl => ?_)
              refine lv_iload hx hb dL_isWaySo_131 (lv_at hl 5 rfl) ?_
              refine jv_if_eq (tgt := 161) hx hb dL_isWaySo_133 (by decide) (by omega) (fun c_26 => ?_) (fun c_26 => ?_)
              · exfalso; omega
              · refine lv_aload_n hx hb dL_isWaySo_136 rfl (lv_at hl 1 rfl) ?_
                refine lv_iload hx hb dL_isWaySo_137 (lv_at hl 6 rfl) ?_
                refine kV ⟨hx, hb, hml, hown, hts⟩ hK hA hS hP hD [.int (jz k)] [] (mX8_step_k l G x st sv bu di se wy ta tt rp t0 t1 al a0 n0 g0 a1 n1 g1 db h3 wv (wL g0 g1 n0 n1) f1 k (by omega) (by omega) (by exact hg0) (by exact hg1) (by omega) (by omega)) lkL_67 [0, 1, 2, 3, 4, 5] [6] (br := [bFour G qf cc]) rfl rfl (by decide) 0 8 rfl rfl rfl rfl (Nat.le_of_ble_eq_true rfl) hl.1 dL_isWaySo_139 ⟨Nat.le_of_ble_eq_true rfl, Nat.le_of_ble_eq_true rfl⟩ ⟨Nat.le_of_ble_eq_true rfl, Nat.le_of_ble_eq_true rfl⟩ (fun u9 H locs hp9 hP hD hS => ?_)
                obtain ⟨u_27, u_28⟩ := u9
                have hP : wP G [bFour G qf cc, bBD G x st sv bu di se wy ta tt rp, bState G st t0 t1 al, bText G t0 a0 n0 g0, bText G t1 a1 n1 g1, bGrid G di db u_27, bWay G wy wv (wL g0 g1 n0 n1) u_28] H := hP
                have hD : wD A [bFour G qf cc, bBD G x st sv bu di se wy ta tt rp, bState G st t0 t1 al, bText G t0 a0 n0 g0, bText G t1 a1 n1 g1, bGrid G di db u_27, bWay G wy wv (wL g0 g1 n0 n1) u_28] := hD
                show W p l e rmL_isWaySo s m args below meth c H locs 1 4 Q (F0 m 142 ls [.int (jz (if k < wL g0 g1 n0 n1 then wA g0 g1 n0 n1 (wL g0 g1 n0 n1 - 1 - k) else -1))])
                refine jv_to (z' := wA g0 g1 n0 n1 (wL g0 g1 n0 n1 - 1 - k)) (by rw [if_pos (by omega)]) ?_
                refine lv_iload hx hb dL_isWaySo_142 (lv_at hl 0 rfl) ?_
                refine jv_icmp_ne (tgt := 161) hx hb dL_isWaySo_144 (by decide) (by omega) (by omega) (fun c_29 => ?_) (fun c_29 => ?_)
                · exfalso; omega
                · refine lv_iload hx hb dL_isWaySo_147 (lv_at hl 0 rfl) ?_
                  refine jv_iconst hx hb dL_isWaySo_149 ?_
                  refine jv_icmp_lt (tgt := 157) hx hb dL_isWaySo_150 (by decide) (by omega) (by omega) (fun c_30 => ?_) (fun c_30 => ?_)
                  · refine jv_iconst hx hb dL_isWaySo_157 ?_
                    refine lv_goto (tgt := 162) hx hb dL_isWaySo_158 (by decide) ?_
                    refine lv_istore (lv' := [(4, .int (jz 1)), (8, .int (jz du)), (0, .ref x), (1, .int (jz i)), (2, .int (jz j)), (3, .ref qf), (5, .int (jz k))]) hx hb dL_isWaySo_162 hl (by decide) rfl (fun ls hl => ?_)
                    refine lv_iload hx hb dL_isWaySo_164 (lv_at hl 0 rfl) ?_
                    refine jv_if_ne (tgt := 171) hx hb dL_isWaySo_166 (by decide) (by omega) (fun c_31 => ?_) (fun c_31 => ?_)
                    · refine lv_aload_n hx hb dL_isWaySo_171 rfl (lv_at hl 5 rfl) ?_
                      refine lv_iload hx hb dL_isWaySo_172 (lv_at hl 1 rfl) ?_
                      refine lv_dup2_11 hx hb dL_isWaySo_174 rfl rfl ?_
                      refine jv_iald hx hb hK.1 hP 0 (g := cc) rfl (by omega) (by omega) (by decide) dL_isWaySo_175 ?_
                      refine jv_iconst hx hb dL_isWaySo_176 ?_
                      refine jv_iadd hx hb dL_isWaySo_177 ?_
                      refine jv_iast hx hb hK.1 hP hD hS 0 (g := cc) rfl (by omega) (by omega) (by decide) dL_isWaySo_178 (fun H locs hP hD hS => ?_)
                      have hP : wP G [bFour G qf (up cc du ((cc du) + 1)), bBD G x st sv bu di se wy ta tt rp, bState G st t0 t1 al, bText G t0 a0 n0 g0, bText G t1 a1 n1 g1, bGrid G di db u_27, bWay G wy wv (wL g0 g1 n0 n1) u_28] H := hP
                      have hD : wD A [bFour G qf (up cc du ((cc du) + 1)), bBD G x st sv bu di se wy ta tt rp, bState G st t0 t1 al, bText G t0 a0 n0 g0, bText G t1 a1 n1 g1, bGrid G di db u_27, bWay G wy wv (wL g0 g1 n0 n1) u_28] := hD
                      refine lv_iload_n hx hb dL_isWaySo_179 rfl (lv_at hl 3 rfl) ?_
                      refine lv_iload hx hb dL_isWaySo_180 (lv_at hl 1 rfl) ?_
                      refine jv_iconst hx hb dL_isWaySo_182 ?_
                      refine jv_icmp_ne (tgt := 190) hx hb dL_isWaySo_183 (by decide) (by omega) (by omega) (fun c_32 => ?_) (fun c_32 => ?_)
                      · refine jv_iconst hx hb dL_isWaySo_190 ?_
                        refine jv_isub hx hb dL_isWaySo_191 ?_
                        refine lv_istore_n (lv' := [(1, .int (jz (i - 1))), (4, .int (jz 1)), (8, .int (jz du)), (0, .ref x), (2, .int (jz j)), (3, .ref qf), (5, .int (jz k))]) hx hb dL_isWaySo_192 rfl hl (by decide) rfl (fun ls hl => ?_)
                        refine lv_iload_n hx hb dL_isWaySo_193 rfl (lv_at hl 4 rfl) ?_
                        refine lv_iload hx hb dL_isWaySo_194 (lv_at hl 2 rfl) ?_
                        refine jv_iconst hx hb dL_isWaySo_196 ?_
                        refine jv_icmp_ne (tgt := 204) hx hb dL_isWaySo_197 (by decide) (by omega) (by omega) (fun c_33 => ?_) (fun c_33 => ?_)
                        · refine jv_iconst hx hb dL_isWaySo_204 ?_
                          refine jv_isub hx hb dL_isWaySo_205 ?_
                          refine lv_istore_n (lv' := [(2, .int (jz (j - 1))), (1, .int (jz (i - 1))), (4, .int (jz 1)), (8, .int (jz du)), (0, .ref x), (3, .ref qf), (5, .int (jz k))]) hx hb dL_isWaySo_206 rfl hl (by decide) rfl (fun ls hl => ?_)
                          refine jv_iinc (lv' := [(5, .int (jz (k + (-1)))), (2, .int (jz (j - 1))), (1, .int (jz (i - 1))), (4, .int (jz 1)), (8, .int (jz du)), (0, .ref x), (3, .ref qf)]) (k := 6) hx hb dL_isWaySo_207 hl rfl (by decide) rfl (fun ls hl => ?_)
                          refine lv_goto (tgt := 27) hx hb dL_isWaySo_210 (by decide) ?_
                          exact ih27 qf u_27 u_28 (up cc du ((cc du) + 1)) (i - 1) (j - 1) (k + (-1)) (by omega) (by omega) (by exact wQ_t hs9.2 (by omega) (by omega) (by omega) (by omega)) H _ _ (wP_sub (bc := [bBD G x st sv bu di se wy ta tt rp, bState G st t0 t1 al, bText G t0 a0 n0 g0, bText G t1 a1 n1 g1, bGrid G di db u_27, bWay G wy wv (wL g0 g1 n0 n1) u_28, bFour G qf (up cc du ((cc du) + 1))]) hP [1, 2, 3, 4, 5, 6, 0] rfl) (wD_sub (bc := [bBD G x st sv bu di se wy ta tt rp, bState G st t0 t1 al, bText G t0 a0 n0 g0, bText G t1 a1 n1 g1, bGrid G di db u_27, bWay G wy wv (wL g0 g1 n0 n1) u_28, bFour G qf (up cc du ((cc du) + 1))]) hD [1, 2, 3, 4, 5, 6, 0] (by decide) rfl) hS (lv_sub hl [5, 2, 1, 6, 3, 0] rfl)
                        · refine jv_iconst hx hb dL_isWaySo_200 ?_
                          refine lv_goto (tgt := 205) hx hb dL_isWaySo_201 (by decide) ?_
                          refine jv_isub hx hb dL_isWaySo_205 ?_
                          refine lv_istore_n (lv' := [(2, .int (jz (j - 0))), (1, .int (jz (i - 1))), (4, .int (jz 1)), (8, .int (jz du)), (0, .ref x), (3, .ref qf), (5, .int (jz k))]) hx hb dL_isWaySo_206 rfl hl (by decide) rfl (fun ls hl => ?_)
                          refine jv_iinc (lv' := [(5, .int (jz (k + (-1)))), (2, .int (jz (j - 0))), (1, .int (jz (i - 1))), (4, .int (jz 1)), (8, .int (jz du)), (0, .ref x), (3, .ref qf)]) (k := 6) hx hb dL_isWaySo_207 hl rfl (by decide) rfl (fun ls hl => ?_)
                          refine lv_goto (tgt := 27) hx hb dL_isWaySo_210 (by decide) ?_
                          exact ih27 qf u_27 u_28 (up cc du ((cc du) + 1)) (i - 1) (j - 0) (k + (-1)) (by omega) (by omega) (by exact wQ_t hs9.2 (by omega) (by omega) (by omega) (by omega)) H _ _ (wP_sub (bc := [bBD G x st sv bu di se wy ta tt rp, bState G st t0 t1 al, bText G t0 a0 n0 g0, bText G t1 a1 n1 g1, bGrid G di db u_27, bWay G wy wv (wL g0 g1 n0 n1) u_28, bFour G qf (up cc du ((cc du) + 1))]) hP [1, 2, 3, 4, 5, 6, 0] rfl) (wD_sub (bc := [bBD G x st sv bu di se wy ta tt rp, bState G st t0 t1 al, bText G t0 a0 n0 g0, bText G t1 a1 n1 g1, bGrid G di db u_27, bWay G wy wv (wL g0 g1 n0 n1) u_28, bFour G qf (up cc du ((cc du) + 1))]) hD [1, 2, 3, 4, 5, 6, 0] (by decide) rfl) hS (lv_sub hl [5, 2, 1, 6, 3, 0] rfl)
                      · refine jv_iconst hx hb dL_isWaySo_186 ?_
                        refine lv_goto (tgt := 191) hx hb dL_isWaySo_187 (by decide) ?_
                        refine jv_isub hx hb dL_isWaySo_191 ?_
                        refine lv_istore_n (lv' := [(1, .int (jz (i - 0))), (4, .int (jz 1)), (8, .int (jz du)), (0, .ref x), (2, .int (jz j)), (3, .ref qf), (5, .int (jz k))]) hx hb dL_isWaySo_192 rfl hl (by decide) rfl (fun ls hl => ?_)
                        refine lv_iload_n hx hb dL_isWaySo_193 rfl (lv_at hl 4 rfl) ?_
                        refine lv_iload hx hb dL_isWaySo_194 (lv_at hl 2 rfl) ?_
                        refine jv_iconst hx hb dL_isWaySo_196 ?_
                        refine jv_icmp_ne (tgt := 204) hx hb dL_isWaySo_197 (by decide) (by omega) (by omega) (fun c_34 => ?_) (fun c_34 => ?_)
                        · refine jv_iconst hx hb dL_isWaySo_204 ?_
                          refine jv_isub hx hb dL_isWaySo_205 ?_
                          refine lv_istore_n (lv' := [(2, .int (jz (j - 1))), (1, .int (jz (i - 0))), (4, .int (jz 1)), (8, .int (jz du)), (0, .ref x), (3, .ref qf), (5, .int (jz k))]) hx hb dL_isWaySo_206 rfl hl (by decide) rfl (fun ls hl => ?_)
                          refine jv_iinc (lv' := [(5, .int (jz (k + (-1)))), (2, .int (jz (j - 1))), (1, .int (jz (i - 0))), (4, .int (jz 1)), (8, .int (jz du)), (0, .ref x), (3, .ref qf)]) (k := 6) hx hb dL_isWaySo_207 hl rfl (by decide) rfl (fun ls hl => ?_)
                          refine lv_goto (tgt := 27) hx hb dL_isWaySo_210 (by decide) ?_
                          exact ih27 qf u_27 u_28 (up cc du ((cc du) + 1)) (i - 0) (j - 1) (k + (-1)) (by omega) (by omega) (by exact wQ_t hs9.2 (by omega) (by omega) (by omega) (by omega)) H _ _ (wP_sub (bc := [bBD G x st sv bu di se wy ta tt rp, bState G st t0 t1 al, bText G t0 a0 n0 g0, bText G t1 a1 n1 g1, bGrid G di db u_27, bWay G wy wv (wL g0 g1 n0 n1) u_28, bFour G qf (up cc du ((cc du) + 1))]) hP [1, 2, 3, 4, 5, 6, 0] rfl) (wD_sub (bc := [bBD G x st sv bu di se wy ta tt rp, bState G st t0 t1 al, bText G t0 a0 n0 g0, bText G t1 a1 n1 g1, bGrid G di db u_27, bWay G wy wv (wL g0 g1 n0 n1) u_28, bFour G qf (up cc du ((cc du) + 1))]) hD [1, 2, 3, 4, 5, 6, 0] (by decide) rfl) hS (lv_sub hl [5, 2, 1, 6, 3, 0] rfl)
                        · refine jv_iconst hx hb dL_isWaySo_200 ?_
                          refine lv_goto (tgt := 205) hx hb dL_isWaySo_201 (by decide) ?_
                          refine jv_isub hx hb dL_isWaySo_205 ?_
                          refine lv_istore_n (lv' := [(2, .int (jz (j - 0))), (1, .int (jz (i - 0))), (4, .int (jz 1)), (8, .int (jz du)), (0, .ref x), (3, .ref qf), (5, .int (jz k))]) hx hb dL_isWaySo_206 rfl hl (by decide) rfl (fun ls hl => ?_)
                          refine jv_iinc (lv' := [(5, .int (jz (k + (-1)))), (2, .int (jz (j - 0))), (1, .int (jz (i - 0))), (4, .int (jz 1)), (8, .int (jz du)), (0, .ref x), (3, .ref qf)]) (k := 6) hx hb dL_isWaySo_207 hl rfl (by decide) rfl (fun ls hl => ?_)
                          refine lv_goto (tgt := 27) hx hb dL_isWaySo_210 (by decide) ?_
                          exact ih27 qf u_27 u_28 (up cc du ((cc du) + 1)) (i - 0) (j - 0) (k + (-1)) (by omega) (by omega) (by exact wQ_t hs9.2 (by omega) (by omega) (by omega) (by omega)) H _ _ (wP_sub (bc := [bBD G x st sv bu di se wy ta tt rp, bState G st t0 t1 al, bText G t0 a0 n0 g0, bText G t1 a1 n1 g1, bGrid G di db u_27, bWay G wy wv (wL g0 g1 n0 n1) u_28, bFour G qf (up cc du ((cc du) + 1))]) hP [1, 2, 3, 4, 5, 6, 0] rfl) (wD_sub (bc := [bBD G x st sv bu di se wy ta tt rp, bState G st t0 t1 al, bText G t0 a0 n0 g0, bText G t1 a1 n1 g1, bGrid G di db u_27, bWay G wy wv (wL g0 g1 n0 n1) u_28, bFour G qf (up cc du ((cc du) + 1))]) hD [1, 2, 3, 4, 5, 6, 0] (by decide) rfl) hS (lv_sub hl [5, 2, 1, 6, 3, 0] rfl)
                    · exfalso; omega
                  · refine lv_iload_n hx hb dL_isWaySo_153 rfl (lv_at hl 3 rfl) ?_
                    refine jv_if_le (tgt := 161) hx hb dL_isWaySo_154 (by decide) (by omega) (fun c_35 => ?_) (fun c_35 => ?_)
                    · exfalso; omega
                    · refine jv_iconst hx hb dL_isWaySo_157 ?_
                      refine lv_goto (tgt := 162) hx hb dL_isWaySo_158 (by decide) ?_
                      refine lv_istore (lv' := [(4, .int (jz 1)), (8, .int (jz du)), (0, .ref x), (1, .int (jz i)), (2, .int (jz j)), (3, .ref qf), (5, .int (jz k))]) hx hb dL_isWaySo_162 hl (by decide) rfl (fun ls hl => ?_)
                      refine lv_iload hx hb dL_isWaySo_164 (lv_at hl 0 rfl) ?_
                      refine jv_if_ne (tgt := 171) hx hb dL_isWaySo_166 (by decide) (by omega) (fun c_36 => ?_) (fun c_36 => ?_)
                      · refine lv_aload_n hx hb dL_isWaySo_171 rfl (lv_at hl 5 rfl) ?_
                        refine lv_iload hx hb dL_isWaySo_172 (lv_at hl 1 rfl) ?_
                        refine lv_dup2_11 hx hb dL_isWaySo_174 rfl rfl ?_
                        refine jv_iald hx hb hK.1 hP 0 (g := cc) rfl (by omega) (by omega) (by decide) dL_isWaySo_175 ?_
                        refine jv_iconst hx hb dL_isWaySo_176 ?_
                        refine jv_iadd hx hb dL_isWaySo_177 ?_
                        refine jv_iast hx hb hK.1 hP hD hS 0 (g := cc) rfl (by omega) (by omega) (by decide) dL_isWaySo_178 (fun H locs hP hD hS => ?_)
                        have hP : wP G [bFour G qf (up cc du ((cc du) + 1)), bBD G x st sv bu di se wy ta tt rp, bState G st t0 t1 al, bText G t0 a0 n0 g0, bText G t1 a1 n1 g1, bGrid G di db u_27, bWay G wy wv (wL g0 g1 n0 n1) u_28] H := hP
                        have hD : wD A [bFour G qf (up cc du ((cc du) + 1)), bBD G x st sv bu di se wy ta tt rp, bState G st t0 t1 al, bText G t0 a0 n0 g0, bText G t1 a1 n1 g1, bGrid G di db u_27, bWay G wy wv (wL g0 g1 n0 n1) u_28] := hD
                        refine lv_iload_n hx hb dL_isWaySo_179 rfl (lv_at hl 3 rfl) ?_
                        refine lv_iload hx hb dL_isWaySo_180 (lv_at hl 1 rfl) ?_
                        refine jv_iconst hx hb dL_isWaySo_182 ?_
                        refine jv_icmp_ne (tgt := 190) hx hb dL_isWaySo_183 (by decide) (by omega) (by omega) (fun c_37 => ?_) (fun c_37 => ?_)
                        · refine jv_iconst hx hb dL_isWaySo_190 ?_
                          refine jv_isub hx hb dL_isWaySo_191 ?_
                          refine lv_istore_n (lv' := [(1, .int (jz (i - 1))), (4, .int (jz 1)), (8, .int (jz du)), (0, .ref x), (2, .int (jz j)), (3, .ref qf), (5, .int (jz k))]) hx hb dL_isWaySo_192 rfl hl (by decide) rfl (fun ls hl => ?_)
                          refine lv_iload_n hx hb dL_isWaySo_193 rfl (lv_at hl 4 rfl) ?_
                          refine lv_iload hx hb dL_isWaySo_194 (lv_at hl 2 rfl) ?_
                          refine jv_iconst hx hb dL_isWaySo_196 ?_
                          refine jv_icmp_ne (tgt := 204) hx hb dL_isWaySo_197 (by decide) (by omega) (by omega) (fun c_38 => ?_) (fun c_38 => ?_)
                          · refine jv_iconst hx hb dL_isWaySo_204 ?_
                            refine jv_isub hx hb dL_isWaySo_205 ?_
                            refine lv_istore_n (lv' := [(2, .int (jz (j - 1))), (1, .int (jz (i - 1))), (4, .int (jz 1)), (8, .int (jz du)), (0, .ref x), (3, .ref qf), (5, .int (jz k))]) hx hb dL_isWaySo_206 rfl hl (by decide) rfl (fun ls hl => ?_)
                            refine jv_iinc (lv' := [(5, .int (jz (k + (-1)))), (2, .int (jz (j - 1))), (1, .int (jz (i - 1))), (4, .int (jz 1)), (8, .int (jz du)), (0, .ref x), (3, .ref qf)]) (k := 6) hx hb dL_isWaySo_207 hl rfl (by decide) rfl (fun ls hl => ?_)
                            refine lv_goto (tgt := 27) hx hb dL_isWaySo_210 (by decide) ?_
                            exact ih27 qf u_27 u_28 (up cc du ((cc du) + 1)) (i - 1) (j - 1) (k + (-1)) (by omega) (by omega) (by exact wQ_t hs9.2 (by omega) (by omega) (by omega) (by omega)) H _ _ (wP_sub (bc := [bBD G x st sv bu di se wy ta tt rp, bState G st t0 t1 al, bText G t0 a0 n0 g0, bText G t1 a1 n1 g1, bGrid G di db u_27, bWay G wy wv (wL g0 g1 n0 n1) u_28, bFour G qf (up cc du ((cc du) + 1))]) hP [1, 2, 3, 4, 5, 6, 0] rfl) (wD_sub (bc := [bBD G x st sv bu di se wy ta tt rp, bState G st t0 t1 al, bText G t0 a0 n0 g0, bText G t1 a1 n1 g1, bGrid G di db u_27, bWay G wy wv (wL g0 g1 n0 n1) u_28, bFour G qf (up cc du ((cc du) + 1))]) hD [1, 2, 3, 4, 5, 6, 0] (by decide) rfl) hS (lv_sub hl [5, 2, 1, 6, 3, 0] rfl)
                          · refine jv_iconst hx hb dL_isWaySo_200 ?_
                            refine lv_goto (tgt := 205) hx hb dL_isWaySo_201 (by decide) ?_
                            refine jv_isub hx hb dL_isWaySo_205 ?_
                            refine lv_istore_n (lv' := [(2, .int (jz (j - 0))), (1, .int (jz (i - 1))), (4, .int (jz 1)), (8, .int (jz du)), (0, .ref x), (3, .ref qf), (5, .int (jz k))]) hx hb dL_isWaySo_206 rfl hl (by decide) rfl (fun ls hl => ?_)
                            refine jv_iinc (lv' := [(5, .int (jz (k + (-1)))), (2, .int (jz (j - 0))), (1, .int (jz (i - 1))), (4, .int (jz 1)), (8, .int (jz du)), (0, .ref x), (3, .ref qf)]) (k := 6) hx hb dL_isWaySo_207 hl rfl (by decide) rfl (fun ls hl => ?_)
                            refine lv_goto (tgt := 27) hx hb dL_isWaySo_210 (by decide) ?_
                            exact ih27 qf u_27 u_28 (up cc du ((cc du) + 1)) (i - 1) (j - 0) (k + (-1)) (by omega) (by omega) (by exact wQ_t hs9.2 (by omega) (by omega) (by omega) (by omega)) H _ _ (wP_sub (bc := [bBD G x st sv bu di se wy ta tt rp, bState G st t0 t1 al, bText G t0 a0 n0 g0, bText G t1 a1 n1 g1, bGrid G di db u_27, bWay G wy wv (wL g0 g1 n0 n1) u_28, bFour G qf (up cc du ((cc du) + 1))]) hP [1, 2, 3, 4, 5, 6, 0] rfl) (wD_sub (bc := [bBD G x st sv bu di se wy ta tt rp, bState G st t0 t1 al, bText G t0 a0 n0 g0, bText G t1 a1 n1 g1, bGrid G di db u_27, bWay G wy wv (wL g0 g1 n0 n1) u_28, bFour G qf (up cc du ((cc du) + 1))]) hD [1, 2, 3, 4, 5, 6, 0] (by decide) rfl) hS (lv_sub hl [5, 2, 1, 6, 3, 0] rfl)
                        · refine jv_iconst hx hb dL_isWaySo_186 ?_
                          refine lv_goto (tgt := 191) hx hb dL_isWaySo_187 (by decide) ?_
                          refine jv_isub hx hb dL_isWaySo_191 ?_
                          refine lv_istore_n (lv' := [(1, .int (jz (i - 0))), (4, .int (jz 1)), (8, .int (jz du)), (0, .ref x), (2, .int (jz j)), (3, .ref qf), (5, .int (jz k))]) hx hb dL_isWaySo_192 rfl hl (by decide) rfl (fun ls hl => ?_)
                          refine lv_iload_n hx hb dL_isWaySo_193 rfl (lv_at hl 4 rfl) ?_
                          refine lv_iload hx hb dL_isWaySo_194 (lv_at hl 2 rfl) ?_
                          refine jv_iconst hx hb dL_isWaySo_196 ?_
                          refine jv_icmp_ne (tgt := 204) hx hb dL_isWaySo_197 (by decide) (by omega) (by omega) (fun c_39 => ?_) (fun c_39 => ?_)
                          · refine jv_iconst hx hb dL_isWaySo_204 ?_
                            refine jv_isub hx hb dL_isWaySo_205 ?_
                            refine lv_istore_n (lv' := [(2, .int (jz (j - 1))), (1, .int (jz (i - 0))), (4, .int (jz 1)), (8, .int (jz du)), (0, .ref x), (3, .ref qf), (5, .int (jz k))]) hx hb dL_isWaySo_206 rfl hl (by decide) rfl (fun ls hl => ?_)
                            refine jv_iinc (lv' := [(5, .int (jz (k + (-1)))), (2, .int (jz (j - 1))), (1, .int (jz (i - 0))), (4, .int (jz 1)), (8, .int (jz du)), (0, .ref x), (3, .ref qf)]) (k := 6) hx hb dL_isWaySo_207 hl rfl (by decide) rfl (fun ls hl => ?_)
                            refine lv_goto (tgt := 27) hx hb dL_isWaySo_210 (by decide) ?_
                            exact ih27 qf u_27 u_28 (up cc du ((cc du) + 1)) (i - 0) (j - 1) (k + (-1)) (by omega) (by omega) (by exact wQ_t hs9.2 (by omega) (by omega) (by omega) (by omega)) H _ _ (wP_sub (bc := [bBD G x st sv bu di se wy ta tt rp, bState G st t0 t1 al, bText G t0 a0 n0 g0, bText G t1 a1 n1 g1, bGrid G di db u_27, bWay G wy wv (wL g0 g1 n0 n1) u_28, bFour G qf (up cc du ((cc du) + 1))]) hP [1, 2, 3, 4, 5, 6, 0] rfl) (wD_sub (bc := [bBD G x st sv bu di se wy ta tt rp, bState G st t0 t1 al, bText G t0 a0 n0 g0, bText G t1 a1 n1 g1, bGrid G di db u_27, bWay G wy wv (wL g0 g1 n0 n1) u_28, bFour G qf (up cc du ((cc du) + 1))]) hD [1, 2, 3, 4, 5, 6, 0] (by decide) rfl) hS (lv_sub hl [5, 2, 1, 6, 3, 0] rfl)
                          · refine jv_iconst hx hb dL_isWaySo_200 ?_
                            refine lv_goto (tgt := 205) hx hb dL_isWaySo_201 (by decide) ?_
                            refine jv_isub hx hb dL_isWaySo_205 ?_
                            refine lv_istore_n (lv' := [(2, .int (jz (j - 0))), (1, .int (jz (i - 0))), (4, .int (jz 1)), (8, .int (jz du)), (0, .ref x), (3, .ref qf), (5, .int (jz k))]) hx hb dL_isWaySo_206 rfl hl (by decide) rfl (fun ls hl => ?_)
                            refine jv_iinc (lv' := [(5, .int (jz (k + (-1)))), (2, .int (jz (j - 0))), (1, .int (jz (i - 0))), (4, .int (jz 1)), (8, .int (jz du)), (0, .ref x), (3, .ref qf)]) (k := 6) hx hb dL_isWaySo_207 hl rfl (by decide) rfl (fun ls hl => ?_)
                            refine lv_goto (tgt := 27) hx hb dL_isWaySo_210 (by decide) ?_
                            exact ih27 qf u_27 u_28 (up cc du ((cc du) + 1)) (i - 0) (j - 0) (k + (-1)) (by omega) (by omega) (by exact wQ_t hs9.2 (by omega) (by omega) (by omega) (by omega)) H _ _ (wP_sub (bc := [bBD G x st sv bu di se wy ta tt rp, bState G st t0 t1 al, bText G t0 a0 n0 g0, bText G t1 a1 n1 g1, bGrid G di db u_27, bWay G wy wv (wL g0 g1 n0 n1) u_28, bFour G qf (up cc du ((cc du) + 1))]) hP [1, 2, 3, 4, 5, 6, 0] rfl) (wD_sub (bc := [bBD G x st sv bu di se wy ta tt rp, bState G st t0 t1 al, bText G t0 a0 n0 g0, bText G t1 a1 n1 g1, bGrid G di db u_27, bWay G wy wv (wL g0 g1 n0 n1) u_28, bFour G qf (up cc du ((cc du) + 1))]) hD [1, 2, 3, 4, 5, 6, 0] (by decide) rfl) hS (lv_sub hl [5, 2, 1, 6, 3, 0] rfl)
                      · exfalso; omega
            refine lv_iload_n hx hb dL_isWaySo_74 rfl (lv_at hl 2 rfl) ?_
            refine jv_if_le (tgt := 105) hx hb dL_isWaySo_75 (by decide) (by omega) (fun c_40 => ?_) (fun c_40 => ?_)
            · have hnA : ¬ (0 < i ∧ 0 < j ∧ D 1 g0 g1 i j = D 1 g0 g1 (i - 1) (j - 1) + cst (g0 (i - 1)) (g1 (j - 1))) := by omega
              refine lv_iload_n hx hb dL_isWaySo_105 rfl (lv_at hl 2 rfl) ?_
              refine jv_if_le (tgt := 128) hx hb dL_isWaySo_106 (by decide) (by omega) (fun c_41 => ?_) (fun c_41 => ?_)
              · refine jv_iconst hx hb dL_isWaySo_128 ?_
                exact K129 3 h2 (by exact (stp_c hnA (by omega)).symm) H _ _ hP hD hS (lv_sub hl [1, 2, 3, 4, 5, 6] rfl)
              · refine lv_iload hx hb dL_isWaySo_109 (lv_at hl 7 rfl) ?_
                refine lv_aload_n hx hb dL_isWaySo_111 rfl (lv_at hl 1 rfl) ?_
                refine lv_iload_n hx hb dL_isWaySo_112 rfl (lv_at hl 2 rfl) ?_
                refine jv_iconst hx hb dL_isWaySo_113 ?_
                refine jv_isub hx hb dL_isWaySo_114 ?_
                refine lv_iload_n hx hb dL_isWaySo_115 rfl (lv_at hl 3 rfl) ?_
                refine kV ⟨hx, hb, hml, hown, hts⟩ hK hA hS hP hD [.int (jz (i - 1)), .int (jz j)] [.int (jz at0)] (mX8_prefix_k l G x st sv bu di se wy ta tt rp t0 t1 al a0 n0 g0 a1 n1 g1 db h2 (i - 1) j (by omega) (by omega) (by exact hg0) (by exact hg1) (by omega) (by omega) (by omega)) lkL_49 [0, 1, 2, 3, 4] [5, 6] (br := [bWay G wy wv (wL g0 g1 n0 n1) f1, bFour G qf cc]) rfl rfl (by decide) 0 8 rfl rfl rfl rfl (Nat.le_of_ble_eq_true rfl) hl.1 dL_isWaySo_116 ⟨Nat.le_of_ble_eq_true rfl, Nat.le_of_ble_eq_true rfl⟩ ⟨Nat.le_of_ble_eq_true rfl, Nat.le_of_ble_eq_true rfl⟩ (fun u9 H locs hp9 hP hD hS => ?_)
                obtain ⟨u_42, rfl⟩ : ∃ z, z = u9 := ⟨_, rfl⟩
                have hP : wP G [bWay G wy wv (wL g0 g1 n0 n1) f1, bFour G qf cc, bBD G x st sv bu di se wy ta tt rp, bState G st t0 t1 al, bText G t0 a0 n0 g0, bText G t1 a1 n1 g1, bGrid G di db u_42] H := hP
                have hD : wD A [bWay G wy wv (wL g0 g1 n0 n1) f1, bFour G qf cc, bBD G x st sv bu di se wy ta tt rp, bState G st t0 t1 al, bText G t0 a0 n0 g0, bText G t1 a1 n1 g1, bGrid G di db u_42] := hD
                show W p l e rmL_isWaySo s m args below meth c H locs 1 4 Q (F0 m 119 ls [.int (jz (D 1 g0 g1 (i - 1) j)), .int (jz at0)])
                refine jv_top (fun r_43 er_43 => ?_)
                have hb4 := D_bd (c := 1) (Or.inr rfl) g0 g1 (i := i - 1) (j := j) (by omega) (by omega)
                refine jv_iconst hx hb dL_isWaySo_119 ?_
                refine jv_iadd hx hb dL_isWaySo_120 ?_
                refine jv_icmp_ne (tgt := 128) hx hb dL_isWaySo_121 (by decide) (by omega) (by omega) (fun c_44 => ?_) (fun c_44 => ?_)
                · refine jv_iconst hx hb dL_isWaySo_128 ?_
                  exact K129 3 u_42 (by exact (stp_c hnA (by omega)).symm) H _ _ (wP_sub (bc := [bBD G x st sv bu di se wy ta tt rp, bState G st t0 t1 al, bText G t0 a0 n0 g0, bText G t1 a1 n1 g1, bGrid G di db u_42, bWay G wy wv (wL g0 g1 n0 n1) f1, bFour G qf cc]) hP [2, 3, 4, 5, 6, 0, 1] rfl) (wD_sub (bc := [bBD G x st sv bu di se wy ta tt rp, bState G st t0 t1 al, bText G t0 a0 n0 g0, bText G t1 a1 n1 g1, bGrid G di db u_42, bWay G wy wv (wL g0 g1 n0 n1) f1, bFour G qf cc]) hD [2, 3, 4, 5, 6, 0, 1] (by decide) rfl) hS (lv_sub hl [1, 2, 3, 4, 5, 6] rfl)
                · refine jv_iconst hx hb dL_isWaySo_124 ?_
                  refine lv_goto (tgt := 129) hx hb dL_isWaySo_125 (by decide) ?_
                  exact K129 2 u_42 (by exact (stp_b hnA (by omega) (by omega)).symm) H _ _ (wP_sub (bc := [bBD G x st sv bu di se wy ta tt rp, bState G st t0 t1 al, bText G t0 a0 n0 g0, bText G t1 a1 n1 g1, bGrid G di db u_42, bWay G wy wv (wL g0 g1 n0 n1) f1, bFour G qf cc]) hP [2, 3, 4, 5, 6, 0, 1] rfl) (wD_sub (bc := [bBD G x st sv bu di se wy ta tt rp, bState G st t0 t1 al, bText G t0 a0 n0 g0, bText G t1 a1 n1 g1, bGrid G di db u_42, bWay G wy wv (wL g0 g1 n0 n1) f1, bFour G qf cc]) hD [2, 3, 4, 5, 6, 0, 1] (by decide) rfl) hS (lv_sub hl [1, 2, 3, 4, 5, 6] rfl)
            · refine lv_iload_n hx hb dL_isWaySo_78 rfl (lv_at hl 3 rfl) ?_
              refine jv_if_le (tgt := 105) hx hb dL_isWaySo_79 (by decide) (by omega) (fun c_45 => ?_) (fun c_45 => ?_)
              · have hnA : ¬ (0 < i ∧ 0 < j ∧ D 1 g0 g1 i j = D 1 g0 g1 (i - 1) (j - 1) + cst (g0 (i - 1)) (g1 (j - 1))) := by omega
                refine lv_iload_n hx hb dL_isWaySo_105 rfl (lv_at hl 2 rfl) ?_
                refine jv_if_le (tgt := 128) hx hb dL_isWaySo_106 (by decide) (by omega) (fun c_46 => ?_) (fun c_46 => ?_)
                · refine jv_iconst hx hb dL_isWaySo_128 ?_
                  exact K129 3 h2 (by exact (stp_c hnA (by omega)).symm) H _ _ hP hD hS (lv_sub hl [1, 2, 3, 4, 5, 6] rfl)
                · refine lv_iload hx hb dL_isWaySo_109 (lv_at hl 7 rfl) ?_
                  refine lv_aload_n hx hb dL_isWaySo_111 rfl (lv_at hl 1 rfl) ?_
                  refine lv_iload_n hx hb dL_isWaySo_112 rfl (lv_at hl 2 rfl) ?_
                  refine jv_iconst hx hb dL_isWaySo_113 ?_
                  refine jv_isub hx hb dL_isWaySo_114 ?_
                  refine lv_iload_n hx hb dL_isWaySo_115 rfl (lv_at hl 3 rfl) ?_
                  refine kV ⟨hx, hb, hml, hown, hts⟩ hK hA hS hP hD [.int (jz (i - 1)), .int (jz j)] [.int (jz at0)] (mX8_prefix_k l G x st sv bu di se wy ta tt rp t0 t1 al a0 n0 g0 a1 n1 g1 db h2 (i - 1) j (by omega) (by omega) (by exact hg0) (by exact hg1) (by omega) (by omega) (by omega)) lkL_49 [0, 1, 2, 3, 4] [5, 6] (br := [bWay G wy wv (wL g0 g1 n0 n1) f1, bFour G qf cc]) rfl rfl (by decide) 0 8 rfl rfl rfl rfl (Nat.le_of_ble_eq_true rfl) hl.1 dL_isWaySo_116 ⟨Nat.le_of_ble_eq_true rfl, Nat.le_of_ble_eq_true rfl⟩ ⟨Nat.le_of_ble_eq_true rfl, Nat.le_of_ble_eq_true rfl⟩ (fun u9 H locs hp9 hP hD hS => ?_)
                  obtain ⟨u_47, rfl⟩ : ∃ z, z = u9 := ⟨_, rfl⟩
                  have hP : wP G [bWay G wy wv (wL g0 g1 n0 n1) f1, bFour G qf cc, bBD G x st sv bu di se wy ta tt rp, bState G st t0 t1 al, bText G t0 a0 n0 g0, bText G t1 a1 n1 g1, bGrid G di db u_47] H := hP
                  have hD : wD A [bWay G wy wv (wL g0 g1 n0 n1) f1, bFour G qf cc, bBD G x st sv bu di se wy ta tt rp, bState G st t0 t1 al, bText G t0 a0 n0 g0, bText G t1 a1 n1 g1, bGrid G di db u_47] := hD
                  show W p l e rmL_isWaySo s m args below meth c H locs 1 4 Q (F0 m 119 ls [.int (jz (D 1 g0 g1 (i - 1) j)), .int (jz at0)])
                  refine jv_top (fun r_48 er_48 => ?_)
                  have hb4 := D_bd (c := 1) (Or.inr rfl) g0 g1 (i := i - 1) (j := j) (by omega) (by omega)
                  refine jv_iconst hx hb dL_isWaySo_119 ?_
                  refine jv_iadd hx hb dL_isWaySo_120 ?_
                  refine jv_icmp_ne (tgt := 128) hx hb dL_isWaySo_121 (by decide) (by omega) (by omega) (fun c_49 => ?_) (fun c_49 => ?_)
                  · refine jv_iconst hx hb dL_isWaySo_128 ?_
                    exact K129 3 u_47 (by exact (stp_c hnA (by omega)).symm) H _ _ (wP_sub (bc := [bBD G x st sv bu di se wy ta tt rp, bState G st t0 t1 al, bText G t0 a0 n0 g0, bText G t1 a1 n1 g1, bGrid G di db u_47, bWay G wy wv (wL g0 g1 n0 n1) f1, bFour G qf cc]) hP [2, 3, 4, 5, 6, 0, 1] rfl) (wD_sub (bc := [bBD G x st sv bu di se wy ta tt rp, bState G st t0 t1 al, bText G t0 a0 n0 g0, bText G t1 a1 n1 g1, bGrid G di db u_47, bWay G wy wv (wL g0 g1 n0 n1) f1, bFour G qf cc]) hD [2, 3, 4, 5, 6, 0, 1] (by decide) rfl) hS (lv_sub hl [1, 2, 3, 4, 5, 6] rfl)
                  · refine jv_iconst hx hb dL_isWaySo_124 ?_
                    refine lv_goto (tgt := 129) hx hb dL_isWaySo_125 (by decide) ?_
                    exact K129 2 u_47 (by exact (stp_b hnA (by omega) (by omega)).symm) H _ _ (wP_sub (bc := [bBD G x st sv bu di se wy ta tt rp, bState G st t0 t1 al, bText G t0 a0 n0 g0, bText G t1 a1 n1 g1, bGrid G di db u_47, bWay G wy wv (wL g0 g1 n0 n1) f1, bFour G qf cc]) hP [2, 3, 4, 5, 6, 0, 1] rfl) (wD_sub (bc := [bBD G x st sv bu di se wy ta tt rp, bState G st t0 t1 al, bText G t0 a0 n0 g0, bText G t1 a1 n1 g1, bGrid G di db u_47, bWay G wy wv (wL g0 g1 n0 n1) f1, bFour G qf cc]) hD [2, 3, 4, 5, 6, 0, 1] (by decide) rfl) hS (lv_sub hl [1, 2, 3, 4, 5, 6] rfl)
              · refine lv_iload hx hb dL_isWaySo_82 (lv_at hl 7 rfl) ?_
                refine lv_aload_n hx hb dL_isWaySo_84 rfl (lv_at hl 1 rfl) ?_
                refine lv_iload_n hx hb dL_isWaySo_85 rfl (lv_at hl 2 rfl) ?_
                refine jv_iconst hx hb dL_isWaySo_86 ?_
                refine jv_isub hx hb dL_isWaySo_87 ?_
                refine lv_iload_n hx hb dL_isWaySo_88 rfl (lv_at hl 3 rfl) ?_
                refine jv_iconst hx hb dL_isWaySo_89 ?_
                refine jv_isub hx hb dL_isWaySo_90 ?_
                have hco1 := hco.2 (by omega) (by omega)
                refine kV ⟨hx, hb, hml, hown, hts⟩ hK hA hS hP hD [.int (jz (i - 1)), .int (jz (j - 1))] [.int (jz at0)] (mX8_prefix_k l G x st sv bu di se wy ta tt rp t0 t1 al a0 n0 g0 a1 n1 g1 db h2 (i - 1) (j - 1) (by omega) (by omega) (by exact hg0) (by exact hg1) (by omega) (by omega) (by omega)) lkL_49 [0, 1, 2, 3, 4] [5, 6] (br := [bWay G wy wv (wL g0 g1 n0 n1) f1, bFour G qf cc]) rfl rfl (by decide) 0 8 rfl rfl rfl rfl (Nat.le_of_ble_eq_true rfl) hl.1 dL_isWaySo_91 ⟨Nat.le_of_ble_eq_true rfl, Nat.le_of_ble_eq_true rfl⟩ ⟨Nat.le_of_ble_eq_true rfl, Nat.le_of_ble_eq_true rfl⟩ (fun u9 H locs hp9 hP hD hS => ?_)
                obtain ⟨u_50, rfl⟩ : ∃ z, z = u9 := ⟨_, rfl⟩
                have hP : wP G [bWay G wy wv (wL g0 g1 n0 n1) f1, bFour G qf cc, bBD G x st sv bu di se wy ta tt rp, bState G st t0 t1 al, bText G t0 a0 n0 g0, bText G t1 a1 n1 g1, bGrid G di db u_50] H := hP
                have hD : wD A [bWay G wy wv (wL g0 g1 n0 n1) f1, bFour G qf cc, bBD G x st sv bu di se wy ta tt rp, bState G st t0 t1 al, bText G t0 a0 n0 g0, bText G t1 a1 n1 g1, bGrid G di db u_50] := hD
                show W p l e rmL_isWaySo s m args below meth c H locs 1 4 Q (F0 m 94 ls [.int (jz (D 1 g0 g1 (i - 1) (j - 1))), .int (jz at0)])
                refine jv_top (fun r_51 er_51 => ?_)
                have hb3 := D_bd (c := 1) (Or.inr rfl) g0 g1 (i := i - 1) (j := j - 1) (by omega) (by omega)
                refine lv_iload hx hb dL_isWaySo_94 (lv_at hl 0 rfl) ?_
                refine jv_iadd hx hb dL_isWaySo_96 ?_
                refine jv_icmp_ne (tgt := 105) hx hb dL_isWaySo_97 (by decide) (by omega) (by omega) (fun c_52 => ?_) (fun c_52 => ?_)
                · have hnA : ¬ (0 < i ∧ 0 < j ∧ D 1 g0 g1 i j = D 1 g0 g1 (i - 1) (j - 1) + cst (g0 (i - 1)) (g1 (j - 1))) := by omega
                  refine lv_iload_n hx hb dL_isWaySo_105 rfl (lv_at hl 2 rfl) ?_
                  refine jv_if_le (tgt := 128) hx hb dL_isWaySo_106 (by decide) (by omega) (fun c_53 => ?_) (fun c_53 => ?_)
                  · refine jv_iconst hx hb dL_isWaySo_128 ?_
                    exact K129 3 u_50 (by exact (stp_c hnA (by omega)).symm) H _ _ (wP_sub (bc := [bBD G x st sv bu di se wy ta tt rp, bState G st t0 t1 al, bText G t0 a0 n0 g0, bText G t1 a1 n1 g1, bGrid G di db u_50, bWay G wy wv (wL g0 g1 n0 n1) f1, bFour G qf cc]) hP [2, 3, 4, 5, 6, 0, 1] rfl) (wD_sub (bc := [bBD G x st sv bu di se wy ta tt rp, bState G st t0 t1 al, bText G t0 a0 n0 g0, bText G t1 a1 n1 g1, bGrid G di db u_50, bWay G wy wv (wL g0 g1 n0 n1) f1, bFour G qf cc]) hD [2, 3, 4, 5, 6, 0, 1] (by decide) rfl) hS (lv_sub hl [1, 2, 3, 4, 5, 6] rfl)
                  · refine lv_iload hx hb dL_isWaySo_109 (lv_at hl 7 rfl) ?_
                    refine lv_aload_n hx hb dL_isWaySo_111 rfl (lv_at hl 1 rfl) ?_
                    refine lv_iload_n hx hb dL_isWaySo_112 rfl (lv_at hl 2 rfl) ?_
                    refine jv_iconst hx hb dL_isWaySo_113 ?_
                    refine jv_isub hx hb dL_isWaySo_114 ?_
                    refine lv_iload_n hx hb dL_isWaySo_115 rfl (lv_at hl 3 rfl) ?_
                    refine kV ⟨hx, hb, hml, hown, hts⟩ hK hA hS hP hD [.int (jz (i - 1)), .int (jz j)] [.int (jz at0)] (mX8_prefix_k l G x st sv bu di se wy ta tt rp t0 t1 al a0 n0 g0 a1 n1 g1 db u_50 (i - 1) j (by omega) (by omega) (by exact hg0) (by exact hg1) (by omega) (by omega) (by omega)) lkL_49 [2, 3, 4, 5, 6] [0, 1] (br := [bWay G wy wv (wL g0 g1 n0 n1) f1, bFour G qf cc]) rfl rfl (by decide) 0 8 rfl rfl rfl rfl (Nat.le_of_ble_eq_true rfl) hl.1 dL_isWaySo_116 ⟨Nat.le_of_ble_eq_true rfl, Nat.le_of_ble_eq_true rfl⟩ ⟨Nat.le_of_ble_eq_true rfl, Nat.le_of_ble_eq_true rfl⟩ (fun u9 H locs hp9 hP hD hS => ?_)
                    obtain ⟨u_54, rfl⟩ : ∃ z, z = u9 := ⟨_, rfl⟩
                    have hP : wP G [bWay G wy wv (wL g0 g1 n0 n1) f1, bFour G qf cc, bBD G x st sv bu di se wy ta tt rp, bState G st t0 t1 al, bText G t0 a0 n0 g0, bText G t1 a1 n1 g1, bGrid G di db u_54] H := hP
                    have hD : wD A [bWay G wy wv (wL g0 g1 n0 n1) f1, bFour G qf cc, bBD G x st sv bu di se wy ta tt rp, bState G st t0 t1 al, bText G t0 a0 n0 g0, bText G t1 a1 n1 g1, bGrid G di db u_54] := hD
                    show W p l e rmL_isWaySo s m args below meth c H locs 1 4 Q (F0 m 119 ls [.int (jz (D 1 g0 g1 (i - 1) j)), .int (jz at0)])
                    refine jv_top (fun r_55 er_55 => ?_)
                    have hb4 := D_bd (c := 1) (Or.inr rfl) g0 g1 (i := i - 1) (j := j) (by omega) (by omega)
                    refine jv_iconst hx hb dL_isWaySo_119 ?_
                    refine jv_iadd hx hb dL_isWaySo_120 ?_
                    refine jv_icmp_ne (tgt := 128) hx hb dL_isWaySo_121 (by decide) (by omega) (by omega) (fun c_56 => ?_) (fun c_56 => ?_)
                    · refine jv_iconst hx hb dL_isWaySo_128 ?_
                      exact K129 3 u_54 (by exact (stp_c hnA (by omega)).symm) H _ _ (wP_sub (bc := [bBD G x st sv bu di se wy ta tt rp, bState G st t0 t1 al, bText G t0 a0 n0 g0, bText G t1 a1 n1 g1, bGrid G di db u_54, bWay G wy wv (wL g0 g1 n0 n1) f1, bFour G qf cc]) hP [2, 3, 4, 5, 6, 0, 1] rfl) (wD_sub (bc := [bBD G x st sv bu di se wy ta tt rp, bState G st t0 t1 al, bText G t0 a0 n0 g0, bText G t1 a1 n1 g1, bGrid G di db u_54, bWay G wy wv (wL g0 g1 n0 n1) f1, bFour G qf cc]) hD [2, 3, 4, 5, 6, 0, 1] (by decide) rfl) hS (lv_sub hl [1, 2, 3, 4, 5, 6] rfl)
                    · refine jv_iconst hx hb dL_isWaySo_124 ?_
                      refine lv_goto (tgt := 129) hx hb dL_isWaySo_125 (by decide) ?_
                      exact K129 2 u_54 (by exact (stp_b hnA (by omega) (by omega)).symm) H _ _ (wP_sub (bc := [bBD G x st sv bu di se wy ta tt rp, bState G st t0 t1 al, bText G t0 a0 n0 g0, bText G t1 a1 n1 g1, bGrid G di db u_54, bWay G wy wv (wL g0 g1 n0 n1) f1, bFour G qf cc]) hP [2, 3, 4, 5, 6, 0, 1] rfl) (wD_sub (bc := [bBD G x st sv bu di se wy ta tt rp, bState G st t0 t1 al, bText G t0 a0 n0 g0, bText G t1 a1 n1 g1, bGrid G di db u_54, bWay G wy wv (wL g0 g1 n0 n1) f1, bFour G qf cc]) hD [2, 3, 4, 5, 6, 0, 1] (by decide) rfl) hS (lv_sub hl [1, 2, 3, 4, 5, 6] rfl)
                · refine lv_iload hx hb dL_isWaySo_100 (lv_at hl 0 rfl) ?_
                  refine lv_goto (tgt := 129) hx hb dL_isWaySo_102 (by decide) ?_
                  exact K129 co u_50 (by exact hco1.trans (stp_a (by omega) (by omega) (by omega)).symm) H _ _ (wP_sub (bc := [bBD G x st sv bu di se wy ta tt rp, bState G st t0 t1 al, bText G t0 a0 n0 g0, bText G t1 a1 n1 g1, bGrid G di db u_50, bWay G wy wv (wL g0 g1 n0 n1) f1, bFour G qf cc]) hP [2, 3, 4, 5, 6, 0, 1] rfl) (wD_sub (bc := [bBD G x st sv bu di se wy ta tt rp, bState G st t0 t1 al, bText G t0 a0 n0 g0, bText G t1 a1 n1 g1, bGrid G di db u_50, bWay G wy wv (wL g0 g1 n0 n1) f1, bFour G qf cc]) hD [2, 3, 4, 5, 6, 0, 1] (by decide) rfl) hS (lv_sub hl [1, 2, 3, 4, 5, 6] rfl)
          refine lv_iload_n hx hb dL_isWaySo_40 rfl (lv_at hl 2 rfl) ?_
          refine jv_if_le (tgt := 71) hx hb dL_isWaySo_41 (by decide) (by omega) (fun c_57 => ?_) (fun c_57 => ?_)
          · refine jv_iconst hx hb dL_isWaySo_71 ?_
            exact K72 1 r_25 u_24 (by omega) (by exact ⟨by omega, fun _ _ => by first | exact (cst_n (by assumption)).symm | (exfalso; omega)⟩) H _ _ (wP_sub (bc := [bBD G x st sv bu di se wy ta tt rp, bState G st t0 t1 al, bText G t0 a0 n0 g0, bText G t1 a1 n1 g1, bGrid G di db u_24, bWay G wy wv (wL g0 g1 n0 n1) f1, bFour G qf cc]) hP [2, 3, 4, 5, 6, 0, 1] rfl) (wD_sub (bc := [bBD G x st sv bu di se wy ta tt rp, bState G st t0 t1 al, bText G t0 a0 n0 g0, bText G t1 a1 n1 g1, bGrid G di db u_24, bWay G wy wv (wL g0 g1 n0 n1) f1, bFour G qf cc]) hD [2, 3, 4, 5, 6, 0, 1] (by decide) rfl) hS (lv_sub hl [1, 2, 3, 4, 5, 6, 0] rfl)
          · refine lv_iload_n hx hb dL_isWaySo_44 rfl (lv_at hl 3 rfl) ?_
            refine jv_if_le (tgt := 71) hx hb dL_isWaySo_45 (by decide) (by omega) (fun c_58 => ?_) (fun c_58 => ?_)
            · refine jv_iconst hx hb dL_isWaySo_71 ?_
              exact K72 1 r_25 u_24 (by omega) (by exact ⟨by omega, fun _ _ => by first | exact (cst_n (by assumption)).symm | (exfalso; omega)⟩) H _ _ (wP_sub (bc := [bBD G x st sv bu di se wy ta tt rp, bState G st t0 t1 al, bText G t0 a0 n0 g0, bText G t1 a1 n1 g1, bGrid G di db u_24, bWay G wy wv (wL g0 g1 n0 n1) f1, bFour G qf cc]) hP [2, 3, 4, 5, 6, 0, 1] rfl) (wD_sub (bc := [bBD G x st sv bu di se wy ta tt rp, bState G st t0 t1 al, bText G t0 a0 n0 g0, bText G t1 a1 n1 g1, bGrid G di db u_24, bWay G wy wv (wL g0 g1 n0 n1) f1, bFour G qf cc]) hD [2, 3, 4, 5, 6, 0, 1] (by decide) rfl) hS (lv_sub hl [1, 2, 3, 4, 5, 6, 0] rfl)
            · refine lv_aload_n hx hb dL_isWaySo_48 rfl (lv_at hl 1 rfl) ?_
              refine jv_iconst hx hb dL_isWaySo_49 ?_
              refine lv_iload_n hx hb dL_isWaySo_50 rfl (lv_at hl 2 rfl) ?_
              refine jv_iconst hx hb dL_isWaySo_51 ?_
              refine jv_isub hx hb dL_isWaySo_52 ?_
              refine kV ⟨hx, hb, hml, hown, hts⟩ hK hA hS hP hD [.int (jz 0), .int (jz (i - 1))] [] (mX8_letter_0_k l G x st sv bu di se wy ta tt rp t0 t1 al a0 n0 g0 a1 n1 g1 0 (i - 1) (by omega) (by omega) (by omega) (by omega) (by omega)) lkL_52 [2, 3, 4, 5] [0, 1, 6] (br := [bWay G wy wv (wL g0 g1 n0 n1) f1, bFour G qf cc, bGrid G di db u_24]) rfl rfl (by decide) 0 8 rfl rfl rfl rfl (Nat.le_of_ble_eq_true rfl) hl.1 dL_isWaySo_53 ⟨Nat.le_of_ble_eq_true rfl, Nat.le_of_ble_eq_true rfl⟩ ⟨Nat.le_of_ble_eq_true rfl, Nat.le_of_ble_eq_true rfl⟩ (fun u9 H locs hp9 hP hD hS => ?_)
              have hP : wP G [bWay G wy wv (wL g0 g1 n0 n1) f1, bFour G qf cc, bGrid G di db u_24, bBD G x st sv bu di se wy ta tt rp, bState G st t0 t1 al, bText G t0 a0 n0 g0, bText G t1 a1 n1 g1] H := hP
              have hD : wD A [bWay G wy wv (wL g0 g1 n0 n1) f1, bFour G qf cc, bGrid G di db u_24, bBD G x st sv bu di se wy ta tt rp, bState G st t0 t1 al, bText G t0 a0 n0 g0, bText G t1 a1 n1 g1] := hD
              show W p l e rmL_isWaySo s m args below meth c H locs 1 4 Q (F0 m 56 ls [.int (jz (g0 (i - 1)))])
              have hq0 := hg0 (i - 1) (by omega) (by omega)
              refine lv_aload_n hx hb dL_isWaySo_56 rfl (lv_at hl 1 rfl) ?_
              refine jv_iconst hx hb dL_isWaySo_57 ?_
              refine lv_iload_n hx hb dL_isWaySo_58 rfl (lv_at hl 3 rfl) ?_
              refine jv_iconst hx hb dL_isWaySo_59 ?_
              refine jv_isub hx hb dL_isWaySo_60 ?_
              refine kV ⟨hx, hb, hml, hown, hts⟩ hK hA hS hP hD [.int (jz 1), .int (jz (j - 1))] [.int (jz (g0 (i - 1)))] (mX8_letter_1_k l G x st sv bu di se wy ta tt rp t0 t1 al a0 n0 g0 a1 n1 g1 1 (j - 1) (by omega) (by omega) (by omega) (by omega) (by omega)) lkL_52 [3, 4, 5, 6] [0, 1, 2] (br := [bWay G wy wv (wL g0 g1 n0 n1) f1, bFour G qf cc, bGrid G di db u_24]) rfl rfl (by decide) 0 8 rfl rfl rfl rfl (Nat.le_of_ble_eq_true rfl) hl.1 dL_isWaySo_61 ⟨Nat.le_of_ble_eq_true rfl, Nat.le_of_ble_eq_true rfl⟩ ⟨Nat.le_of_ble_eq_true rfl, Nat.le_of_ble_eq_true rfl⟩ (fun u9 H locs hp9 hP hD hS => ?_)
              have hP : wP G [bWay G wy wv (wL g0 g1 n0 n1) f1, bFour G qf cc, bGrid G di db u_24, bBD G x st sv bu di se wy ta tt rp, bState G st t0 t1 al, bText G t0 a0 n0 g0, bText G t1 a1 n1 g1] H := hP
              have hD : wD A [bWay G wy wv (wL g0 g1 n0 n1) f1, bFour G qf cc, bGrid G di db u_24, bBD G x st sv bu di se wy ta tt rp, bState G st t0 t1 al, bText G t0 a0 n0 g0, bText G t1 a1 n1 g1] := hD
              show W p l e rmL_isWaySo s m args below meth c H locs 1 4 Q (F0 m 64 ls [.int (jz (g1 (j - 1))), .int (jz (g0 (i - 1)))])
              have hq1 := hg1 (j - 1) (by omega) (by omega)
              refine jv_icmp_ne (tgt := 71) hx hb dL_isWaySo_64 (by decide) (by omega) (by omega) (fun c_61 => ?_) (fun c_61 => ?_)
              · refine jv_iconst hx hb dL_isWaySo_71 ?_
                exact K72 1 r_25 u_24 (by omega) (by exact ⟨by omega, fun _ _ => by first | exact (cst_n (by assumption)).symm | (exfalso; omega)⟩) H _ _ (wP_sub (bc := [bBD G x st sv bu di se wy ta tt rp, bState G st t0 t1 al, bText G t0 a0 n0 g0, bText G t1 a1 n1 g1, bGrid G di db u_24, bWay G wy wv (wL g0 g1 n0 n1) f1, bFour G qf cc]) hP [3, 4, 5, 6, 2, 0, 1] rfl) (wD_sub (bc := [bBD G x st sv bu di se wy ta tt rp, bState G st t0 t1 al, bText G t0 a0 n0 g0, bText G t1 a1 n1 g1, bGrid G di db u_24, bWay G wy wv (wL g0 g1 n0 n1) f1, bFour G qf cc]) hD [3, 4, 5, 6, 2, 0, 1] (by decide) rfl) hS (lv_sub hl [1, 2, 3, 4, 5, 6, 0] rfl)
              · refine jv_iconst hx hb dL_isWaySo_67 ?_
                refine lv_goto (tgt := 72) hx hb dL_isWaySo_68 (by decide) ?_
                exact K72 0 r_25 u_24 (by omega) (by exact ⟨by omega, fun _ _ => (cst_e c_61).symm⟩) H _ _ (wP_sub (bc := [bBD G x st sv bu di se wy ta tt rp, bState G st t0 t1 al, bText G t0 a0 n0 g0, bText G t1 a1 n1 g1, bGrid G di db u_24, bWay G wy wv (wL g0 g1 n0 n1) f1, bFour G qf cc]) hP [3, 4, 5, 6, 2, 0, 1] rfl) (wD_sub (bc := [bBD G x st sv bu di se wy ta tt rp, bState G st t0 t1 al, bText G t0 a0 n0 g0, bText G t1 a1 n1 g1, bGrid G di db u_24, bWay G wy wv (wL g0 g1 n0 n1) f1, bFour G qf cc]) hD [3, 4, 5, 6, 2, 0, 1] (by decide) rfl) hS (lv_sub hl [1, 2, 3, 4, 5, 6, 0] rfl)
    exact K27 (((((wL g0 g1 n0 n1) - 1) + 1).toNat) + 1) q_3 u_4 u_5 ((fun _ => 0)) n0 n1 ((wL g0 g1 n0 n1) - 1) (Nat.lt_succ_self _) (by omega) (by rw [show wL g0 g1 n0 n1 - 1 - (wL g0 g1 n0 n1 - 1) = 0 by omega]; exact wQ_0 hn0 hn1) H _ _ (wP_sub (bc := [bBD G x st sv bu di se wy ta tt rp, bState G st t0 t1 al, bText G t0 a0 n0 g0, bText G t1 a1 n1 g1, bGrid G di db u_4, bWay G wy wv (wL g0 g1 n0 n1) u_5, bFour G q_3 ((fun _ => 0))]) hP [1, 2, 3, 4, 5, 6, 0] rfl) (wD_sub (bc := [bBD G x st sv bu di se wy ta tt rp, bState G st t0 t1 al, bText G t0 a0 n0 g0, bText G t1 a1 n1 g1, bGrid G di db u_4, bWay G wy wv (wL g0 g1 n0 n1) u_5, bFour G q_3 ((fun _ => 0))]) hD [1, 2, 3, 4, 5, 6, 0] (by decide) rfl) hS (lv_sub hl [5, 4, 3, 2, 1, 0] rfl)
  exact KH s.heap [] hP hD hS
abbrev rmL_areBoundsSo : Room := { frames := 6, cells := 0, slots := 0, locals := 136 }
set_option maxHeartbeats 4000000 in
set_option maxRecDepth 100000 in
theorem mL_areBoundsSo (l : Launch) (G : GG) (x : Nat) (st : Nat) (sv : Nat) (bu : Nat) (di : Nat) (se : Nat) (wy : Nat) (ta : Nat) (tt : Nat) (rp : Nat) (t0 : Nat) (t1 : Nat) (al : Int) (a0 : Nat) (n0 : Int) (g0 : Int → Int) (a1 : Nat) (n1 : Int) (g1 : Int → Int) (db : Nat) (dh : Int → Int) (sb : Nat) (sh : Int → Int) (hn0 : 0 ≤ n0 ∧ n0 ≤ 20) (hn1 : 0 ≤ n1 ∧ n1 ≤ 20) (hg0 : ∀ j : Int, 0 ≤ j → j < n0 → 0 ≤ g0 j ∧ g0 j < 4) (hg1 : ∀ j : Int, 0 ≤ j → j < n1 → 0 ≤ g1 j ∧ g1 j < 4) : Ct l yL_areBoundsSo cL_areBoundsSo 10 (some .boolean) rmL_areBoundsSo G [.ref x] [bBD G x st sv bu di se wy ta tt rp, bState G st t0 t1 al, bText G t0 a0 n0 g0, bText G t1 a1 n1 g1, bGrid G di db dh, bGrid G se sb sh] (fun uo : (Int → Int) × (Int → Int) => some (.int (jz 1))) (fun uo => True) (fun uo => [bBD G x st sv bu di se wy ta tt rp, bState G st t0 t1 al, bText G t0 a0 n0 g0, bText G t1 a1 n1 g1, bGrid G di db uo.1, bGrid G se sb uo.2]) := by
  refine cof (by decide) (Nat.le_of_ble_eq_true rfl) ?_
  intro p e s m args below meth c A ls hx hb hr hml hown hts hlocks hin hA hK hP hD hS hl Q hQ
  have hown : s.vm.findClass RL = some m.cls := hown
  have hl : lv_has ls 10 [(0, .ref x)] := hl
  have KH : ∀ (H : Heap) (locs : List Loc), wP G [bBD G x st sv bu di se wy ta tt rp, bState G st t0 t1 al, bText G t0 a0 n0 g0, bText G t1 a1 n1 g1, bGrid G di db dh, bGrid G se sb sh] H → wD A [bBD G x st sv bu di se wy ta tt rp, bState G st t0 t1 al, bText G t0 a0 n0 g0, bText G t1 a1 n1 g1, bGrid G di db dh, bGrid G se sb sh] → va_S A s.heap H locs → W p l e rmL_areBoundsSo s m args below meth c H locs 0 0 Q (F0 m 0 ls []) := by
    intro H locs hP hD hS
    have hdb := D_bd (c := 1) (Or.inr rfl) g0 g1 (i := n0) (j := n1) (by omega) (by omega)
    have hdm := D_max g0 g1 (i := n0) (j := n1) (by omega) (by omega)
    have hdf := D_diff g0 g1 (i := n0) (j := n1) (by omega) (by omega)
    have hfd := fd_le g0 g1 (m := n0) (n := n1) (by omega) (by omega)
    have hfe := argI_bd (fun i => D 0 g0 g1 i n1) hn0.1
    have hfb := D_bd (c := 0) (Or.inl rfl) g0 g1 (i := argI (fun i => D 0 g0 g1 i n1) n0) (j := n1) (by omega) (by omega)
    have hsm := sim_ok (d := D 1 g0 g1 n0 n1) (g := max n0 n1) (by omega) (by omega) (by omega)
    have hmu : 0 ≤ (n0 + 1) * (n1 + 1) ∧ (n0 + 1) * (n1 + 1) ≤ 441 := ⟨Int.mul_nonneg (by omega) (by omega), Int.le_trans (Int.mul_le_mul_of_nonneg_right (show n0 + 1 ≤ 21 by omega) (show 0 ≤ n1 + 1 by omega)) (by omega)⟩
    refine lv_aload_n hx hb dL_areBoundsSo_0 rfl (lv_at hl 0 rfl) ?_
    refine jv_iconst hx hb dL_areBoundsSo_1 ?_
    refine kV ⟨hx, hb, hml, hown, hts⟩ hK hA hS hP hD [.int (jz 0)] [] (mX8_length_0 l G x st sv bu di se wy ta tt rp t0 t1 al a0 n0 g0 a1 n1 g1 0 (by omega)) lkL_8 [0, 1, 2, 3] [4, 5] (br := [bGrid G di db dh, bGrid G se sb sh]) rfl rfl (by decide) 0 8 rfl rfl rfl rfl (Nat.le_of_ble_eq_true rfl) hl.1 dL_areBoundsSo_2 ⟨Nat.le_of_ble_eq_true rfl, Nat.le_of_ble_eq_true rfl⟩ ⟨Nat.le_of_ble_eq_true rfl, Nat.le_of_ble_eq_true rfl⟩ (fun u9 H locs hp9 hP hD hS => ?_)
    have hP : wP G [bGrid G di db dh, bGrid G se sb sh, bBD G x st sv bu di se wy ta tt rp, bState G st t0 t1 al, bText G t0 a0 n0 g0, bText G t1 a1 n1 g1] H := hP
    have hD : wD A [bGrid G di db dh, bGrid G se sb sh, bBD G x st sv bu di se wy ta tt rp, bState G st t0 t1 al, bText G t0 a0 n0 g0, bText G t1 a1 n1 g1] := hD
    show W p l e rmL_areBoundsSo s m args below meth c H locs 0 0 Q (F0 m 5 ls [.int (jz n0)])
    refine lv_istore_n (lv' := [(1, .int (jz n0)), (0, .ref x)]) hx hb dL_areBoundsSo_5 rfl hl (by decide) rfl (fun ls hl => ?_)
    refine lv_aload_n hx hb dL_areBoundsSo_6 rfl (lv_at hl 1 rfl) ?_
    refine jv_iconst hx hb dL_areBoundsSo_7 ?_
    refine kV ⟨hx, hb, hml, hown, hts⟩ hK hA hS hP hD [.int (jz 1)] [] (mX8_length_1 l G x st sv bu di se wy ta tt rp t0 t1 al a0 n0 g0 a1 n1 g1 1 (by omega)) lkL_8 [2, 3, 4, 5] [0, 1] (br := [bGrid G di db dh, bGrid G se sb sh]) rfl rfl (by decide) 0 8 rfl rfl rfl rfl (Nat.le_of_ble_eq_true rfl) hl.1 dL_areBoundsSo_8 ⟨Nat.le_of_ble_eq_true rfl, Nat.le_of_ble_eq_true rfl⟩ ⟨Nat.le_of_ble_eq_true rfl, Nat.le_of_ble_eq_true rfl⟩ (fun u9 H locs hp9 hP hD hS => ?_)
    have hP : wP G [bGrid G di db dh, bGrid G se sb sh, bBD G x st sv bu di se wy ta tt rp, bState G st t0 t1 al, bText G t0 a0 n0 g0, bText G t1 a1 n1 g1] H := hP
    have hD : wD A [bGrid G di db dh, bGrid G se sb sh, bBD G x st sv bu di se wy ta tt rp, bState G st t0 t1 al, bText G t0 a0 n0 g0, bText G t1 a1 n1 g1] := hD
    show W p l e rmL_areBoundsSo s m args below meth c H locs 0 0 Q (F0 m 11 ls [.int (jz n1)])
    refine lv_istore_n (lv' := [(2, .int (jz n1)), (1, .int (jz n0)), (0, .ref x)]) hx hb dL_areBoundsSo_11 rfl hl (by decide) rfl (fun ls hl => ?_)
    refine lv_aload_n hx hb dL_areBoundsSo_12 rfl (lv_at hl 2 rfl) ?_
    refine kV ⟨hx, hb, hml, hown, hts⟩ hK hA hS hP hD [] [] (mX8_distance l G x st sv bu di se wy ta tt rp t0 t1 al a0 n0 g0 a1 n1 g1 db dh (by omega) (by omega) (by exact hg0) (by exact hg1)) lkL_61 [2, 3, 4, 5, 0] [1] (br := [bGrid G se sb sh]) rfl rfl (by decide) 0 8 rfl rfl rfl rfl (Nat.le_of_ble_eq_true rfl) hl.1 dL_areBoundsSo_13 ⟨Nat.le_of_ble_eq_true rfl, Nat.le_of_ble_eq_true rfl⟩ ⟨Nat.le_of_ble_eq_true rfl, Nat.le_of_ble_eq_true rfl⟩ (fun u9 H locs hp9 hP hD hS => ?_)
    obtain ⟨u_3, rfl⟩ : ∃ z, z = u9 := ⟨_, rfl⟩
    have hP : wP G [bGrid G se sb sh, bBD G x st sv bu di se wy ta tt rp, bState G st t0 t1 al, bText G t0 a0 n0 g0, bText G t1 a1 n1 g1, bGrid G di db u_3] H := hP
    have hD : wD A [bGrid G se sb sh, bBD G x st sv bu di se wy ta tt rp, bState G st t0 t1 al, bText G t0 a0 n0 g0, bText G t1 a1 n1 g1, bGrid G di db u_3] := hD
    show W p l e rmL_areBoundsSo s m args below meth c H locs 0 0 Q (F0 m 16 ls [.int (jz (D 1 g0 g1 n0 n1))])
    refine lv_istore_n (lv' := [(3, .int (jz (D 1 g0 g1 n0 n1))), (2, .int (jz n1)), (1, .int (jz n0)), (0, .ref x)]) hx hb dL_areBoundsSo_16 rfl hl (by decide) rfl (fun ls hl => ?_)
    have K28 : ∀ (mx0 : Int) , (mx0 = max n0 n1) → ∀ (H : Heap) (locs : List Loc) (ls : Array Slot), wP G [bGrid G se sb sh, bBD G x st sv bu di se wy ta tt rp, bState G st t0 t1 al, bText G t0 a0 n0 g0, bText G t1 a1 n1 g1, bGrid G di db u_3] H → wD A [bGrid G se sb sh, bBD G x st sv bu di se wy ta tt rp, bState G st t0 t1 al, bText G t0 a0 n0 g0, bText G t1 a1 n1 g1, bGrid G di db u_3] → va_S A s.heap H locs → lv_has ls 10 [(0, .ref x), (1, .int (jz n0)), (2, .int (jz n1)), (3, .int (jz (D 1 g0 g1 n0 n1)))] → W p l e rmL_areBoundsSo s m args below meth c H locs 0 0 Q (F0 m 28 ls [.int (jz mx0), .int (jz (D 1 g0 g1 n0 n1))]) := by
      intro mx0 hmx H locs ls hP hD hS hl
      refine jv_icmp_gt (tgt := 137) hx hb dL_areBoundsSo_28 (by decide) (by omega) (by omega) (fun c_4 => ?_) (fun c_4 => ?_)
      · exfalso; omega
      · have K46 : ∀ (df0 : Int) , (df0 = n0 - n1 ∨ df0 = n1 - n0) → ∀ (H : Heap) (locs : List Loc) (ls : Array Slot), wP G [bGrid G se sb sh, bBD G x st sv bu di se wy ta tt rp, bState G st t0 t1 al, bText G t0 a0 n0 g0, bText G t1 a1 n1 g1, bGrid G di db u_3] H → wD A [bGrid G se sb sh, bBD G x st sv bu di se wy ta tt rp, bState G st t0 t1 al, bText G t0 a0 n0 g0, bText G t1 a1 n1 g1, bGrid G di db u_3] → va_S A s.heap H locs → lv_has ls 10 [(0, .ref x), (1, .int (jz n0)), (2, .int (jz n1)), (3, .int (jz (D 1 g0 g1 n0 n1)))] → W p l e rmL_areBoundsSo s m args below meth c H locs 0 0 Q (F0 m 46 ls [.int (jz df0), .int (jz (D 1 g0 g1 n0 n1))]) := by
          intro df0 hdf0 H locs ls hP hD hS hl
          refine jv_icmp_lt (tgt := 137) hx hb dL_areBoundsSo_46 (by decide) (by omega) (by omega) (fun c_5 => ?_) (fun c_5 => ?_)
          · exfalso; omega
          · refine lv_aload_n hx hb dL_areBoundsSo_49 rfl (lv_at hl 0 rfl) ?_
            refine kV ⟨hx, hb, hml, hown, hts⟩ hK hA hS hP hD [] [] (mX8_similarity l G x st sv bu di se wy ta tt rp t0 t1 al a0 n0 g0 a1 n1 g1 db u_3 (by omega) (by omega) (by exact hg0) (by exact hg1)) lkL_73 [1, 2, 3, 4, 5] [0] (br := [bGrid G se sb sh]) rfl rfl (by decide) 0 8 rfl rfl rfl rfl (Nat.le_of_ble_eq_true rfl) hl.1 dL_areBoundsSo_50 ⟨Nat.le_of_ble_eq_true rfl, Nat.le_of_ble_eq_true rfl⟩ ⟨Nat.le_of_ble_eq_true rfl, Nat.le_of_ble_eq_true rfl⟩ (fun u9 H locs hp9 hP hD hS => ?_)
            obtain ⟨u_6, rfl⟩ : ∃ z, z = u9 := ⟨_, rfl⟩
            have hP : wP G [bGrid G se sb sh, bBD G x st sv bu di se wy ta tt rp, bState G st t0 t1 al, bText G t0 a0 n0 g0, bText G t1 a1 n1 g1, bGrid G di db u_6] H := hP
            have hD : wD A [bGrid G se sb sh, bBD G x st sv bu di se wy ta tt rp, bState G st t0 t1 al, bText G t0 a0 n0 g0, bText G t1 a1 n1 g1, bGrid G di db u_6] := hD
            show W p l e rmL_areBoundsSo s m args below meth c H locs 0 0 Q (F0 m 53 ls [.double (sim (D 1 g0 g1 n0 n1) (max n0 n1))])
            refine lv_dconst0 hx hb dL_areBoundsSo_53 ?_
            refine jv_dcmp hx hb dL_areBoundsSo_54 ?_
            have hd_7 := dc_jr .l (sim (D 1 g0 g1 n0 n1) (max n0 n1)) FP.dconst0
            refine jv_if_lt (tgt := 137) hx hb dL_areBoundsSo_55 (by decide) (by omega) (fun c_8 => ?_) (fun c_8 => ?_)
            · exfalso; omega
            · refine lv_aload_n hx hb dL_areBoundsSo_58 rfl (lv_at hl 0 rfl) ?_
              refine kV ⟨hx, hb, hml, hown, hts⟩ hK hA hS hP hD [] [] (mX8_similarity l G x st sv bu di se wy ta tt rp t0 t1 al a0 n0 g0 a1 n1 g1 db u_6 (by omega) (by omega) (by exact hg0) (by exact hg1)) lkL_73 [1, 2, 3, 4, 5] [0] (br := [bGrid G se sb sh]) rfl rfl (by decide) 0 8 rfl rfl rfl rfl (Nat.le_of_ble_eq_true rfl) hl.1 dL_areBoundsSo_59 ⟨Nat.le_of_ble_eq_true rfl, Nat.le_of_ble_eq_true rfl⟩ ⟨Nat.le_of_ble_eq_true rfl, Nat.le_of_ble_eq_true rfl⟩ (fun u9 H locs hp9 hP hD hS => ?_)
              obtain ⟨u_9, rfl⟩ : ∃ z, z = u9 := ⟨_, rfl⟩
              have hP : wP G [bGrid G se sb sh, bBD G x st sv bu di se wy ta tt rp, bState G st t0 t1 al, bText G t0 a0 n0 g0, bText G t1 a1 n1 g1, bGrid G di db u_9] H := hP
              have hD : wD A [bGrid G se sb sh, bBD G x st sv bu di se wy ta tt rp, bState G st t0 t1 al, bText G t0 a0 n0 g0, bText G t1 a1 n1 g1, bGrid G di db u_9] := hD
              show W p l e rmL_areBoundsSo s m args below meth c H locs 0 0 Q (F0 m 62 ls [.double (sim (D 1 g0 g1 n0 n1) (max n0 n1))])
              refine lv_dconst1 hx hb dL_areBoundsSo_62 ?_
              refine jv_dcmp hx hb dL_areBoundsSo_63 ?_
              have hd_10 := dc_jr .g (sim (D 1 g0 g1 n0 n1) (max n0 n1)) FP.dconst1
              refine jv_if_gt (tgt := 137) hx hb dL_areBoundsSo_64 (by decide) (by omega) (fun c_11 => ?_) (fun c_11 => ?_)
              · exfalso; omega
              · refine lv_aload_n hx hb dL_areBoundsSo_67 rfl (lv_at hl 0 rfl) ?_
                refine jv_bipush hx hb dL_areBoundsSo_68 (by decide) ?_
                refine kV ⟨hx, hb, hml, hown, hts⟩ hK hA hS hP hD [.int (jz 20)] [] (mX8_band_k l G x st sv bu di se wy ta tt rp t0 t1 al a0 n0 g0 a1 n1 g1 20 (by omega) (by omega) (by omega) (by omega)) lkL_77 [1, 2, 3, 4] [0, 5] (br := [bGrid G se sb sh, bGrid G di db u_9]) rfl rfl (by decide) 0 8 rfl rfl rfl rfl (Nat.le_of_ble_eq_true rfl) hl.1 dL_areBoundsSo_70 ⟨Nat.le_of_ble_eq_true rfl, Nat.le_of_ble_eq_true rfl⟩ ⟨Nat.le_of_ble_eq_true rfl, Nat.le_of_ble_eq_true rfl⟩ (fun u9 H locs hp9 hP hD hS => ?_)
                have hP : wP G [bGrid G se sb sh, bGrid G di db u_9, bBD G x st sv bu di se wy ta tt rp, bState G st t0 t1 al, bText G t0 a0 n0 g0, bText G t1 a1 n1 g1] H := hP
                have hD : wD A [bGrid G se sb sh, bGrid G di db u_9, bBD G x st sv bu di se wy ta tt rp, bState G st t0 t1 al, bText G t0 a0 n0 g0, bText G t1 a1 n1 g1] := hD
                show W p l e rmL_areBoundsSo s m args below meth c H locs 0 0 Q (F0 m 73 ls [.int (jz (bandI 20 n1 (n0 + 1)))])
                refine jv_to (z' := (n0 + 1) * (n1 + 1)) (by exact bandI_20 hn0 hn1) ?_
                refine lv_iload_n hx hb dL_areBoundsSo_73 rfl (lv_at hl 1 rfl) ?_
                refine jv_iconst hx hb dL_areBoundsSo_74 ?_
                refine jv_iadd hx hb dL_areBoundsSo_75 ?_
                refine lv_iload_n hx hb dL_areBoundsSo_76 rfl (lv_at hl 2 rfl) ?_
                refine jv_iconst hx hb dL_areBoundsSo_77 ?_
                refine jv_iadd hx hb dL_areBoundsSo_78 ?_
                refine jv_imul hx hb dL_areBoundsSo_79 ?_
                refine jv_icmp_ne (tgt := 137) hx hb dL_areBoundsSo_80 (by decide) (by omega) (by omega) (fun c_13 => ?_) (fun c_13 => ?_)
                · exfalso; omega
                · refine lv_aload_n hx hb dL_areBoundsSo_83 rfl (lv_at hl 0 rfl) ?_
                  refine kV ⟨hx, hb, hml, hown, hts⟩ hK hA hS hP hD [] [] (mX8_foundDistance l G x st sv bu di se wy ta tt rp t0 t1 al a0 n0 g0 a1 n1 g1 sb sh (by omega) (by omega) (by exact hg0) (by exact hg1)) lkL_80 [2, 3, 4, 5, 0] [1] (br := [bGrid G di db u_9]) rfl rfl (by decide) 0 8 rfl rfl rfl rfl (Nat.le_of_ble_eq_true rfl) hl.1 dL_areBoundsSo_84 ⟨Nat.le_of_ble_eq_true rfl, Nat.le_of_ble_eq_true rfl⟩ ⟨Nat.le_of_ble_eq_true rfl, Nat.le_of_ble_eq_true rfl⟩ (fun u9 H locs hp9 hP hD hS => ?_)
                  obtain ⟨u_14, rfl⟩ : ∃ z, z = u9 := ⟨_, rfl⟩
                  have hP : wP G [bGrid G di db u_9, bBD G x st sv bu di se wy ta tt rp, bState G st t0 t1 al, bText G t0 a0 n0 g0, bText G t1 a1 n1 g1, bGrid G se sb u_14] H := hP
                  have hD : wD A [bGrid G di db u_9, bBD G x st sv bu di se wy ta tt rp, bState G st t0 t1 al, bText G t0 a0 n0 g0, bText G t1 a1 n1 g1, bGrid G se sb u_14] := hD
                  show W p l e rmL_areBoundsSo s m args below meth c H locs 0 0 Q (F0 m 87 ls [.int (jz (D 0 g0 g1 (argI (fun i => D 0 g0 g1 i n1) n0) n1))])
                  refine lv_iload_n hx hb dL_areBoundsSo_87 rfl (lv_at hl 3 rfl) ?_
                  refine jv_icmp_gt (tgt := 137) hx hb dL_areBoundsSo_88 (by decide) (by omega) (by omega) (fun c_15 => ?_) (fun c_15 => ?_)
                  · exfalso; omega
                  · refine lv_aload_n hx hb dL_areBoundsSo_91 rfl (lv_at hl 0 rfl) ?_
                    refine kV ⟨hx, hb, hml, hown, hts⟩ hK hA hS hP hD [] [] (mX8_foundDistance l G x st sv bu di se wy ta tt rp t0 t1 al a0 n0 g0 a1 n1 g1 sb u_14 (by omega) (by omega) (by exact hg0) (by exact hg1)) lkL_80 [1, 2, 3, 4, 5] [0] (br := [bGrid G di db u_9]) rfl rfl (by decide) 0 8 rfl rfl rfl rfl (Nat.le_of_ble_eq_true rfl) hl.1 dL_areBoundsSo_92 ⟨Nat.le_of_ble_eq_true rfl, Nat.le_of_ble_eq_true rfl⟩ ⟨Nat.le_of_ble_eq_true rfl, Nat.le_of_ble_eq_true rfl⟩ (fun u9 H locs hp9 hP hD hS => ?_)
                    obtain ⟨u_16, rfl⟩ : ∃ z, z = u9 := ⟨_, rfl⟩
                    have hP : wP G [bGrid G di db u_9, bBD G x st sv bu di se wy ta tt rp, bState G st t0 t1 al, bText G t0 a0 n0 g0, bText G t1 a1 n1 g1, bGrid G se sb u_16] H := hP
                    have hD : wD A [bGrid G di db u_9, bBD G x st sv bu di se wy ta tt rp, bState G st t0 t1 al, bText G t0 a0 n0 g0, bText G t1 a1 n1 g1, bGrid G se sb u_16] := hD
                    show W p l e rmL_areBoundsSo s m args below meth c H locs 0 0 Q (F0 m 95 ls [.int (jz (D 0 g0 g1 (argI (fun i => D 0 g0 g1 i n1) n0) n1))])
                    refine lv_iload_n hx hb dL_areBoundsSo_95 rfl (lv_at hl 2 rfl) ?_
                    refine jv_icmp_gt (tgt := 137) hx hb dL_areBoundsSo_96 (by decide) (by omega) (by omega) (fun c_17 => ?_) (fun c_17 => ?_)
                    · exfalso; omega
                    · refine lv_aload_n hx hb dL_areBoundsSo_99 rfl (lv_at hl 0 rfl) ?_
                      refine kV ⟨hx, hb, hml, hown, hts⟩ hK hA hS hP hD [] [] (mX8_foundEnd l G x st sv bu di se wy ta tt rp t0 t1 al a0 n0 g0 a1 n1 g1 sb u_16 (by omega) (by omega) (by exact hg0) (by exact hg1)) lkL_83 [1, 2, 3, 4, 5] [0] (br := [bGrid G di db u_9]) rfl rfl (by decide) 0 8 rfl rfl rfl rfl (Nat.le_of_ble_eq_true rfl) hl.1 dL_areBoundsSo_100 ⟨Nat.le_of_ble_eq_true rfl, Nat.le_of_ble_eq_true rfl⟩ ⟨Nat.le_of_ble_eq_true rfl, Nat.le_of_ble_eq_true rfl⟩ (fun u9 H locs hp9 hP hD hS => ?_)
                      obtain ⟨u_18, rfl⟩ : ∃ z, z = u9 := ⟨_, rfl⟩
                      have hP : wP G [bGrid G di db u_9, bBD G x st sv bu di se wy ta tt rp, bState G st t0 t1 al, bText G t0 a0 n0 g0, bText G t1 a1 n1 g1, bGrid G se sb u_18] H := hP
                      have hD : wD A [bGrid G di db u_9, bBD G x st sv bu di se wy ta tt rp, bState G st t0 t1 al, bText G t0 a0 n0 g0, bText G t1 a1 n1 g1, bGrid G se sb u_18] := hD
                      show W p l e rmL_areBoundsSo s m args below meth c H locs 0 0 Q (F0 m 103 ls [.int (jz (argI (fun i => D 0 g0 g1 i n1) n0))])
                      refine lv_iload_n hx hb dL_areBoundsSo_103 rfl (lv_at hl 1 rfl) ?_
                      refine jv_icmp_gt (tgt := 137) hx hb dL_areBoundsSo_104 (by decide) (by omega) (by omega) (fun c_19 => ?_) (fun c_19 => ?_)
                      · exfalso; omega
                      · refine lv_aload_n hx hb dL_areBoundsSo_107 rfl (lv_at hl 0 rfl) ?_
                        refine kV ⟨hx, hb, hml, hown, hts⟩ hK hA hS hP hD [] [] (mX8_similarity l G x st sv bu di se wy ta tt rp t0 t1 al a0 n0 g0 a1 n1 g1 db u_9 (by omega) (by omega) (by exact hg0) (by exact hg1)) lkL_73 [1, 2, 3, 4, 0] [5] (br := [bGrid G se sb u_18]) rfl rfl (by decide) 0 8 rfl rfl rfl rfl (Nat.le_of_ble_eq_true rfl) hl.1 dL_areBoundsSo_108 ⟨Nat.le_of_ble_eq_true rfl, Nat.le_of_ble_eq_true rfl⟩ ⟨Nat.le_of_ble_eq_true rfl, Nat.le_of_ble_eq_true rfl⟩ (fun u9 H locs hp9 hP hD hS => ?_)
                        obtain ⟨u_20, rfl⟩ : ∃ z, z = u9 := ⟨_, rfl⟩
                        have hP : wP G [bGrid G se sb u_18, bBD G x st sv bu di se wy ta tt rp, bState G st t0 t1 al, bText G t0 a0 n0 g0, bText G t1 a1 n1 g1, bGrid G di db u_20] H := hP
                        have hD : wD A [bGrid G se sb u_18, bBD G x st sv bu di se wy ta tt rp, bState G st t0 t1 al, bText G t0 a0 n0 g0, bText G t1 a1 n1 g1, bGrid G di db u_20] := hD
                        show W p l e rmL_areBoundsSo s m args below meth c H locs 0 0 Q (F0 m 111 ls [.double (sim (D 1 g0 g1 n0 n1) (max n0 n1))])
                        have K121 : ∀ (z0 : Int) , ((z0 = 1 ∧ D 1 g0 g1 n0 n1 = 0) ∨ (z0 = 0 ∧ D 1 g0 g1 n0 n1 ≠ 0)) → ∀ (H : Heap) (locs : List Loc) (ls : Array Slot), wP G [bGrid G se sb u_18, bBD G x st sv bu di se wy ta tt rp, bState G st t0 t1 al, bText G t0 a0 n0 g0, bText G t1 a1 n1 g1, bGrid G di db u_20] H → wD A [bGrid G se sb u_18, bBD G x st sv bu di se wy ta tt rp, bState G st t0 t1 al, bText G t0 a0 n0 g0, bText G t1 a1 n1 g1, bGrid G di db u_20] → va_S A s.heap H locs → lv_has ls 10 [(0, .ref x), (1, .int (jz n0)), (2, .int (jz n1)), (3, .int (jz (D 1 g0 g1 n0 n1)))] → W p l e rmL_areBoundsSo s m args below meth c H locs 0 0 Q (F0 m 121 ls [.int (jz z0)]) := by
                          intro z0 hz0 H locs ls hP hD hS hl
                          have K143 : ∀ (n9 : Nat) (h1 : Int → Int) (s1 : Int → Int) (b : Int) , (((21 : Int) - b).toNat) < n9 → (0 ≤ b ∧ b ≤ 21) → ∀ (H : Heap) (locs : List Loc) (ls : Array Slot), wP G [bBD G x st sv bu di se wy ta tt rp, bState G st t0 t1 al, bText G t0 a0 n0 g0, bText G t1 a1 n1 g1, bGrid G di db h1, bGrid G se sb s1] H → wD A [bBD G x st sv bu di se wy ta tt rp, bState G st t0 t1 al, bText G t0 a0 n0 g0, bText G t1 a1 n1 g1, bGrid G di db h1, bGrid G se sb s1] → va_S A s.heap H locs → lv_has ls 10 [(0, .ref x), (1, .int (jz n0)), (2, .int (jz n1)), (3, .int (jz (D 1 g0 g1 n0 n1))), (4, .int (jz 1)), (5, .int (jz b))] → W p l e rmL_areBoundsSo s m args below meth c H locs 0 0 Q (F0 m 143 ls []) := by
                            intro n9
                            induction n9 with
                            | zero => intro h1 s1 b hm9; exact absurd hm9 (Nat.not_lt_zero _)
                            | succ n9 ih143 =>
                              intro h1 s1 b hm9 hb0 H locs ls hP hD hS hl
                              refine lv_iload hx hb dL_areBoundsSo_143 (lv_at hl 5 rfl) ?_
                              refine jv_bipush hx hb dL_areBoundsSo_145 (by decide) ?_
                              refine jv_icmp_ge (tgt := 279) hx hb dL_areBoundsSo_147 (by decide) (by omega) (by omega) (fun c_21 => ?_) (fun c_21 => ?_)
                              · refine lv_iload hx hb dL_areBoundsSo_279 (lv_at hl 4 rfl) ?_
                                exact cret_i hx hb hr hlocks hS hP hD (Nat.le_of_ble_eq_true rfl) (Nat.le_of_ble_eq_true rfl) (jz_nb (show 1 = 0 ∨ 1 = 1 by omega)) dL_areBoundsSo_281 [0, 1, 2, 3, 4, 5] (by decide) ⟨h1, s1⟩ rfl trivial (congrArg (fun z : Int => some (Value.int (jz z))) (show 1 = 1 from by first | rfl | omega | (split <;> first | rfl | omega | (exfalso; omega)))) hQ
                              · refine jv_iconst hx hb dL_areBoundsSo_150 ?_
                                refine lv_istore (lv' := [(6, .int (jz 0)), (0, .ref x), (1, .int (jz n0)), (2, .int (jz n1)), (3, .int (jz (D 1 g0 g1 n0 n1))), (4, .int (jz 1)), (5, .int (jz b))]) hx hb dL_areBoundsSo_151 hl (by decide) rfl (fun ls hl => ?_)
                                refine jv_iconst hx hb dL_areBoundsSo_153 ?_
                                refine lv_istore (lv' := [(7, .int (jz 0)), (6, .int (jz 0)), (0, .ref x), (1, .int (jz n0)), (2, .int (jz n1)), (3, .int (jz (D 1 g0 g1 n0 n1))), (4, .int (jz 1)), (5, .int (jz b))]) hx hb dL_areBoundsSo_154 hl (by decide) rfl (fun ls hl => ?_)
                                have K156 : ∀ (n9 : Nat) (r : Int) (i : Int) , ((n0 + 1 - i).toNat) < n9 → (0 ≤ i ∧ i ≤ n0 + 1) → (r = bandI b n1 i) → ∀ (H : Heap) (locs : List Loc) (ls : Array Slot), wP G [bBD G x st sv bu di se wy ta tt rp, bState G st t0 t1 al, bText G t0 a0 n0 g0, bText G t1 a1 n1 g1, bGrid G di db h1, bGrid G se sb s1] H → wD A [bBD G x st sv bu di se wy ta tt rp, bState G st t0 t1 al, bText G t0 a0 n0 g0, bText G t1 a1 n1 g1, bGrid G di db h1, bGrid G se sb s1] → va_S A s.heap H locs → lv_has ls 10 [(0, .ref x), (1, .int (jz n0)), (2, .int (jz n1)), (3, .int (jz (D 1 g0 g1 n0 n1))), (4, .int (jz 1)), (5, .int (jz b)), (6, .int (jz r)), (7, .int (jz i))] → W p l e rmL_areBoundsSo s m args below meth c H locs 0 0 Q (F0 m 156 ls []) := by
                                  intro n9
                                  induction n9 with
                                  | zero => intro r i hm9; exact absurd hm9 (Nat.not_lt_zero _)
                                  | succ n9 ih156 =>
                                    intro r i hm9 hi hr9 H locs ls hP hD hS hl
                                    refine lv_iload hx hb dL_areBoundsSo_156 (lv_at hl 7 rfl) ?_
                                    refine lv_iload_n hx hb dL_areBoundsSo_158 rfl (lv_at hl 1 rfl) ?_
                                    refine jv_icmp_gt (tgt := 230) hx hb dL_areBoundsSo_159 (by decide) (by omega) (by omega) (fun c_22 => ?_) (fun c_22 => ?_)
                                    · refine lv_iload hx hb dL_areBoundsSo_230 (lv_at hl 4 rfl) ?_
                                      refine jv_if_eq (tgt := 270) hx hb dL_areBoundsSo_232 (by decide) (by omega) (fun c_23 => ?_) (fun c_23 => ?_)
                                      · exfalso; omega
                                      · refine lv_aload_n hx hb dL_areBoundsSo_235 rfl (lv_at hl 0 rfl) ?_
                                        refine lv_iload hx hb dL_areBoundsSo_236 (lv_at hl 5 rfl) ?_
                                        refine kV ⟨hx, hb, hml, hown, hts⟩ hK hA hS hP hD [.int (jz b)] [] (mX8_within_k l G x st sv bu di se wy ta tt rp t0 t1 al a0 n0 g0 a1 n1 g1 db h1 b (by omega) (by omega) (by exact hg0) (by exact hg1) (by omega) (by omega)) lkL_86 [0, 1, 2, 3, 4] [5] (br := [bGrid G se sb s1]) rfl rfl (by decide) 0 8 rfl rfl rfl rfl (Nat.le_of_ble_eq_true rfl) hl.1 dL_areBoundsSo_238 ⟨Nat.le_of_ble_eq_true rfl, Nat.le_of_ble_eq_true rfl⟩ ⟨Nat.le_of_ble_eq_true rfl, Nat.le_of_ble_eq_true rfl⟩ (fun u9 H locs hp9 hP hD hS => ?_)
                                        obtain ⟨u_24, rfl⟩ : ∃ z, z = u9 := ⟨_, rfl⟩
                                        have hP : wP G [bGrid G se sb s1, bBD G x st sv bu di se wy ta tt rp, bState G st t0 t1 al, bText G t0 a0 n0 g0, bText G t1 a1 n1 g1, bGrid G di db u_24] H := hP
                                        have hD : wD A [bGrid G se sb s1, bBD G x st sv bu di se wy ta tt rp, bState G st t0 t1 al, bText G t0 a0 n0 g0, bText G t1 a1 n1 g1, bGrid G di db u_24] := hD
                                        show W p l e rmL_areBoundsSo s m args below meth c H locs 0 0 Q (F0 m 241 ls [.int (jz (if D 1 g0 g1 n0 n1 ≤ b then D 1 g0 g1 n0 n1 else -1))])
                                        refine jv_top (fun r_25 er_25 => ?_)
                                        have hw9 : (D 1 g0 g1 n0 n1 ≤ b ∧ r_25 = D 1 g0 g1 n0 n1) ∨ (b < D 1 g0 g1 n0 n1 ∧ r_25 = -1) := by rw [er_25]; split <;> omega
                                        refine lv_iload_n hx hb dL_areBoundsSo_241 rfl (lv_at hl 3 rfl) ?_
                                        refine lv_iload hx hb dL_areBoundsSo_242 (lv_at hl 5 rfl) ?_
                                        refine jv_icmp_le (tgt := 251) hx hb dL_areBoundsSo_244 (by decide) (by omega) (by omega) (fun c_26 => ?_) (fun c_26 => ?_)
                                        · refine lv_iload_n hx hb dL_areBoundsSo_251 rfl (lv_at hl 3 rfl) ?_
                                          refine jv_icmp_ne (tgt := 270) hx hb dL_areBoundsSo_252 (by decide) (by omega) (by omega) (fun c_27 => ?_) (fun c_27 => ?_)
                                          · exfalso; omega
                                          · refine lv_aload_n hx hb dL_areBoundsSo_255 rfl (lv_at hl 0 rfl) ?_
                                            refine lv_iload hx hb dL_areBoundsSo_256 (lv_at hl 5 rfl) ?_
                                            have hre : r = bandI b n1 (n0 + 1) := by rw [hr9, show i = n0 + 1 by omega]
                                            have hbb := bandI_bd (b := b) (n := n1) (k := n0 + 1) hn1 (by omega) (by omega)
                                            refine kV ⟨hx, hb, hml, hown, hts⟩ hK hA hS hP hD [.int (jz b)] [] (mX8_band_k l G x st sv bu di se wy ta tt rp t0 t1 al a0 n0 g0 a1 n1 g1 b (by omega) (by omega) (by omega) (by omega)) lkL_77 [1, 2, 3, 4] [0, 5] (br := [bGrid G se sb s1, bGrid G di db u_24]) rfl rfl (by decide) 0 8 rfl rfl rfl rfl (Nat.le_of_ble_eq_true rfl) hl.1 dL_areBoundsSo_258 ⟨Nat.le_of_ble_eq_true rfl, Nat.le_of_ble_eq_true rfl⟩ ⟨Nat.le_of_ble_eq_true rfl, Nat.le_of_ble_eq_true rfl⟩ (fun u9 H locs hp9 hP hD hS => ?_)
                                            have hP : wP G [bGrid G se sb s1, bGrid G di db u_24, bBD G x st sv bu di se wy ta tt rp, bState G st t0 t1 al, bText G t0 a0 n0 g0, bText G t1 a1 n1 g1] H := hP
                                            have hD : wD A [bGrid G se sb s1, bGrid G di db u_24, bBD G x st sv bu di se wy ta tt rp, bState G st t0 t1 al, bText G t0 a0 n0 g0, bText G t1 a1 n1 g1] := hD
                                            show W p l e rmL_areBoundsSo s m args below meth c H locs 0 0 Q (F0 m 261 ls [.int (jz (bandI b n1 (n0 + 1)))])
                                            refine lv_iload hx hb dL_areBoundsSo_261 (lv_at hl 6 rfl) ?_
                                            refine jv_icmp_ne (tgt := 270) hx hb dL_areBoundsSo_263 (by decide) (by omega) (by omega) (fun c_29 => ?_) (fun c_29 => ?_)
                                            · exfalso; omega
                                            · refine jv_iconst hx hb dL_areBoundsSo_266 ?_
                                              refine lv_goto (tgt := 271) hx hb dL_areBoundsSo_267 (by decide) ?_
                                              refine lv_istore (lv' := [(4, .int (jz 1)), (0, .ref x), (1, .int (jz n0)), (2, .int (jz n1)), (3, .int (jz (D 1 g0 g1 n0 n1))), (5, .int (jz b)), (6, .int (jz r)), (7, .int (jz i))]) hx hb dL_areBoundsSo_271 hl (by decide) rfl (fun ls hl => ?_)
                                              refine jv_iinc (lv' := [(5, .int (jz (b + 1))), (4, .int (jz 1)), (0, .ref x), (1, .int (jz n0)), (2, .int (jz n1)), (3, .int (jz (D 1 g0 g1 n0 n1))), (6, .int (jz r)), (7, .int (jz i))]) (k := 5) hx hb dL_areBoundsSo_273 hl rfl (by decide) rfl (fun ls hl => ?_)
                                              refine lv_goto (tgt := 143) hx hb dL_areBoundsSo_276 (by decide) ?_
                                              exact ih143 u_24 s1 (b + 1) (by omega) (by omega) H _ _ (wP_sub (bc := [bBD G x st sv bu di se wy ta tt rp, bState G st t0 t1 al, bText G t0 a0 n0 g0, bText G t1 a1 n1 g1, bGrid G di db u_24, bGrid G se sb s1]) hP [2, 3, 4, 5, 1, 0] rfl) (wD_sub (bc := [bBD G x st sv bu di se wy ta tt rp, bState G st t0 t1 al, bText G t0 a0 n0 g0, bText G t1 a1 n1 g1, bGrid G di db u_24, bGrid G se sb s1]) hD [2, 3, 4, 5, 1, 0] (by decide) rfl) hS (lv_sub hl [2, 3, 4, 5, 1, 0] rfl)
                                        · refine jv_iconst hx hb dL_areBoundsSo_247 ?_
                                          refine lv_goto (tgt := 252) hx hb dL_areBoundsSo_248 (by decide) ?_
                                          refine jv_icmp_ne (tgt := 270) hx hb dL_areBoundsSo_252 (by decide) (by omega) (by omega) (fun c_30 => ?_) (fun c_30 => ?_)
                                          · exfalso; omega
                                          · refine lv_aload_n hx hb dL_areBoundsSo_255 rfl (lv_at hl 0 rfl) ?_
                                            refine lv_iload hx hb dL_areBoundsSo_256 (lv_at hl 5 rfl) ?_
                                            have hre : r = bandI b n1 (n0 + 1) := by rw [hr9, show i = n0 + 1 by omega]
                                            have hbb := bandI_bd (b := b) (n := n1) (k := n0 + 1) hn1 (by omega) (by omega)
                                            refine kV ⟨hx, hb, hml, hown, hts⟩ hK hA hS hP hD [.int (jz b)] [] (mX8_band_k l G x st sv bu di se wy ta tt rp t0 t1 al a0 n0 g0 a1 n1 g1 b (by omega) (by omega) (by omega) (by omega)) lkL_77 [1, 2, 3, 4] [0, 5] (br := [bGrid G se sb s1, bGrid G di db u_24]) rfl rfl (by decide) 0 8 rfl rfl rfl rfl (Nat.le_of_ble_eq_true rfl) hl.1 dL_areBoundsSo_258 ⟨Nat.le_of_ble_eq_true rfl, Nat.le_of_ble_eq_true rfl⟩ ⟨Nat.le_of_ble_eq_true rfl, Nat.le_of_ble_eq_true rfl⟩ (fun u9 H locs hp9 hP hD hS => ?_)
                                            have hP : wP G [bGrid G se sb s1, bGrid G di db u_24, bBD G x st sv bu di se wy ta tt rp, bState G st t0 t1 al, bText G t0 a0 n0 g0, bText G t1 a1 n1 g1] H := hP
                                            have hD : wD A [bGrid G se sb s1, bGrid G di db u_24, bBD G x st sv bu di se wy ta tt rp, bState G st t0 t1 al, bText G t0 a0 n0 g0, bText G t1 a1 n1 g1] := hD
                                            show W p l e rmL_areBoundsSo s m args below meth c H locs 0 0 Q (F0 m 261 ls [.int (jz (bandI b n1 (n0 + 1)))])
                                            refine lv_iload hx hb dL_areBoundsSo_261 (lv_at hl 6 rfl) ?_
                                            refine jv_icmp_ne (tgt := 270) hx hb dL_areBoundsSo_263 (by decide) (by omega) (by omega) (fun c_32 => ?_) (fun c_32 => ?_)
                                            · exfalso; omega
                                            · refine jv_iconst hx hb dL_areBoundsSo_266 ?_
                                              refine lv_goto (tgt := 271) hx hb dL_areBoundsSo_267 (by decide) ?_
                                              refine lv_istore (lv' := [(4, .int (jz 1)), (0, .ref x), (1, .int (jz n0)), (2, .int (jz n1)), (3, .int (jz (D 1 g0 g1 n0 n1))), (5, .int (jz b)), (6, .int (jz r)), (7, .int (jz i))]) hx hb dL_areBoundsSo_271 hl (by decide) rfl (fun ls hl => ?_)
                                              refine jv_iinc (lv' := [(5, .int (jz (b + 1))), (4, .int (jz 1)), (0, .ref x), (1, .int (jz n0)), (2, .int (jz n1)), (3, .int (jz (D 1 g0 g1 n0 n1))), (6, .int (jz r)), (7, .int (jz i))]) (k := 5) hx hb dL_areBoundsSo_273 hl rfl (by decide) rfl (fun ls hl => ?_)
                                              refine lv_goto (tgt := 143) hx hb dL_areBoundsSo_276 (by decide) ?_
                                              exact ih143 u_24 s1 (b + 1) (by omega) (by omega) H _ _ (wP_sub (bc := [bBD G x st sv bu di se wy ta tt rp, bState G st t0 t1 al, bText G t0 a0 n0 g0, bText G t1 a1 n1 g1, bGrid G di db u_24, bGrid G se sb s1]) hP [2, 3, 4, 5, 1, 0] rfl) (wD_sub (bc := [bBD G x st sv bu di se wy ta tt rp, bState G st t0 t1 al, bText G t0 a0 n0 g0, bText G t1 a1 n1 g1, bGrid G di db u_24, bGrid G se sb s1]) hD [2, 3, 4, 5, 1, 0] (by decide) rfl) hS (lv_sub hl [2, 3, 4, 5, 1, 0] rfl)
                                    · refine lv_iload hx hb dL_areBoundsSo_162 (lv_at hl 7 rfl) ?_
                                      refine lv_iload hx hb dL_areBoundsSo_164 (lv_at hl 5 rfl) ?_
                                      refine jv_isub hx hb dL_areBoundsSo_166 ?_
                                      refine jv_if_ge (tgt := 174) hx hb dL_areBoundsSo_167 (by decide) (by omega) (fun c_33 => ?_) (fun c_33 => ?_)
                                      · refine lv_iload hx hb dL_areBoundsSo_174 (lv_at hl 7 rfl) ?_
                                        refine lv_iload hx hb dL_areBoundsSo_176 (lv_at hl 5 rfl) ?_
                                        refine jv_isub hx hb dL_areBoundsSo_178 ?_
                                        refine lv_istore (lv' := [(8, .int (jz (i - b))), (0, .ref x), (1, .int (jz n0)), (2, .int (jz n1)), (3, .int (jz (D 1 g0 g1 n0 n1))), (4, .int (jz 1)), (5, .int (jz b)), (6, .int (jz r)), (7, .int (jz i))]) hx hb dL_areBoundsSo_179 hl (by decide) rfl (fun ls hl => ?_)
                                        refine lv_iload hx hb dL_areBoundsSo_181 (lv_at hl 8 rfl) ?_
                                        refine lv_iload hx hb dL_areBoundsSo_183 (lv_at hl 6 rfl) ?_
                                        refine jv_iadd hx hb dL_areBoundsSo_185 ?_
                                        refine lv_iload_n hx hb dL_areBoundsSo_186 rfl (lv_at hl 3 rfl) ?_
                                        refine jv_icmp_le (tgt := 194) hx hb dL_areBoundsSo_187 (by decide) (by omega) (by omega) (fun c_34 => ?_) (fun c_34 => ?_)
                                        · refine lv_iload hx hb dL_areBoundsSo_194 (lv_at hl 8 rfl) ?_
                                          refine lv_iload hx hb dL_areBoundsSo_196 (lv_at hl 6 rfl) ?_
                                          refine jv_iadd hx hb dL_areBoundsSo_198 ?_
                                          refine lv_istore (lv' := [(9, .int (jz (i + b))), (8, .int (jz (i - b))), (0, .ref x), (1, .int (jz n0)), (2, .int (jz n1)), (3, .int (jz (D 1 g0 g1 n0 n1))), (4, .int (jz 1)), (5, .int (jz b)), (6, .int (jz r)), (7, .int (jz i))]) hx hb dL_areBoundsSo_199 hl (by decide) rfl (fun ls hl => ?_)
                                          refine lv_iload hx hb dL_areBoundsSo_201 (lv_at hl 8 rfl) ?_
                                          refine lv_iload hx hb dL_areBoundsSo_203 (lv_at hl 0 rfl) ?_
                                          refine lv_iload hx hb dL_areBoundsSo_205 (lv_at hl 1 rfl) ?_
                                          refine jv_icmp_ge (tgt := 214) hx hb dL_areBoundsSo_207 (by decide) (by omega) (by omega) (fun c_35 => ?_) (fun c_35 => ?_)
                                          · refine lv_iload hx hb dL_areBoundsSo_214 (lv_at hl 0 rfl) ?_
                                            refine lv_iload hx hb dL_areBoundsSo_216 (lv_at hl 1 rfl) ?_
                                            refine jv_isub hx hb dL_areBoundsSo_218 ?_
                                            refine jv_iconst hx hb dL_areBoundsSo_219 ?_
                                            refine jv_iadd hx hb dL_areBoundsSo_220 ?_
                                            refine jv_iadd hx hb dL_areBoundsSo_221 ?_
                                            refine lv_istore (lv' := [(6, .int (jz (r + (((i + b) - (i - b)) + 1)))), (9, .int (jz (i + b))), (8, .int (jz (i - b))), (0, .ref x), (1, .int (jz n0)), (2, .int (jz n1)), (3, .int (jz (D 1 g0 g1 n0 n1))), (4, .int (jz 1)), (5, .int (jz b)), (7, .int (jz i))]) hx hb dL_areBoundsSo_222 hl (by decide) rfl (fun ls hl => ?_)
                                            refine jv_iinc (lv' := [(7, .int (jz (i + 1))), (6, .int (jz (r + (((i + b) - (i - b)) + 1)))), (9, .int (jz (i + b))), (8, .int (jz (i - b))), (0, .ref x), (1, .int (jz n0)), (2, .int (jz n1)), (3, .int (jz (D 1 g0 g1 n0 n1))), (4, .int (jz 1)), (5, .int (jz b))]) (k := 9) hx hb dL_areBoundsSo_224 hl rfl (by decide) rfl (fun ls hl => ?_)
                                            refine lv_goto (tgt := 156) hx hb dL_areBoundsSo_227 (by decide) ?_
                                            exact ih156 (r + (((i + b) - (i - b)) + 1)) (i + 1) (by omega) (by omega) (by rw [bandI_s b n1 (by omega)]; omega) H _ _ hP hD hS (lv_sub hl [4, 5, 6, 7, 8, 9, 1, 0] rfl)
                                          · refine jv_iconst hx hb dL_areBoundsSo_210 ?_
                                            refine lv_goto (tgt := 221) hx hb dL_areBoundsSo_211 (by decide) ?_
                                            refine jv_iadd hx hb dL_areBoundsSo_221 ?_
                                            refine lv_istore (lv' := [(6, .int (jz (r + 0))), (9, .int (jz (i + b))), (8, .int (jz (i - b))), (0, .ref x), (1, .int (jz n0)), (2, .int (jz n1)), (3, .int (jz (D 1 g0 g1 n0 n1))), (4, .int (jz 1)), (5, .int (jz b)), (7, .int (jz i))]) hx hb dL_areBoundsSo_222 hl (by decide) rfl (fun ls hl => ?_)
                                            refine jv_iinc (lv' := [(7, .int (jz (i + 1))), (6, .int (jz (r + 0))), (9, .int (jz (i + b))), (8, .int (jz (i - b))), (0, .ref x), (1, .int (jz n0)), (2, .int (jz n1)), (3, .int (jz (D 1 g0 g1 n0 n1))), (4, .int (jz 1)), (5, .int (jz b))]) (k := 9) hx hb dL_areBoundsSo_224 hl rfl (by decide) rfl (fun ls hl => ?_)
                                            refine lv_goto (tgt := 156) hx hb dL_areBoundsSo_227 (by decide) ?_
                                            exact ih156 (r + 0) (i + 1) (by omega) (by omega) (by rw [bandI_s b n1 (by omega)]; omega) H _ _ hP hD hS (lv_sub hl [4, 5, 6, 7, 8, 9, 1, 0] rfl)
                                        · refine lv_iload_n hx hb dL_areBoundsSo_190 rfl (lv_at hl 3 rfl) ?_
                                          refine lv_goto (tgt := 199) hx hb dL_areBoundsSo_191 (by decide) ?_
                                          refine lv_istore (lv' := [(9, .int (jz n1)), (8, .int (jz (i - b))), (0, .ref x), (1, .int (jz n0)), (2, .int (jz n1)), (3, .int (jz (D 1 g0 g1 n0 n1))), (4, .int (jz 1)), (5, .int (jz b)), (6, .int (jz r)), (7, .int (jz i))]) hx hb dL_areBoundsSo_199 hl (by decide) rfl (fun ls hl => ?_)
                                          refine lv_iload hx hb dL_areBoundsSo_201 (lv_at hl 8 rfl) ?_
                                          refine lv_iload hx hb dL_areBoundsSo_203 (lv_at hl 0 rfl) ?_
                                          refine lv_iload hx hb dL_areBoundsSo_205 (lv_at hl 1 rfl) ?_
                                          refine jv_icmp_ge (tgt := 214) hx hb dL_areBoundsSo_207 (by decide) (by omega) (by omega) (fun c_36 => ?_) (fun c_36 => ?_)
                                          · refine lv_iload hx hb dL_areBoundsSo_214 (lv_at hl 0 rfl) ?_
                                            refine lv_iload hx hb dL_areBoundsSo_216 (lv_at hl 1 rfl) ?_
                                            refine jv_isub hx hb dL_areBoundsSo_218 ?_
                                            refine jv_iconst hx hb dL_areBoundsSo_219 ?_
                                            refine jv_iadd hx hb dL_areBoundsSo_220 ?_
                                            refine jv_iadd hx hb dL_areBoundsSo_221 ?_
                                            refine lv_istore (lv' := [(6, .int (jz (r + ((n1 - (i - b)) + 1)))), (9, .int (jz n1)), (8, .int (jz (i - b))), (0, .ref x), (1, .int (jz n0)), (2, .int (jz n1)), (3, .int (jz (D 1 g0 g1 n0 n1))), (4, .int (jz 1)), (5, .int (jz b)), (7, .int (jz i))]) hx hb dL_areBoundsSo_222 hl (by decide) rfl (fun ls hl => ?_)
                                            refine jv_iinc (lv' := [(7, .int (jz (i + 1))), (6, .int (jz (r + ((n1 - (i - b)) + 1)))), (9, .int (jz n1)), (8, .int (jz (i - b))), (0, .ref x), (1, .int (jz n0)), (2, .int (jz n1)), (3, .int (jz (D 1 g0 g1 n0 n1))), (4, .int (jz 1)), (5, .int (jz b))]) (k := 9) hx hb dL_areBoundsSo_224 hl rfl (by decide) rfl (fun ls hl => ?_)
                                            refine lv_goto (tgt := 156) hx hb dL_areBoundsSo_227 (by decide) ?_
                                            exact ih156 (r + ((n1 - (i - b)) + 1)) (i + 1) (by omega) (by omega) (by rw [bandI_s b n1 (by omega)]; omega) H _ _ hP hD hS (lv_sub hl [4, 5, 6, 7, 8, 9, 1, 0] rfl)
                                          · refine jv_iconst hx hb dL_areBoundsSo_210 ?_
                                            refine lv_goto (tgt := 221) hx hb dL_areBoundsSo_211 (by decide) ?_
                                            refine jv_iadd hx hb dL_areBoundsSo_221 ?_
                                            refine lv_istore (lv' := [(6, .int (jz (r + 0))), (9, .int (jz n1)), (8, .int (jz (i - b))), (0, .ref x), (1, .int (jz n0)), (2, .int (jz n1)), (3, .int (jz (D 1 g0 g1 n0 n1))), (4, .int (jz 1)), (5, .int (jz b)), (7, .int (jz i))]) hx hb dL_areBoundsSo_222 hl (by decide) rfl (fun ls hl => ?_)
                                            refine jv_iinc (lv' := [(7, .int (jz (i + 1))), (6, .int (jz (r + 0))), (9, .int (jz n1)), (8, .int (jz (i - b))), (0, .ref x), (1, .int (jz n0)), (2, .int (jz n1)), (3, .int (jz (D 1 g0 g1 n0 n1))), (4, .int (jz 1)), (5, .int (jz b))]) (k := 9) hx hb dL_areBoundsSo_224 hl rfl (by decide) rfl (fun ls hl => ?_)
                                            refine lv_goto (tgt := 156) hx hb dL_areBoundsSo_227 (by decide) ?_
                                            exact ih156 (r + 0) (i + 1) (by omega) (by omega) (by rw [bandI_s b n1 (by omega)]; omega) H _ _ hP hD hS (lv_sub hl [4, 5, 6, 7, 8, 9, 1, 0] rfl)
                                      · refine jv_iconst hx hb dL_areBoundsSo_170 ?_
                                        refine lv_goto (tgt := 179) hx hb dL_areBoundsSo_171 (by decide) ?_
                                        refine lv_istore (lv' := [(8, .int (jz 0)), (0, .ref x), (1, .int (jz n0)), (2, .int (jz n1)), (3, .int (jz (D 1 g0 g1 n0 n1))), (4, .int (jz 1)), (5, .int (jz b)), (6, .int (jz r)), (7, .int (jz i))]) hx hb dL_areBoundsSo_179 hl (by decide) rfl (fun ls hl => ?_)
                                        refine lv_iload hx hb dL_areBoundsSo_181 (lv_at hl 8 rfl) ?_
                                        refine lv_iload hx hb dL_areBoundsSo_183 (lv_at hl 6 rfl) ?_
                                        refine jv_iadd hx hb dL_areBoundsSo_185 ?_
                                        refine lv_iload_n hx hb dL_areBoundsSo_186 rfl (lv_at hl 3 rfl) ?_
                                        refine jv_icmp_le (tgt := 194) hx hb dL_areBoundsSo_187 (by decide) (by omega) (by omega) (fun c_37 => ?_) (fun c_37 => ?_)
                                        · refine lv_iload hx hb dL_areBoundsSo_194 (lv_at hl 8 rfl) ?_
                                          refine lv_iload hx hb dL_areBoundsSo_196 (lv_at hl 6 rfl) ?_
                                          refine jv_iadd hx hb dL_areBoundsSo_198 ?_
                                          refine lv_istore (lv' := [(9, .int (jz (i + b))), (8, .int (jz 0)), (0, .ref x), (1, .int (jz n0)), (2, .int (jz n1)), (3, .int (jz (D 1 g0 g1 n0 n1))), (4, .int (jz 1)), (5, .int (jz b)), (6, .int (jz r)), (7, .int (jz i))]) hx hb dL_areBoundsSo_199 hl (by decide) rfl (fun ls hl => ?_)
                                          refine lv_iload hx hb dL_areBoundsSo_201 (lv_at hl 8 rfl) ?_
                                          refine lv_iload hx hb dL_areBoundsSo_203 (lv_at hl 0 rfl) ?_
                                          refine lv_iload hx hb dL_areBoundsSo_205 (lv_at hl 1 rfl) ?_
                                          refine jv_icmp_ge (tgt := 214) hx hb dL_areBoundsSo_207 (by decide) (by omega) (by omega) (fun c_38 => ?_) (fun c_38 => ?_)
                                          · refine lv_iload hx hb dL_areBoundsSo_214 (lv_at hl 0 rfl) ?_
                                            refine lv_iload hx hb dL_areBoundsSo_216 (lv_at hl 1 rfl) ?_
                                            refine jv_isub hx hb dL_areBoundsSo_218 ?_
                                            refine jv_iconst hx hb dL_areBoundsSo_219 ?_
                                            refine jv_iadd hx hb dL_areBoundsSo_220 ?_
                                            refine jv_iadd hx hb dL_areBoundsSo_221 ?_
                                            refine lv_istore (lv' := [(6, .int (jz (r + (((i + b) - 0) + 1)))), (9, .int (jz (i + b))), (8, .int (jz 0)), (0, .ref x), (1, .int (jz n0)), (2, .int (jz n1)), (3, .int (jz (D 1 g0 g1 n0 n1))), (4, .int (jz 1)), (5, .int (jz b)), (7, .int (jz i))]) hx hb dL_areBoundsSo_222 hl (by decide) rfl (fun ls hl => ?_)
                                            refine jv_iinc (lv' := [(7, .int (jz (i + 1))), (6, .int (jz (r + (((i + b) - 0) + 1)))), (9, .int (jz (i + b))), (8, .int (jz 0)), (0, .ref x), (1, .int (jz n0)), (2, .int (jz n1)), (3, .int (jz (D 1 g0 g1 n0 n1))), (4, .int (jz 1)), (5, .int (jz b))]) (k := 9) hx hb dL_areBoundsSo_224 hl rfl (by decide) rfl (fun ls hl => ?_)
                                            refine lv_goto (tgt := 156) hx hb dL_areBoundsSo_227 (by decide) ?_
                                            exact ih156 (r + (((i + b) - 0) + 1)) (i + 1) (by omega) (by omega) (by rw [bandI_s b n1 (by omega)]; omega) H _ _ hP hD hS (lv_sub hl [4, 5, 6, 7, 8, 9, 1, 0] rfl)
                                          · refine jv_iconst hx hb dL_areBoundsSo_210 ?_
                                            refine lv_goto (tgt := 221) hx hb dL_areBoundsSo_211 (by decide) ?_
                                            refine jv_iadd hx hb dL_areBoundsSo_221 ?_
                                            refine lv_istore (lv' := [(6, .int (jz (r + 0))), (9, .int (jz (i + b))), (8, .int (jz 0)), (0, .ref x), (1, .int (jz n0)), (2, .int (jz n1)), (3, .int (jz (D 1 g0 g1 n0 n1))), (4, .int (jz 1)), (5, .int (jz b)), (7, .int (jz i))]) hx hb dL_areBoundsSo_222 hl (by decide) rfl (fun ls hl => ?_)
                                            refine jv_iinc (lv' := [(7, .int (jz (i + 1))), (6, .int (jz (r + 0))), (9, .int (jz (i + b))), (8, .int (jz 0)), (0, .ref x), (1, .int (jz n0)), (2, .int (jz n1)), (3, .int (jz (D 1 g0 g1 n0 n1))), (4, .int (jz 1)), (5, .int (jz b))]) (k := 9) hx hb dL_areBoundsSo_224 hl rfl (by decide) rfl (fun ls hl => ?_)
                                            refine lv_goto (tgt := 156) hx hb dL_areBoundsSo_227 (by decide) ?_
                                            exact ih156 (r + 0) (i + 1) (by omega) (by omega) (by rw [bandI_s b n1 (by omega)]; omega) H _ _ hP hD hS (lv_sub hl [4, 5, 6, 7, 8, 9, 1, 0] rfl)
                                        · refine lv_iload_n hx hb dL_areBoundsSo_190 rfl (lv_at hl 3 rfl) ?_
                                          refine lv_goto (tgt := 199) hx hb dL_areBoundsSo_191 (by decide) ?_
                                          refine lv_istore (lv' := [(9, .int (jz n1)), (8, .int (jz 0)), (0, .ref x), (1, .int (jz n0)), (2, .int (jz n1)), (3, .int (jz (D 1 g0 g1 n0 n1))), (4, .int (jz 1)), (5, .int (jz b)), (6, .int (jz r)), (7, .int (jz i))]) hx hb dL_areBoundsSo_199 hl (by decide) rfl (fun ls hl => ?_)
                                          refine lv_iload hx hb dL_areBoundsSo_201 (lv_at hl 8 rfl) ?_
                                          refine lv_iload hx hb dL_areBoundsSo_203 (lv_at hl 0 rfl) ?_
                                          refine lv_iload hx hb dL_areBoundsSo_205 (lv_at hl 1 rfl) ?_
                                          refine jv_icmp_ge (tgt := 214) hx hb dL_areBoundsSo_207 (by decide) (by omega) (by omega) (fun c_39 => ?_) (fun c_39 => ?_)
                                          · refine lv_iload hx hb dL_areBoundsSo_214 (lv_at hl 0 rfl) ?_
                                            refine lv_iload hx hb dL_areBoundsSo_216 (lv_at hl 1 rfl) ?_
                                            refine jv_isub hx hb dL_areBoundsSo_218 ?_
                                            refine jv_iconst hx hb dL_areBoundsSo_219 ?_
                                            refine jv_iadd hx hb dL_areBoundsSo_220 ?_
                                            refine jv_iadd hx hb dL_areBoundsSo_221 ?_
                                            refine lv_istore (lv' := [(6, .int (jz (r + ((n1 - 0) + 1)))), (9, .int (jz n1)), (8, .int (jz 0)), (0, .ref x), (1, .int (jz n0)), (2, .int (jz n1)), (3, .int (jz (D 1 g0 g1 n0 n1))), (4, .int (jz 1)), (5, .int (jz b)), (7, .int (jz i))]) hx hb dL_areBoundsSo_222 hl (by decide) rfl (fun ls hl => ?_)
                                            refine jv_iinc (lv' := [(7, .int (jz (i + 1))), (6, .int (jz (r + ((n1 - 0) + 1)))), (9, .int (jz n1)), (8, .int (jz 0)), (0, .ref x), (1, .int (jz n0)), (2, .int (jz n1)), (3, .int (jz (D 1 g0 g1 n0 n1))), (4, .int (jz 1)), (5, .int (jz b))]) (k := 9) hx hb dL_areBoundsSo_224 hl rfl (by decide) rfl (fun ls hl => ?_)
                                            refine lv_goto (tgt := 156) hx hb dL_areBoundsSo_227 (by decide) ?_
                                            exact ih156 (r + ((n1 - 0) + 1)) (i + 1) (by omega) (by omega) (by rw [bandI_s b n1 (by omega)]; omega) H _ _ hP hD hS (lv_sub hl [4, 5, 6, 7, 8, 9, 1, 0] rfl)
                                          · refine jv_iconst hx hb dL_areBoundsSo_210 ?_
                                            refine lv_goto (tgt := 221) hx hb dL_areBoundsSo_211 (by decide) ?_
                                            refine jv_iadd hx hb dL_areBoundsSo_221 ?_
                                            refine lv_istore (lv' := [(6, .int (jz (r + 0))), (9, .int (jz n1)), (8, .int (jz 0)), (0, .ref x), (1, .int (jz n0)), (2, .int (jz n1)), (3, .int (jz (D 1 g0 g1 n0 n1))), (4, .int (jz 1)), (5, .int (jz b)), (7, .int (jz i))]) hx hb dL_areBoundsSo_222 hl (by decide) rfl (fun ls hl => ?_)
                                            refine jv_iinc (lv' := [(7, .int (jz (i + 1))), (6, .int (jz (r + 0))), (9, .int (jz n1)), (8, .int (jz 0)), (0, .ref x), (1, .int (jz n0)), (2, .int (jz n1)), (3, .int (jz (D 1 g0 g1 n0 n1))), (4, .int (jz 1)), (5, .int (jz b))]) (k := 9) hx hb dL_areBoundsSo_224 hl rfl (by decide) rfl (fun ls hl => ?_)
                                            refine lv_goto (tgt := 156) hx hb dL_areBoundsSo_227 (by decide) ?_
                                            exact ih156 (r + 0) (i + 1) (by omega) (by omega) (by rw [bandI_s b n1 (by omega)]; omega) H _ _ hP hD hS (lv_sub hl [4, 5, 6, 7, 8, 9, 1, 0] rfl)
                                exact K156 (((n0 + 1 - 0).toNat) + 1) 0 0 (Nat.lt_succ_self _) (by omega) (by rfl) H _ _ hP hD hS (lv_sub hl [2, 3, 4, 5, 6, 7, 1, 0] rfl)
                          refine lv_iload_n hx hb dL_areBoundsSo_121 rfl (lv_at hl 3 rfl) ?_
                          refine jv_if_ne (tgt := 129) hx hb dL_areBoundsSo_122 (by decide) (by omega) (fun c_40 => ?_) (fun c_40 => ?_)
                          · refine jv_iconst hx hb dL_areBoundsSo_129 ?_
                            refine jv_icmp_ne (tgt := 137) hx hb dL_areBoundsSo_130 (by decide) (by omega) (by omega) (fun c_41 => ?_) (fun c_41 => ?_)
                            · exfalso; omega
                            · refine jv_iconst hx hb dL_areBoundsSo_133 ?_
                              refine lv_goto (tgt := 138) hx hb dL_areBoundsSo_134 (by decide) ?_
                              refine lv_istore (lv' := [(4, .int (jz 1)), (0, .ref x), (1, .int (jz n0)), (2, .int (jz n1)), (3, .int (jz (D 1 g0 g1 n0 n1)))]) hx hb dL_areBoundsSo_138 hl (by decide) rfl (fun ls hl => ?_)
                              refine jv_iconst hx hb dL_areBoundsSo_140 ?_
                              refine lv_istore (lv' := [(5, .int (jz 0)), (4, .int (jz 1)), (0, .ref x), (1, .int (jz n0)), (2, .int (jz n1)), (3, .int (jz (D 1 g0 g1 n0 n1)))]) hx hb dL_areBoundsSo_141 hl (by decide) rfl (fun ls hl => ?_)
                              have K143 : ∀ (n9 : Nat) (h1 : Int → Int) (s1 : Int → Int) (b : Int) , (((21 : Int) - b).toNat) < n9 → (0 ≤ b ∧ b ≤ 21) → ∀ (H : Heap) (locs : List Loc) (ls : Array Slot), wP G [bBD G x st sv bu di se wy ta tt rp, bState G st t0 t1 al, bText G t0 a0 n0 g0, bText G t1 a1 n1 g1, bGrid G di db h1, bGrid G se sb s1] H → wD A [bBD G x st sv bu di se wy ta tt rp, bState G st t0 t1 al, bText G t0 a0 n0 g0, bText G t1 a1 n1 g1, bGrid G di db h1, bGrid G se sb s1] → va_S A s.heap H locs → lv_has ls 10 [(0, .ref x), (1, .int (jz n0)), (2, .int (jz n1)), (3, .int (jz (D 1 g0 g1 n0 n1))), (4, .int (jz 1)), (5, .int (jz b))] → W p l e rmL_areBoundsSo s m args below meth c H locs 0 0 Q (F0 m 143 ls []) := by
                                intro n9
                                induction n9 with
                                | zero => intro h1 s1 b hm9; exact absurd hm9 (Nat.not_lt_zero _)
                                | succ n9 ih143 =>
                                  intro h1 s1 b hm9 hb0 H locs ls hP hD hS hl
                                  refine lv_iload hx hb dL_areBoundsSo_143 (lv_at hl 5 rfl) ?_
                                  refine jv_bipush hx hb dL_areBoundsSo_145 (by decide) ?_
                                  refine jv_icmp_ge (tgt := 279) hx hb dL_areBoundsSo_147 (by decide) (by omega) (by omega) (fun c_42 => ?_) (fun c_42 => ?_)
                                  · refine lv_iload hx hb dL_areBoundsSo_279 (lv_at hl 4 rfl) ?_
                                    exact cret_i hx hb hr hlocks hS hP hD (Nat.le_of_ble_eq_true rfl) (Nat.le_of_ble_eq_true rfl) (jz_nb (show 1 = 0 ∨ 1 = 1 by omega)) dL_areBoundsSo_281 [0, 1, 2, 3, 4, 5] (by decide) ⟨h1, s1⟩ rfl trivial (congrArg (fun z : Int => some (Value.int (jz z))) (show 1 = 1 from by first | rfl | omega | (split <;> first | rfl | omega | (exfalso; omega)))) hQ
                                  · refine jv_iconst hx hb dL_areBoundsSo_150 ?_
                                    refine lv_istore (lv' := [(6, .int (jz 0)), (0, .ref x), (1, .int (jz n0)), (2, .int (jz n1)), (3, .int (jz (D 1 g0 g1 n0 n1))), (4, .int (jz 1)), (5, .int (jz b))]) hx hb dL_areBoundsSo_151 hl (by decide) rfl (fun ls hl => ?_)
                                    refine jv_iconst hx hb dL_areBoundsSo_153 ?_
                                    refine lv_istore (lv' := [(7, .int (jz 0)), (6, .int (jz 0)), (0, .ref x), (1, .int (jz n0)), (2, .int (jz n1)), (3, .int (jz (D 1 g0 g1 n0 n1))), (4, .int (jz 1)), (5, .int (jz b))]) hx hb dL_areBoundsSo_154 hl (by decide) rfl (fun ls hl => ?_)
                                    have K156 : ∀ (n9 : Nat) (r : Int) (i : Int) , ((n0 + 1 - i).toNat) < n9 → (0 ≤ i ∧ i ≤ n0 + 1) → (r = bandI b n1 i) → ∀ (H : Heap) (locs : List Loc) (ls : Array Slot), wP G [bBD G x st sv bu di se wy ta tt rp, bState G st t0 t1 al, bText G t0 a0 n0 g0, bText G t1 a1 n1 g1, bGrid G di db h1, bGrid G se sb s1] H → wD A [bBD G x st sv bu di se wy ta tt rp, bState G st t0 t1 al, bText G t0 a0 n0 g0, bText G t1 a1 n1 g1, bGrid G di db h1, bGrid G se sb s1] → va_S A s.heap H locs → lv_has ls 10 [(0, .ref x), (1, .int (jz n0)), (2, .int (jz n1)), (3, .int (jz (D 1 g0 g1 n0 n1))), (4, .int (jz 1)), (5, .int (jz b)), (6, .int (jz r)), (7, .int (jz i))] → W p l e rmL_areBoundsSo s m args below meth c H locs 0 0 Q (F0 m 156 ls []) := by
                                      intro n9
                                      induction n9 with
                                      | zero => intro r i hm9; exact absurd hm9 (Nat.not_lt_zero _)
                                      | succ n9 ih156 =>
                                        intro r i hm9 hi hr9 H locs ls hP hD hS hl
                                        refine lv_iload hx hb dL_areBoundsSo_156 (lv_at hl 7 rfl) ?_
                                        refine lv_iload_n hx hb dL_areBoundsSo_158 rfl (lv_at hl 1 rfl) ?_
                                        refine jv_icmp_gt (tgt := 230) hx hb dL_areBoundsSo_159 (by decide) (by omega) (by omega) (fun c_43 => ?_) (fun c_43 => ?_)
                                        · refine lv_iload hx hb dL_areBoundsSo_230 (lv_at hl 4 rfl) ?_
                                          refine jv_if_eq (tgt := 270) hx hb dL_areBoundsSo_232 (by decide) (by omega) (fun c_44 => ?_) (fun c_44 => ?_)
                                          · exfalso; omega
                                          · refine lv_aload_n hx hb dL_areBoundsSo_235 rfl (lv_at hl 0 rfl) ?_
                                            refine lv_iload hx hb dL_areBoundsSo_236 (lv_at hl 5 rfl) ?_
                                            refine kV ⟨hx, hb, hml, hown, hts⟩ hK hA hS hP hD [.int (jz b)] [] (mX8_within_k l G x st sv bu di se wy ta tt rp t0 t1 al a0 n0 g0 a1 n1 g1 db h1 b (by omega) (by omega) (by exact hg0) (by exact hg1) (by omega) (by omega)) lkL_86 [0, 1, 2, 3, 4] [5] (br := [bGrid G se sb s1]) rfl rfl (by decide) 0 8 rfl rfl rfl rfl (Nat.le_of_ble_eq_true rfl) hl.1 dL_areBoundsSo_238 ⟨Nat.le_of_ble_eq_true rfl, Nat.le_of_ble_eq_true rfl⟩ ⟨Nat.le_of_ble_eq_true rfl, Nat.le_of_ble_eq_true rfl⟩ (fun u9 H locs hp9 hP hD hS => ?_)
                                            obtain ⟨u_45, rfl⟩ : ∃ z, z = u9 := ⟨_, rfl⟩
                                            have hP : wP G [bGrid G se sb s1, bBD G x st sv bu di se wy ta tt rp, bState G st t0 t1 al, bText G t0 a0 n0 g0, bText G t1 a1 n1 g1, bGrid G di db u_45] H := hP
                                            have hD : wD A [bGrid G se sb s1, bBD G x st sv bu di se wy ta tt rp, bState G st t0 t1 al, bText G t0 a0 n0 g0, bText G t1 a1 n1 g1, bGrid G di db u_45] := hD
                                            show W p l e rmL_areBoundsSo s m args below meth c H locs 0 0 Q (F0 m 241 ls [.int (jz (if D 1 g0 g1 n0 n1 ≤ b then D 1 g0 g1 n0 n1 else -1))])
                                            refine jv_top (fun r_46 er_46 => ?_)
                                            have hw9 : (D 1 g0 g1 n0 n1 ≤ b ∧ r_46 = D 1 g0 g1 n0 n1) ∨ (b < D 1 g0 g1 n0 n1 ∧ r_46 = -1) := by rw [er_46]; split <;> omega
                                            refine lv_iload_n hx hb dL_areBoundsSo_241 rfl (lv_at hl 3 rfl) ?_
                                            refine lv_iload hx hb dL_areBoundsSo_242 (lv_at hl 5 rfl) ?_
                                            refine jv_icmp_le (tgt := 251) hx hb dL_areBoundsSo_244 (by decide) (by omega) (by omega) (fun c_47 => ?_) (fun c_47 => ?_)
                                            · refine lv_iload_n hx hb dL_areBoundsSo_251 rfl (lv_at hl 3 rfl) ?_
                                              refine jv_icmp_ne (tgt := 270) hx hb dL_areBoundsSo_252 (by decide) (by omega) (by omega) (fun c_48 => ?_) (fun c_48 => ?_)
                                              · exfalso; omega
                                              · refine lv_aload_n hx hb dL_areBoundsSo_255 rfl (lv_at hl 0 rfl) ?_
                                                refine lv_iload hx hb dL_areBoundsSo_256 (lv_at hl 5 rfl) ?_
                                                have hre : r = bandI b n1 (n0 + 1) := by rw [hr9, show i = n0 + 1 by omega]
                                                have hbb := bandI_bd (b := b) (n := n1) (k := n0 + 1) hn1 (by omega) (by omega)
                                                refine kV ⟨hx, hb, hml, hown, hts⟩ hK hA hS hP hD [.int (jz b)] [] (mX8_band_k l G x st sv bu di se wy ta tt rp t0 t1 al a0 n0 g0 a1 n1 g1 b (by omega) (by omega) (by omega) (by omega)) lkL_77 [1, 2, 3, 4] [0, 5] (br := [bGrid G se sb s1, bGrid G di db u_45]) rfl rfl (by decide) 0 8 rfl rfl rfl rfl (Nat.le_of_ble_eq_true rfl) hl.1 dL_areBoundsSo_258 ⟨Nat.le_of_ble_eq_true rfl, Nat.le_of_ble_eq_true rfl⟩ ⟨Nat.le_of_ble_eq_true rfl, Nat.le_of_ble_eq_true rfl⟩ (fun u9 H locs hp9 hP hD hS => ?_)
                                                have hP : wP G [bGrid G se sb s1, bGrid G di db u_45, bBD G x st sv bu di se wy ta tt rp, bState G st t0 t1 al, bText G t0 a0 n0 g0, bText G t1 a1 n1 g1] H := hP
                                                have hD : wD A [bGrid G se sb s1, bGrid G di db u_45, bBD G x st sv bu di se wy ta tt rp, bState G st t0 t1 al, bText G t0 a0 n0 g0, bText G t1 a1 n1 g1] := hD
                                                show W p l e rmL_areBoundsSo s m args below meth c H locs 0 0 Q (F0 m 261 ls [.int (jz (bandI b n1 (n0 + 1)))])
                                                refine lv_iload hx hb dL_areBoundsSo_261 (lv_at hl 6 rfl) ?_
                                                refine jv_icmp_ne (tgt := 270) hx hb dL_areBoundsSo_263 (by decide) (by omega) (by omega) (fun c_50 => ?_) (fun c_50 => ?_)
                                                · exfalso; omega
                                                · refine jv_iconst hx hb dL_areBoundsSo_266 ?_
                                                  refine lv_goto (tgt := 271) hx hb dL_areBoundsSo_267 (by decide) ?_
                                                  refine lv_istore (lv' := [(4, .int (jz 1)), (0, .ref x), (1, .int (jz n0)), (2, .int (jz n1)), (3, .int (jz (D 1 g0 g1 n0 n1))), (5, .int (jz b)), (6, .int (jz r)), (7, .int (jz i))]) hx hb dL_areBoundsSo_271 hl (by decide) rfl (fun ls hl => ?_)
                                                  refine jv_iinc (lv' := [(5, .int (jz (b + 1))), (4, .int (jz 1)), (0, .ref x), (1, .int (jz n0)), (2, .int (jz n1)), (3, .int (jz (D 1 g0 g1 n0 n1))), (6, .int (jz r)), (7, .int (jz i))]) (k := 5) hx hb dL_areBoundsSo_273 hl rfl (by decide) rfl (fun ls hl => ?_)
                                                  refine lv_goto (tgt := 143) hx hb dL_areBoundsSo_276 (by decide) ?_
                                                  exact ih143 u_45 s1 (b + 1) (by omega) (by omega) H _ _ (wP_sub (bc := [bBD G x st sv bu di se wy ta tt rp, bState G st t0 t1 al, bText G t0 a0 n0 g0, bText G t1 a1 n1 g1, bGrid G di db u_45, bGrid G se sb s1]) hP [2, 3, 4, 5, 1, 0] rfl) (wD_sub (bc := [bBD G x st sv bu di se wy ta tt rp, bState G st t0 t1 al, bText G t0 a0 n0 g0, bText G t1 a1 n1 g1, bGrid G di db u_45, bGrid G se sb s1]) hD [2, 3, 4, 5, 1, 0] (by decide) rfl) hS (lv_sub hl [2, 3, 4, 5, 1, 0] rfl)
                                            · refine jv_iconst hx hb dL_areBoundsSo_247 ?_
                                              refine lv_goto (tgt := 252) hx hb dL_areBoundsSo_248 (by decide) ?_
                                              refine jv_icmp_ne (tgt := 270) hx hb dL_areBoundsSo_252 (by decide) (by omega) (by omega) (fun c_51 => ?_) (fun c_51 => ?_)
                                              · exfalso; omega
                                              · refine lv_aload_n hx hb dL_areBoundsSo_255 rfl (lv_at hl 0 rfl) ?_
                                                refine lv_iload hx hb dL_areBoundsSo_256 (lv_at hl 5 rfl) ?_
                                                have hre : r = bandI b n1 (n0 + 1) := by rw [hr9, show i = n0 + 1 by omega]
                                                have hbb := bandI_bd (b := b) (n := n1) (k := n0 + 1) hn1 (by omega) (by omega)
                                                refine kV ⟨hx, hb, hml, hown, hts⟩ hK hA hS hP hD [.int (jz b)] [] (mX8_band_k l G x st sv bu di se wy ta tt rp t0 t1 al a0 n0 g0 a1 n1 g1 b (by omega) (by omega) (by omega) (by omega)) lkL_77 [1, 2, 3, 4] [0, 5] (br := [bGrid G se sb s1, bGrid G di db u_45]) rfl rfl (by decide) 0 8 rfl rfl rfl rfl (Nat.le_of_ble_eq_true rfl) hl.1 dL_areBoundsSo_258 ⟨Nat.le_of_ble_eq_true rfl, Nat.le_of_ble_eq_true rfl⟩ ⟨Nat.le_of_ble_eq_true rfl, Nat.le_of_ble_eq_true rfl⟩ (fun u9 H locs hp9 hP hD hS => ?_)
                                                have hP : wP G [bGrid G se sb s1, bGrid G di db u_45, bBD G x st sv bu di se wy ta tt rp, bState G st t0 t1 al, bText G t0 a0 n0 g0, bText G t1 a1 n1 g1] H := hP
                                                have hD : wD A [bGrid G se sb s1, bGrid G di db u_45, bBD G x st sv bu di se wy ta tt rp, bState G st t0 t1 al, bText G t0 a0 n0 g0, bText G t1 a1 n1 g1] := hD
                                                show W p l e rmL_areBoundsSo s m args below meth c H locs 0 0 Q (F0 m 261 ls [.int (jz (bandI b n1 (n0 + 1)))])
                                                refine lv_iload hx hb dL_areBoundsSo_261 (lv_at hl 6 rfl) ?_
                                                refine jv_icmp_ne (tgt := 270) hx hb dL_areBoundsSo_263 (by decide) (by omega) (by omega) (fun c_53 => ?_) (fun c_53 => ?_)
                                                · exfalso; omega
                                                · refine jv_iconst hx hb dL_areBoundsSo_266 ?_
                                                  refine lv_goto (tgt := 271) hx hb dL_areBoundsSo_267 (by decide) ?_
                                                  refine lv_istore (lv' := [(4, .int (jz 1)), (0, .ref x), (1, .int (jz n0)), (2, .int (jz n1)), (3, .int (jz (D 1 g0 g1 n0 n1))), (5, .int (jz b)), (6, .int (jz r)), (7, .int (jz i))]) hx hb dL_areBoundsSo_271 hl (by decide) rfl (fun ls hl => ?_)
                                                  refine jv_iinc (lv' := [(5, .int (jz (b + 1))), (4, .int (jz 1)), (0, .ref x), (1, .int (jz n0)), (2, .int (jz n1)), (3, .int (jz (D 1 g0 g1 n0 n1))), (6, .int (jz r)), (7, .int (jz i))]) (k := 5) hx hb dL_areBoundsSo_273 hl rfl (by decide) rfl (fun ls hl => ?_)
                                                  refine lv_goto (tgt := 143) hx hb dL_areBoundsSo_276 (by decide) ?_
                                                  exact ih143 u_45 s1 (b + 1) (by omega) (by omega) H _ _ (wP_sub (bc := [bBD G x st sv bu di se wy ta tt rp, bState G st t0 t1 al, bText G t0 a0 n0 g0, bText G t1 a1 n1 g1, bGrid G di db u_45, bGrid G se sb s1]) hP [2, 3, 4, 5, 1, 0] rfl) (wD_sub (bc := [bBD G x st sv bu di se wy ta tt rp, bState G st t0 t1 al, bText G t0 a0 n0 g0, bText G t1 a1 n1 g1, bGrid G di db u_45, bGrid G se sb s1]) hD [2, 3, 4, 5, 1, 0] (by decide) rfl) hS (lv_sub hl [2, 3, 4, 5, 1, 0] rfl)
                                        · refine lv_iload hx hb dL_areBoundsSo_162 (lv_at hl 7 rfl) ?_
                                          refine lv_iload hx hb dL_areBoundsSo_164 (lv_at hl 5 rfl) ?_
                                          refine jv_isub hx hb dL_areBoundsSo_166 ?_
                                          refine jv_if_ge (tgt := 174) hx hb dL_areBoundsSo_167 (by decide) (by omega) (fun c_54 => ?_) (fun c_54 => ?_)
                                          · refine lv_iload hx hb dL_areBoundsSo_174 (lv_at hl 7 rfl) ?_
                                            refine lv_iload hx hb dL_areBoundsSo_176 (lv_at hl 5 rfl) ?_
                                            refine jv_isub hx hb dL_areBoundsSo_178 ?_
                                            refine lv_istore (lv' := [(8, .int (jz (i - b))), (0, .ref x), (1, .int (jz n0)), (2, .int (jz n1)), (3, .int (jz (D 1 g0 g1 n0 n1))), (4, .int (jz 1)), (5, .int (jz b)), (6, .int (jz r)), (7, .int (jz i))]) hx hb dL_areBoundsSo_179 hl (by decide) rfl (fun ls hl => ?_)
                                            refine lv_iload hx hb dL_areBoundsSo_181 (lv_at hl 8 rfl) ?_
                                            refine lv_iload hx hb dL_areBoundsSo_183 (lv_at hl 6 rfl) ?_
                                            refine jv_iadd hx hb dL_areBoundsSo_185 ?_
                                            refine lv_iload_n hx hb dL_areBoundsSo_186 rfl (lv_at hl 3 rfl) ?_
                                            refine jv_icmp_le (tgt := 194) hx hb dL_areBoundsSo_187 (by decide) (by omega) (by omega) (fun c_55 => ?_) (fun c_55 => ?_)
                                            · refine lv_iload hx hb dL_areBoundsSo_194 (lv_at hl 8 rfl) ?_
                                              refine lv_iload hx hb dL_areBoundsSo_196 (lv_at hl 6 rfl) ?_
                                              refine jv_iadd hx hb dL_areBoundsSo_198 ?_
                                              refine lv_istore (lv' := [(9, .int (jz (i + b))), (8, .int (jz (i - b))), (0, .ref x), (1, .int (jz n0)), (2, .int (jz n1)), (3, .int (jz (D 1 g0 g1 n0 n1))), (4, .int (jz 1)), (5, .int (jz b)), (6, .int (jz r)), (7, .int (jz i))]) hx hb dL_areBoundsSo_199 hl (by decide) rfl (fun ls hl => ?_)
                                              refine lv_iload hx hb dL_areBoundsSo_201 (lv_at hl 8 rfl) ?_
                                              refine lv_iload hx hb dL_areBoundsSo_203 (lv_at hl 0 rfl) ?_
                                              refine lv_iload hx hb dL_areBoundsSo_205 (lv_at hl 1 rfl) ?_
                                              refine jv_icmp_ge (tgt := 214) hx hb dL_areBoundsSo_207 (by decide) (by omega) (by omega) (fun c_56 => ?_) (fun c_56 => ?_)
                                              · refine lv_iload hx hb dL_areBoundsSo_214 (lv_at hl 0 rfl) ?_
                                                refine lv_iload hx hb dL_areBoundsSo_216 (lv_at hl 1 rfl) ?_
                                                refine jv_isub hx hb dL_areBoundsSo_218 ?_
                                                refine jv_iconst hx hb dL_areBoundsSo_219 ?_
                                                refine jv_iadd hx hb dL_areBoundsSo_220 ?_
                                                refine jv_iadd hx hb dL_areBoundsSo_221 ?_
                                                refine lv_istore (lv' := [(6, .int (jz (r + (((i + b) - (i - b)) + 1)))), (9, .int (jz (i + b))), (8, .int (jz (i - b))), (0, .ref x), (1, .int (jz n0)), (2, .int (jz n1)), (3, .int (jz (D 1 g0 g1 n0 n1))), (4, .int (jz 1)), (5, .int (jz b)), (7, .int (jz i))]) hx hb dL_areBoundsSo_222 hl (by decide) rfl (fun ls hl => ?_)
                                                refine jv_iinc (lv' := [(7, .int (jz (i + 1))), (6, .int (jz (r + (((i + b) - (i - b)) + 1)))), (9, .int (jz (i + b))), (8, .int (jz (i - b))), (0, .ref x), (1, .int (jz n0)), (2, .int (jz n1)), (3, .int (jz (D 1 g0 g1 n0 n1))), (4, .int (jz 1)), (5, .int (jz b))]) (k := 9) hx hb dL_areBoundsSo_224 hl rfl (by decide) rfl (fun ls hl => ?_)
                                                refine lv_goto (tgt := 156) hx hb dL_areBoundsSo_227 (by decide) ?_
                                                exact ih156 (r + (((i + b) - (i - b)) + 1)) (i + 1) (by omega) (by omega) (by rw [bandI_s b n1 (by omega)]; omega) H _ _ hP hD hS (lv_sub hl [4, 5, 6, 7, 8, 9, 1, 0] rfl)
                                              · refine jv_iconst hx hb dL_areBoundsSo_210 ?_
                                                refine lv_goto (tgt := 221) hx hb dL_areBoundsSo_211 (by decide) ?_
                                                refine jv_iadd hx hb dL_areBoundsSo_221 ?_
                                                refine lv_istore (lv' := [(6, .int (jz (r + 0))), (9, .int (jz (i + b))), (8, .int (jz (i - b))), (0, .ref x), (1, .int (jz n0)), (2, .int (jz n1)), (3, .int (jz (D 1 g0 g1 n0 n1))), (4, .int (jz 1)), (5, .int (jz b)), (7, .int (jz i))]) hx hb dL_areBoundsSo_222 hl (by decide) rfl (fun ls hl => ?_)
                                                refine jv_iinc (lv' := [(7, .int (jz (i + 1))), (6, .int (jz (r + 0))), (9, .int (jz (i + b))), (8, .int (jz (i - b))), (0, .ref x), (1, .int (jz n0)), (2, .int (jz n1)), (3, .int (jz (D 1 g0 g1 n0 n1))), (4, .int (jz 1)), (5, .int (jz b))]) (k := 9) hx hb dL_areBoundsSo_224 hl rfl (by decide) rfl (fun ls hl => ?_)
                                                refine lv_goto (tgt := 156) hx hb dL_areBoundsSo_227 (by decide) ?_
                                                exact ih156 (r + 0) (i + 1) (by omega) (by omega) (by rw [bandI_s b n1 (by omega)]; omega) H _ _ hP hD hS (lv_sub hl [4, 5, 6, 7, 8, 9, 1, 0] rfl)
                                            · refine lv_iload_n hx hb dL_areBoundsSo_190 rfl (lv_at hl 3 rfl) ?_
                                              refine lv_goto (tgt := 199) hx hb dL_areBoundsSo_191 (by decide) ?_
                                              refine lv_istore (lv' := [(9, .int (jz n1)), (8, .int (jz (i - b))), (0, .ref x), (1, .int (jz n0)), (2, .int (jz n1)), (3, .int (jz (D 1 g0 g1 n0 n1))), (4, .int (jz 1)), (5, .int (jz b)), (6, .int (jz r)), (7, .int (jz i))]) hx hb dL_areBoundsSo_199 hl (by decide) rfl (fun ls hl => ?_)
                                              refine lv_iload hx hb dL_areBoundsSo_201 (lv_at hl 8 rfl) ?_
                                              refine lv_iload hx hb dL_areBoundsSo_203 (lv_at hl 0 rfl) ?_
                                              refine lv_iload hx hb dL_areBoundsSo_205 (lv_at hl 1 rfl) ?_
                                              refine jv_icmp_ge (tgt := 214) hx hb dL_areBoundsSo_207 (by decide) (by omega) (by omega) (fun c_57 => ?_) (fun c_57 => ?_)
                                              · refine lv_iload hx hb dL_areBoundsSo_214 (lv_at hl 0 rfl) ?_
                                                refine lv_iload hx hb dL_areBoundsSo_216 (lv_at hl 1 rfl) ?_
                                                refine jv_isub hx hb dL_areBoundsSo_218 ?_
                                                refine jv_iconst hx hb dL_areBoundsSo_219 ?_
                                                refine jv_iadd hx hb dL_areBoundsSo_220 ?_
                                                refine jv_iadd hx hb dL_areBoundsSo_221 ?_
                                                refine lv_istore (lv' := [(6, .int (jz (r + ((n1 - (i - b)) + 1)))), (9, .int (jz n1)), (8, .int (jz (i - b))), (0, .ref x), (1, .int (jz n0)), (2, .int (jz n1)), (3, .int (jz (D 1 g0 g1 n0 n1))), (4, .int (jz 1)), (5, .int (jz b)), (7, .int (jz i))]) hx hb dL_areBoundsSo_222 hl (by decide) rfl (fun ls hl => ?_)
                                                refine jv_iinc (lv' := [(7, .int (jz (i + 1))), (6, .int (jz (r + ((n1 - (i - b)) + 1)))), (9, .int (jz n1)), (8, .int (jz (i - b))), (0, .ref x), (1, .int (jz n0)), (2, .int (jz n1)), (3, .int (jz (D 1 g0 g1 n0 n1))), (4, .int (jz 1)), (5, .int (jz b))]) (k := 9) hx hb dL_areBoundsSo_224 hl rfl (by decide) rfl (fun ls hl => ?_)
                                                refine lv_goto (tgt := 156) hx hb dL_areBoundsSo_227 (by decide) ?_
                                                exact ih156 (r + ((n1 - (i - b)) + 1)) (i + 1) (by omega) (by omega) (by rw [bandI_s b n1 (by omega)]; omega) H _ _ hP hD hS (lv_sub hl [4, 5, 6, 7, 8, 9, 1, 0] rfl)
                                              · refine jv_iconst hx hb dL_areBoundsSo_210 ?_
                                                refine lv_goto (tgt := 221) hx hb dL_areBoundsSo_211 (by decide) ?_
                                                refine jv_iadd hx hb dL_areBoundsSo_221 ?_
                                                refine lv_istore (lv' := [(6, .int (jz (r + 0))), (9, .int (jz n1)), (8, .int (jz (i - b))), (0, .ref x), (1, .int (jz n0)), (2, .int (jz n1)), (3, .int (jz (D 1 g0 g1 n0 n1))), (4, .int (jz 1)), (5, .int (jz b)), (7, .int (jz i))]) hx hb dL_areBoundsSo_222 hl (by decide) rfl (fun ls hl => ?_)
                                                refine jv_iinc (lv' := [(7, .int (jz (i + 1))), (6, .int (jz (r + 0))), (9, .int (jz n1)), (8, .int (jz (i - b))), (0, .ref x), (1, .int (jz n0)), (2, .int (jz n1)), (3, .int (jz (D 1 g0 g1 n0 n1))), (4, .int (jz 1)), (5, .int (jz b))]) (k := 9) hx hb dL_areBoundsSo_224 hl rfl (by decide) rfl (fun ls hl => ?_)
                                                refine lv_goto (tgt := 156) hx hb dL_areBoundsSo_227 (by decide) ?_
                                                exact ih156 (r + 0) (i + 1) (by omega) (by omega) (by rw [bandI_s b n1 (by omega)]; omega) H _ _ hP hD hS (lv_sub hl [4, 5, 6, 7, 8, 9, 1, 0] rfl)
                                          · refine jv_iconst hx hb dL_areBoundsSo_170 ?_
                                            refine lv_goto (tgt := 179) hx hb dL_areBoundsSo_171 (by decide) ?_
                                            refine lv_istore (lv' := [(8, .int (jz 0)), (0, .ref x), (1, .int (jz n0)), (2, .int (jz n1)), (3, .int (jz (D 1 g0 g1 n0 n1))), (4, .int (jz 1)), (5, .int (jz b)), (6, .int (jz r)), (7, .int (jz i))]) hx hb dL_areBoundsSo_179 hl (by decide) rfl (fun ls hl => ?_)
                                            refine lv_iload hx hb dL_areBoundsSo_181 (lv_at hl 8 rfl) ?_
                                            refine lv_iload hx hb dL_areBoundsSo_183 (lv_at hl 6 rfl) ?_
                                            refine jv_iadd hx hb dL_areBoundsSo_185 ?_
                                            refine lv_iload_n hx hb dL_areBoundsSo_186 rfl (lv_at hl 3 rfl) ?_
                                            refine jv_icmp_le (tgt := 194) hx hb dL_areBoundsSo_187 (by decide) (by omega) (by omega) (fun c_58 => ?_) (fun c_58 => ?_)
                                            · refine lv_iload hx hb dL_areBoundsSo_194 (lv_at hl 8 rfl) ?_
                                              refine lv_iload hx hb dL_areBoundsSo_196 (lv_at hl 6 rfl) ?_
                                              refine jv_iadd hx hb dL_areBoundsSo_198 ?_
                                              refine lv_istore (lv' := [(9, .int (jz (i + b))), (8, .int (jz 0)), (0, .ref x), (1, .int (jz n0)), (2, .int (jz n1)), (3, .int (jz (D 1 g0 g1 n0 n1))), (4, .int (jz 1)), (5, .int (jz b)), (6, .int (jz r)), (7, .int (jz i))]) hx hb dL_areBoundsSo_199 hl (by decide) rfl (fun ls hl => ?_)
                                              refine lv_iload hx hb dL_areBoundsSo_201 (lv_at hl 8 rfl) ?_
                                              refine lv_iload hx hb dL_areBoundsSo_203 (lv_at hl 0 rfl) ?_
                                              refine lv_iload hx hb dL_areBoundsSo_205 (lv_at hl 1 rfl) ?_
                                              refine jv_icmp_ge (tgt := 214) hx hb dL_areBoundsSo_207 (by decide) (by omega) (by omega) (fun c_59 => ?_) (fun c_59 => ?_)
                                              · refine lv_iload hx hb dL_areBoundsSo_214 (lv_at hl 0 rfl) ?_
                                                refine lv_iload hx hb dL_areBoundsSo_216 (lv_at hl 1 rfl) ?_
                                                refine jv_isub hx hb dL_areBoundsSo_218 ?_
                                                refine jv_iconst hx hb dL_areBoundsSo_219 ?_
                                                refine jv_iadd hx hb dL_areBoundsSo_220 ?_
                                                refine jv_iadd hx hb dL_areBoundsSo_221 ?_
                                                refine lv_istore (lv' := [(6, .int (jz (r + (((i + b) - 0) + 1)))), (9, .int (jz (i + b))), (8, .int (jz 0)), (0, .ref x), (1, .int (jz n0)), (2, .int (jz n1)), (3, .int (jz (D 1 g0 g1 n0 n1))), (4, .int (jz 1)), (5, .int (jz b)), (7, .int (jz i))]) hx hb dL_areBoundsSo_222 hl (by decide) rfl (fun ls hl => ?_)
                                                refine jv_iinc (lv' := [(7, .int (jz (i + 1))), (6, .int (jz (r + (((i + b) - 0) + 1)))), (9, .int (jz (i + b))), (8, .int (jz 0)), (0, .ref x), (1, .int (jz n0)), (2, .int (jz n1)), (3, .int (jz (D 1 g0 g1 n0 n1))), (4, .int (jz 1)), (5, .int (jz b))]) (k := 9) hx hb dL_areBoundsSo_224 hl rfl (by decide) rfl (fun ls hl => ?_)
                                                refine lv_goto (tgt := 156) hx hb dL_areBoundsSo_227 (by decide) ?_
                                                exact ih156 (r + (((i + b) - 0) + 1)) (i + 1) (by omega) (by omega) (by rw [bandI_s b n1 (by omega)]; omega) H _ _ hP hD hS (lv_sub hl [4, 5, 6, 7, 8, 9, 1, 0] rfl)
                                              · refine jv_iconst hx hb dL_areBoundsSo_210 ?_
                                                refine lv_goto (tgt := 221) hx hb dL_areBoundsSo_211 (by decide) ?_
                                                refine jv_iadd hx hb dL_areBoundsSo_221 ?_
                                                refine lv_istore (lv' := [(6, .int (jz (r + 0))), (9, .int (jz (i + b))), (8, .int (jz 0)), (0, .ref x), (1, .int (jz n0)), (2, .int (jz n1)), (3, .int (jz (D 1 g0 g1 n0 n1))), (4, .int (jz 1)), (5, .int (jz b)), (7, .int (jz i))]) hx hb dL_areBoundsSo_222 hl (by decide) rfl (fun ls hl => ?_)
                                                refine jv_iinc (lv' := [(7, .int (jz (i + 1))), (6, .int (jz (r + 0))), (9, .int (jz (i + b))), (8, .int (jz 0)), (0, .ref x), (1, .int (jz n0)), (2, .int (jz n1)), (3, .int (jz (D 1 g0 g1 n0 n1))), (4, .int (jz 1)), (5, .int (jz b))]) (k := 9) hx hb dL_areBoundsSo_224 hl rfl (by decide) rfl (fun ls hl => ?_)
                                                refine lv_goto (tgt := 156) hx hb dL_areBoundsSo_227 (by decide) ?_
                                                exact ih156 (r + 0) (i + 1) (by omega) (by omega) (by rw [bandI_s b n1 (by omega)]; omega) H _ _ hP hD hS (lv_sub hl [4, 5, 6, 7, 8, 9, 1, 0] rfl)
                                            · refine lv_iload_n hx hb dL_areBoundsSo_190 rfl (lv_at hl 3 rfl) ?_
                                              refine lv_goto (tgt := 199) hx hb dL_areBoundsSo_191 (by decide) ?_
                                              refine lv_istore (lv' := [(9, .int (jz n1)), (8, .int (jz 0)), (0, .ref x), (1, .int (jz n0)), (2, .int (jz n1)), (3, .int (jz (D 1 g0 g1 n0 n1))), (4, .int (jz 1)), (5, .int (jz b)), (6, .int (jz r)), (7, .int (jz i))]) hx hb dL_areBoundsSo_199 hl (by decide) rfl (fun ls hl => ?_)
                                              refine lv_iload hx hb dL_areBoundsSo_201 (lv_at hl 8 rfl) ?_
                                              refine lv_iload hx hb dL_areBoundsSo_203 (lv_at hl 0 rfl) ?_
                                              refine lv_iload hx hb dL_areBoundsSo_205 (lv_at hl 1 rfl) ?_
                                              refine jv_icmp_ge (tgt := 214) hx hb dL_areBoundsSo_207 (by decide) (by omega) (by omega) (fun c_60 => ?_) (fun c_60 => ?_)
                                              · refine lv_iload hx hb dL_areBoundsSo_214 (lv_at hl 0 rfl) ?_
                                                refine lv_iload hx hb dL_areBoundsSo_216 (lv_at hl 1 rfl) ?_
                                                refine jv_isub hx hb dL_areBoundsSo_218 ?_
                                                refine jv_iconst hx hb dL_areBoundsSo_219 ?_
                                                refine jv_iadd hx hb dL_areBoundsSo_220 ?_
                                                refine jv_iadd hx hb dL_areBoundsSo_221 ?_
                                                refine lv_istore (lv' := [(6, .int (jz (r + ((n1 - 0) + 1)))), (9, .int (jz n1)), (8, .int (jz 0)), (0, .ref x), (1, .int (jz n0)), (2, .int (jz n1)), (3, .int (jz (D 1 g0 g1 n0 n1))), (4, .int (jz 1)), (5, .int (jz b)), (7, .int (jz i))]) hx hb dL_areBoundsSo_222 hl (by decide) rfl (fun ls hl => ?_)
                                                refine jv_iinc (lv' := [(7, .int (jz (i + 1))), (6, .int (jz (r + ((n1 - 0) + 1)))), (9, .int (jz n1)), (8, .int (jz 0)), (0, .ref x), (1, .int (jz n0)), (2, .int (jz n1)), (3, .int (jz (D 1 g0 g1 n0 n1))), (4, .int (jz 1)), (5, .int (jz b))]) (k := 9) hx hb dL_areBoundsSo_224 hl rfl (by decide) rfl (fun ls hl => ?_)
                                                refine lv_goto (tgt := 156) hx hb dL_areBoundsSo_227 (by decide) ?_
                                                exact ih156 (r + ((n1 - 0) + 1)) (i + 1) (by omega) (by omega) (by rw [bandI_s b n1 (by omega)]; omega) H _ _ hP hD hS (lv_sub hl [4, 5, 6, 7, 8, 9, 1, 0] rfl)
                                              · refine jv_iconst hx hb dL_areBoundsSo_210 ?_
                                                refine lv_goto (tgt := 221) hx hb dL_areBoundsSo_211 (by decide) ?_
                                                refine jv_iadd hx hb dL_areBoundsSo_221 ?_
                                                refine lv_istore (lv' := [(6, .int (jz (r + 0))), (9, .int (jz n1)), (8, .int (jz 0)), (0, .ref x), (1, .int (jz n0)), (2, .int (jz n1)), (3, .int (jz (D 1 g0 g1 n0 n1))), (4, .int (jz 1)), (5, .int (jz b)), (7, .int (jz i))]) hx hb dL_areBoundsSo_222 hl (by decide) rfl (fun ls hl => ?_)
                                                refine jv_iinc (lv' := [(7, .int (jz (i + 1))), (6, .int (jz (r + 0))), (9, .int (jz n1)), (8, .int (jz 0)), (0, .ref x), (1, .int (jz n0)), (2, .int (jz n1)), (3, .int (jz (D 1 g0 g1 n0 n1))), (4, .int (jz 1)), (5, .int (jz b))]) (k := 9) hx hb dL_areBoundsSo_224 hl rfl (by decide) rfl (fun ls hl => ?_)
                                                refine lv_goto (tgt := 156) hx hb dL_areBoundsSo_227 (by decide) ?_
                                                exact ih156 (r + 0) (i + 1) (by omega) (by omega) (by rw [bandI_s b n1 (by omega)]; omega) H _ _ hP hD hS (lv_sub hl [4, 5, 6, 7, 8, 9, 1, 0] rfl)
                                    exact K156 (((n0 + 1 - 0).toNat) + 1) 0 0 (Nat.lt_succ_self _) (by omega) (by rfl) H _ _ hP hD hS (lv_sub hl [2, 3, 4, 5, 6, 7, 1, 0] rfl)
                              exact K143 ((((21 : Int) - 0).toNat) + 1) u_20 u_18 0 (Nat.lt_succ_self _) (by omega) H _ _ (wP_sub (bc := [bBD G x st sv bu di se wy ta tt rp, bState G st t0 t1 al, bText G t0 a0 n0 g0, bText G t1 a1 n1 g1, bGrid G di db u_20, bGrid G se sb u_18]) hP [1, 2, 3, 4, 5, 0] rfl) (wD_sub (bc := [bBD G x st sv bu di se wy ta tt rp, bState G st t0 t1 al, bText G t0 a0 n0 g0, bText G t1 a1 n1 g1, bGrid G di db u_20, bGrid G se sb u_18]) hD [1, 2, 3, 4, 5, 0] (by decide) rfl) hS (lv_sub hl [2, 3, 4, 5, 1, 0] rfl)
                          · refine jv_iconst hx hb dL_areBoundsSo_125 ?_
                            refine lv_goto (tgt := 130) hx hb dL_areBoundsSo_126 (by decide) ?_
                            refine jv_icmp_ne (tgt := 137) hx hb dL_areBoundsSo_130 (by decide) (by omega) (by omega) (fun c_61 => ?_) (fun c_61 => ?_)
                            · exfalso; omega
                            · refine jv_iconst hx hb dL_areBoundsSo_133 ?_
                              refine lv_goto (tgt := 138) hx hb dL_areBoundsSo_134 (by decide) ?_
                              refine lv_istore (lv' := [(4, .int (jz 1)), (0, .ref x), (1, .int (jz n0)), (2, .int (jz n1)), (3, .int (jz (D 1 g0 g1 n0 n1)))]) hx hb dL_areBoundsSo_138 hl (by decide) rfl (fun ls hl => ?_)
                              refine jv_iconst hx hb dL_areBoundsSo_140 ?_
                              refine lv_istore (lv' := [(5, .int (jz 0)), (4, .int (jz 1)), (0, .ref x), (1, .int (jz n0)), (2, .int (jz n1)), (3, .int (jz (D 1 g0 g1 n0 n1)))]) hx hb dL_areBoundsSo_141 hl (by decide) rfl (fun ls hl => ?_)
                              have K143 : ∀ (n9 : Nat) (h1 : Int → Int) (s1 : Int → Int) (b : Int) , (((21 : Int) - b).toNat) < n9 → (0 ≤ b ∧ b ≤ 21) → ∀ (H : Heap) (locs : List Loc) (ls : Array Slot), wP G [bBD G x st sv bu di se wy ta tt rp, bState G st t0 t1 al, bText G t0 a0 n0 g0, bText G t1 a1 n1 g1, bGrid G di db h1, bGrid G se sb s1] H → wD A [bBD G x st sv bu di se wy ta tt rp, bState G st t0 t1 al, bText G t0 a0 n0 g0, bText G t1 a1 n1 g1, bGrid G di db h1, bGrid G se sb s1] → va_S A s.heap H locs → lv_has ls 10 [(0, .ref x), (1, .int (jz n0)), (2, .int (jz n1)), (3, .int (jz (D 1 g0 g1 n0 n1))), (4, .int (jz 1)), (5, .int (jz b))] → W p l e rmL_areBoundsSo s m args below meth c H locs 0 0 Q (F0 m 143 ls []) := by
                                intro n9
                                induction n9 with
                                | zero => intro h1 s1 b hm9; exact absurd hm9 (Nat.not_lt_zero _)
                                | succ n9 ih143 =>
                                  intro h1 s1 b hm9 hb0 H locs ls hP hD hS hl
                                  refine lv_iload hx hb dL_areBoundsSo_143 (lv_at hl 5 rfl) ?_
                                  refine jv_bipush hx hb dL_areBoundsSo_145 (by decide) ?_
                                  refine jv_icmp_ge (tgt := 279) hx hb dL_areBoundsSo_147 (by decide) (by omega) (by omega) (fun c_62 => ?_) (fun c_62 => ?_)
                                  · refine lv_iload hx hb dL_areBoundsSo_279 (lv_at hl 4 rfl) ?_
                                    exact cret_i hx hb hr hlocks hS hP hD (Nat.le_of_ble_eq_true rfl) (Nat.le_of_ble_eq_true rfl) (jz_nb (show 1 = 0 ∨ 1 = 1 by omega)) dL_areBoundsSo_281 [0, 1, 2, 3, 4, 5] (by decide) ⟨h1, s1⟩ rfl trivial (congrArg (fun z : Int => some (Value.int (jz z))) (show 1 = 1 from by first | rfl | omega | (split <;> first | rfl | omega | (exfalso; omega)))) hQ
                                  · refine jv_iconst hx hb dL_areBoundsSo_150 ?_
                                    refine lv_istore (lv' := [(6, .int (jz 0)), (0, .ref x), (1, .int (jz n0)), (2, .int (jz n1)), (3, .int (jz (D 1 g0 g1 n0 n1))), (4, .int (jz 1)), (5, .int (jz b))]) hx hb dL_areBoundsSo_151 hl (by decide) rfl (fun ls hl => ?_)
                                    refine jv_iconst hx hb dL_areBoundsSo_153 ?_
                                    refine lv_istore (lv' := [(7, .int (jz 0)), (6, .int (jz 0)), (0, .ref x), (1, .int (jz n0)), (2, .int (jz n1)), (3, .int (jz (D 1 g0 g1 n0 n1))), (4, .int (jz 1)), (5, .int (jz b))]) hx hb dL_areBoundsSo_154 hl (by decide) rfl (fun ls hl => ?_)
                                    have K156 : ∀ (n9 : Nat) (r : Int) (i : Int) , ((n0 + 1 - i).toNat) < n9 → (0 ≤ i ∧ i ≤ n0 + 1) → (r = bandI b n1 i) → ∀ (H : Heap) (locs : List Loc) (ls : Array Slot), wP G [bBD G x st sv bu di se wy ta tt rp, bState G st t0 t1 al, bText G t0 a0 n0 g0, bText G t1 a1 n1 g1, bGrid G di db h1, bGrid G se sb s1] H → wD A [bBD G x st sv bu di se wy ta tt rp, bState G st t0 t1 al, bText G t0 a0 n0 g0, bText G t1 a1 n1 g1, bGrid G di db h1, bGrid G se sb s1] → va_S A s.heap H locs → lv_has ls 10 [(0, .ref x), (1, .int (jz n0)), (2, .int (jz n1)), (3, .int (jz (D 1 g0 g1 n0 n1))), (4, .int (jz 1)), (5, .int (jz b)), (6, .int (jz r)), (7, .int (jz i))] → W p l e rmL_areBoundsSo s m args below meth c H locs 0 0 Q (F0 m 156 ls []) := by
                                      intro n9
                                      induction n9 with
                                      | zero => intro r i hm9; exact absurd hm9 (Nat.not_lt_zero _)
                                      | succ n9 ih156 =>
                                        intro r i hm9 hi hr9 H locs ls hP hD hS hl
                                        refine lv_iload hx hb dL_areBoundsSo_156 (lv_at hl 7 rfl) ?_
                                        refine lv_iload_n hx hb dL_areBoundsSo_158 rfl (lv_at hl 1 rfl) ?_
                                        refine jv_icmp_gt (tgt := 230) hx hb dL_areBoundsSo_159 (by decide) (by omega) (by omega) (fun c_63 => ?_) (fun c_63 => ?_)
                                        · refine lv_iload hx hb dL_areBoundsSo_230 (lv_at hl 4 rfl) ?_
                                          refine jv_if_eq (tgt := 270) hx hb dL_areBoundsSo_232 (by decide) (by omega) (fun c_64 => ?_) (fun c_64 => ?_)
                                          · exfalso; omega
                                          · refine lv_aload_n hx hb dL_areBoundsSo_235 rfl (lv_at hl 0 rfl) ?_
                                            refine lv_iload hx hb dL_areBoundsSo_236 (lv_at hl 5 rfl) ?_
                                            refine kV ⟨hx, hb, hml, hown, hts⟩ hK hA hS hP hD [.int (jz b)] [] (mX8_within_k l G x st sv bu di se wy ta tt rp t0 t1 al a0 n0 g0 a1 n1 g1 db h1 b (by omega) (by omega) (by exact hg0) (by exact hg1) (by omega) (by omega)) lkL_86 [0, 1, 2, 3, 4] [5] (br := [bGrid G se sb s1]) rfl rfl (by decide) 0 8 rfl rfl rfl rfl (Nat.le_of_ble_eq_true rfl) hl.1 dL_areBoundsSo_238 ⟨Nat.le_of_ble_eq_true rfl, Nat.le_of_ble_eq_true rfl⟩ ⟨Nat.le_of_ble_eq_true rfl, Nat.le_of_ble_eq_true rfl⟩ (fun u9 H locs hp9 hP hD hS => ?_)
                                            obtain ⟨u_65, rfl⟩ : ∃ z, z = u9 := ⟨_, rfl⟩
                                            have hP : wP G [bGrid G se sb s1, bBD G x st sv bu di se wy ta tt rp, bState G st t0 t1 al, bText G t0 a0 n0 g0, bText G t1 a1 n1 g1, bGrid G di db u_65] H := hP
                                            have hD : wD A [bGrid G se sb s1, bBD G x st sv bu di se wy ta tt rp, bState G st t0 t1 al, bText G t0 a0 n0 g0, bText G t1 a1 n1 g1, bGrid G di db u_65] := hD
                                            show W p l e rmL_areBoundsSo s m args below meth c H locs 0 0 Q (F0 m 241 ls [.int (jz (if D 1 g0 g1 n0 n1 ≤ b then D 1 g0 g1 n0 n1 else -1))])
                                            refine jv_top (fun r_66 er_66 => ?_)
                                            have hw9 : (D 1 g0 g1 n0 n1 ≤ b ∧ r_66 = D 1 g0 g1 n0 n1) ∨ (b < D 1 g0 g1 n0 n1 ∧ r_66 = -1) := by rw [er_66]; split <;> omega
                                            refine lv_iload_n hx hb dL_areBoundsSo_241 rfl (lv_at hl 3 rfl) ?_
                                            refine lv_iload hx hb dL_areBoundsSo_242 (lv_at hl 5 rfl) ?_
                                            refine jv_icmp_le (tgt := 251) hx hb dL_areBoundsSo_244 (by decide) (by omega) (by omega) (fun c_67 => ?_) (fun c_67 => ?_)
                                            · refine lv_iload_n hx hb dL_areBoundsSo_251 rfl (lv_at hl 3 rfl) ?_
                                              refine jv_icmp_ne (tgt := 270) hx hb dL_areBoundsSo_252 (by decide) (by omega) (by omega) (fun c_68 => ?_) (fun c_68 => ?_)
                                              · exfalso; omega
                                              · refine lv_aload_n hx hb dL_areBoundsSo_255 rfl (lv_at hl 0 rfl) ?_
                                                refine lv_iload hx hb dL_areBoundsSo_256 (lv_at hl 5 rfl) ?_
                                                have hre : r = bandI b n1 (n0 + 1) := by rw [hr9, show i = n0 + 1 by omega]
                                                have hbb := bandI_bd (b := b) (n := n1) (k := n0 + 1) hn1 (by omega) (by omega)
                                                refine kV ⟨hx, hb, hml, hown, hts⟩ hK hA hS hP hD [.int (jz b)] [] (mX8_band_k l G x st sv bu di se wy ta tt rp t0 t1 al a0 n0 g0 a1 n1 g1 b (by omega) (by omega) (by omega) (by omega)) lkL_77 [1, 2, 3, 4] [0, 5] (br := [bGrid G se sb s1, bGrid G di db u_65]) rfl rfl (by decide) 0 8 rfl rfl rfl rfl (Nat.le_of_ble_eq_true rfl) hl.1 dL_areBoundsSo_258 ⟨Nat.le_of_ble_eq_true rfl, Nat.le_of_ble_eq_true rfl⟩ ⟨Nat.le_of_ble_eq_true rfl, Nat.le_of_ble_eq_true rfl⟩ (fun u9 H locs hp9 hP hD hS => ?_)
                                                have hP : wP G [bGrid G se sb s1, bGrid G di db u_65, bBD G x st sv bu di se wy ta tt rp, bState G st t0 t1 al, bText G t0 a0 n0 g0, bText G t1 a1 n1 g1] H := hP
                                                have hD : wD A [bGrid G se sb s1, bGrid G di db u_65, bBD G x st sv bu di se wy ta tt rp, bState G st t0 t1 al, bText G t0 a0 n0 g0, bText G t1 a1 n1 g1] := hD
                                                show W p l e rmL_areBoundsSo s m args below meth c H locs 0 0 Q (F0 m 261 ls [.int (jz (bandI b n1 (n0 + 1)))])
                                                refine lv_iload hx hb dL_areBoundsSo_261 (lv_at hl 6 rfl) ?_
                                                refine jv_icmp_ne (tgt := 270) hx hb dL_areBoundsSo_263 (by decide) (by omega) (by omega) (fun c_70 => ?_) (fun c_70 => ?_)
                                                · exfalso; omega
                                                · refine jv_iconst hx hb dL_areBoundsSo_266 ?_
                                                  refine lv_goto (tgt := 271) hx hb dL_areBoundsSo_267 (by decide) ?_
                                                  refine lv_istore (lv' := [(4, .int (jz 1)), (0, .ref x), (1, .int (jz n0)), (2, .int (jz n1)), (3, .int (jz (D 1 g0 g1 n0 n1))), (5, .int (jz b)), (6, .int (jz r)), (7, .int (jz i))]) hx hb dL_areBoundsSo_271 hl (by decide) rfl (fun ls hl => ?_)
                                                  refine jv_iinc (lv' := [(5, .int (jz (b + 1))), (4, .int (jz 1)), (0, .ref x), (1, .int (jz n0)), (2, .int (jz n1)), (3, .int (jz (D 1 g0 g1 n0 n1))), (6, .int (jz r)), (7, .int (jz i))]) (k := 5) hx hb dL_areBoundsSo_273 hl rfl (by decide) rfl (fun ls hl => ?_)
                                                  refine lv_goto (tgt := 143) hx hb dL_areBoundsSo_276 (by decide) ?_
                                                  exact ih143 u_65 s1 (b + 1) (by omega) (by omega) H _ _ (wP_sub (bc := [bBD G x st sv bu di se wy ta tt rp, bState G st t0 t1 al, bText G t0 a0 n0 g0, bText G t1 a1 n1 g1, bGrid G di db u_65, bGrid G se sb s1]) hP [2, 3, 4, 5, 1, 0] rfl) (wD_sub (bc := [bBD G x st sv bu di se wy ta tt rp, bState G st t0 t1 al, bText G t0 a0 n0 g0, bText G t1 a1 n1 g1, bGrid G di db u_65, bGrid G se sb s1]) hD [2, 3, 4, 5, 1, 0] (by decide) rfl) hS (lv_sub hl [2, 3, 4, 5, 1, 0] rfl)
                                            · refine jv_iconst hx hb dL_areBoundsSo_247 ?_
                                              refine lv_goto (tgt := 252) hx hb dL_areBoundsSo_248 (by decide) ?_
                                              refine jv_icmp_ne (tgt := 270) hx hb dL_areBoundsSo_252 (by decide) (by omega) (by omega) (fun c_71 => ?_) (fun c_71 => ?_)
                                              · exfalso; omega
                                              · refine lv_aload_n hx hb dL_areBoundsSo_255 rfl (lv_at hl 0 rfl) ?_
                                                refine lv_iload hx hb dL_areBoundsSo_256 (lv_at hl 5 rfl) ?_
                                                have hre : r = bandI b n1 (n0 + 1) := by rw [hr9, show i = n0 + 1 by omega]
                                                have hbb := bandI_bd (b := b) (n := n1) (k := n0 + 1) hn1 (by omega) (by omega)
                                                refine kV ⟨hx, hb, hml, hown, hts⟩ hK hA hS hP hD [.int (jz b)] [] (mX8_band_k l G x st sv bu di se wy ta tt rp t0 t1 al a0 n0 g0 a1 n1 g1 b (by omega) (by omega) (by omega) (by omega)) lkL_77 [1, 2, 3, 4] [0, 5] (br := [bGrid G se sb s1, bGrid G di db u_65]) rfl rfl (by decide) 0 8 rfl rfl rfl rfl (Nat.le_of_ble_eq_true rfl) hl.1 dL_areBoundsSo_258 ⟨Nat.le_of_ble_eq_true rfl, Nat.le_of_ble_eq_true rfl⟩ ⟨Nat.le_of_ble_eq_true rfl, Nat.le_of_ble_eq_true rfl⟩ (fun u9 H locs hp9 hP hD hS => ?_)
                                                have hP : wP G [bGrid G se sb s1, bGrid G di db u_65, bBD G x st sv bu di se wy ta tt rp, bState G st t0 t1 al, bText G t0 a0 n0 g0, bText G t1 a1 n1 g1] H := hP
                                                have hD : wD A [bGrid G se sb s1, bGrid G di db u_65, bBD G x st sv bu di se wy ta tt rp, bState G st t0 t1 al, bText G t0 a0 n0 g0, bText G t1 a1 n1 g1] := hD
                                                show W p l e rmL_areBoundsSo s m args below meth c H locs 0 0 Q (F0 m 261 ls [.int (jz (bandI b n1 (n0 + 1)))])
                                                refine lv_iload hx hb dL_areBoundsSo_261 (lv_at hl 6 rfl) ?_
                                                refine jv_icmp_ne (tgt := 270) hx hb dL_areBoundsSo_263 (by decide) (by omega) (by omega) (fun c_73 => ?_) (fun c_73 => ?_)
                                                · exfalso; omega
                                                · refine jv_iconst hx hb dL_areBoundsSo_266 ?_
                                                  refine lv_goto (tgt := 271) hx hb dL_areBoundsSo_267 (by decide) ?_
                                                  refine lv_istore (lv' := [(4, .int (jz 1)), (0, .ref x), (1, .int (jz n0)), (2, .int (jz n1)), (3, .int (jz (D 1 g0 g1 n0 n1))), (5, .int (jz b)), (6, .int (jz r)), (7, .int (jz i))]) hx hb dL_areBoundsSo_271 hl (by decide) rfl (fun ls hl => ?_)
                                                  refine jv_iinc (lv' := [(5, .int (jz (b + 1))), (4, .int (jz 1)), (0, .ref x), (1, .int (jz n0)), (2, .int (jz n1)), (3, .int (jz (D 1 g0 g1 n0 n1))), (6, .int (jz r)), (7, .int (jz i))]) (k := 5) hx hb dL_areBoundsSo_273 hl rfl (by decide) rfl (fun ls hl => ?_)
                                                  refine lv_goto (tgt := 143) hx hb dL_areBoundsSo_276 (by decide) ?_
                                                  exact ih143 u_65 s1 (b + 1) (by omega) (by omega) H _ _ (wP_sub (bc := [bBD G x st sv bu di se wy ta tt rp, bState G st t0 t1 al, bText G t0 a0 n0 g0, bText G t1 a1 n1 g1, bGrid G di db u_65, bGrid G se sb s1]) hP [2, 3, 4, 5, 1, 0] rfl) (wD_sub (bc := [bBD G x st sv bu di se wy ta tt rp, bState G st t0 t1 al, bText G t0 a0 n0 g0, bText G t1 a1 n1 g1, bGrid G di db u_65, bGrid G se sb s1]) hD [2, 3, 4, 5, 1, 0] (by decide) rfl) hS (lv_sub hl [2, 3, 4, 5, 1, 0] rfl)
                                        · refine lv_iload hx hb dL_areBoundsSo_162 (lv_at hl 7 rfl) ?_
                                          refine lv_iload hx hb dL_areBoundsSo_164 (lv_at hl 5 rfl) ?_
                                          refine jv_isub hx hb dL_areBoundsSo_166 ?_
                                          refine jv_if_ge (tgt := 174) hx hb dL_areBoundsSo_167 (by decide) (by omega) (fun c_74 => ?_) (fun c_74 => ?_)
                                          · refine lv_iload hx hb dL_areBoundsSo_174 (lv_at hl 7 rfl) ?_
                                            refine lv_iload hx hb dL_areBoundsSo_176 (lv_at hl 5 rfl) ?_
                                            refine jv_isub hx hb dL_areBoundsSo_178 ?_
                                            refine lv_istore (lv' := [(8, .int (jz (i - b))), (0, .ref x), (1, .int (jz n0)), (2, .int (jz n1)), (3, .int (jz (D 1 g0 g1 n0 n1))), (4, .int (jz 1)), (5, .int (jz b)), (6, .int (jz r)), (7, .int (jz i))]) hx hb dL_areBoundsSo_179 hl (by decide) rfl (fun ls hl => ?_)
                                            refine lv_iload hx hb dL_areBoundsSo_181 (lv_at hl 8 rfl) ?_
                                            refine lv_iload hx hb dL_areBoundsSo_183 (lv_at hl 6 rfl) ?_
                                            refine jv_iadd hx hb dL_areBoundsSo_185 ?_
                                            refine lv_iload_n hx hb dL_areBoundsSo_186 rfl (lv_at hl 3 rfl) ?_
                                            refine jv_icmp_le (tgt := 194) hx hb dL_areBoundsSo_187 (by decide) (by omega) (by omega) (fun c_75 => ?_) (fun c_75 => ?_)
                                            · refine lv_iload hx hb dL_areBoundsSo_194 (lv_at hl 8 rfl) ?_
                                              refine lv_iload hx hb dL_areBoundsSo_196 (lv_at hl 6 rfl) ?_
                                              refine jv_iadd hx hb dL_areBoundsSo_198 ?_
                                              refine lv_istore (lv' := [(9, .int (jz (i + b))), (8, .int (jz (i - b))), (0, .ref x), (1, .int (jz n0)), (2, .int (jz n1)), (3, .int (jz (D 1 g0 g1 n0 n1))), (4, .int (jz 1)), (5, .int (jz b)), (6, .int (jz r)), (7, .int (jz i))]) hx hb dL_areBoundsSo_199 hl (by decide) rfl (fun ls hl => ?_)
                                              refine lv_iload hx hb dL_areBoundsSo_201 (lv_at hl 8 rfl) ?_
                                              refine lv_iload hx hb dL_areBoundsSo_203 (lv_at hl 0 rfl) ?_
                                              refine lv_iload hx hb dL_areBoundsSo_205 (lv_at hl 1 rfl) ?_
                                              refine jv_icmp_ge (tgt := 214) hx hb dL_areBoundsSo_207 (by decide) (by omega) (by omega) (fun c_76 => ?_) (fun c_76 => ?_)
                                              · refine lv_iload hx hb dL_areBoundsSo_214 (lv_at hl 0 rfl) ?_
                                                refine lv_iload hx hb dL_areBoundsSo_216 (lv_at hl 1 rfl) ?_
                                                refine jv_isub hx hb dL_areBoundsSo_218 ?_
                                                refine jv_iconst hx hb dL_areBoundsSo_219 ?_
                                                refine jv_iadd hx hb dL_areBoundsSo_220 ?_
                                                refine jv_iadd hx hb dL_areBoundsSo_221 ?_
                                                refine lv_istore (lv' := [(6, .int (jz (r + (((i + b) - (i - b)) + 1)))), (9, .int (jz (i + b))), (8, .int (jz (i - b))), (0, .ref x), (1, .int (jz n0)), (2, .int (jz n1)), (3, .int (jz (D 1 g0 g1 n0 n1))), (4, .int (jz 1)), (5, .int (jz b)), (7, .int (jz i))]) hx hb dL_areBoundsSo_222 hl (by decide) rfl (fun ls hl => ?_)
                                                refine jv_iinc (lv' := [(7, .int (jz (i + 1))), (6, .int (jz (r + (((i + b) - (i - b)) + 1)))), (9, .int (jz (i + b))), (8, .int (jz (i - b))), (0, .ref x), (1, .int (jz n0)), (2, .int (jz n1)), (3, .int (jz (D 1 g0 g1 n0 n1))), (4, .int (jz 1)), (5, .int (jz b))]) (k := 9) hx hb dL_areBoundsSo_224 hl rfl (by decide) rfl (fun ls hl => ?_)
                                                refine lv_goto (tgt := 156) hx hb dL_areBoundsSo_227 (by decide) ?_
                                                exact ih156 (r + (((i + b) - (i - b)) + 1)) (i + 1) (by omega) (by omega) (by rw [bandI_s b n1 (by omega)]; omega) H _ _ hP hD hS (lv_sub hl [4, 5, 6, 7, 8, 9, 1, 0] rfl)
                                              · refine jv_iconst hx hb dL_areBoundsSo_210 ?_
                                                refine lv_goto (tgt := 221) hx hb dL_areBoundsSo_211 (by decide) ?_
                                                refine jv_iadd hx hb dL_areBoundsSo_221 ?_
                                                refine lv_istore (lv' := [(6, .int (jz (r + 0))), (9, .int (jz (i + b))), (8, .int (jz (i - b))), (0, .ref x), (1, .int (jz n0)), (2, .int (jz n1)), (3, .int (jz (D 1 g0 g1 n0 n1))), (4, .int (jz 1)), (5, .int (jz b)), (7, .int (jz i))]) hx hb dL_areBoundsSo_222 hl (by decide) rfl (fun ls hl => ?_)
                                                refine jv_iinc (lv' := [(7, .int (jz (i + 1))), (6, .int (jz (r + 0))), (9, .int (jz (i + b))), (8, .int (jz (i - b))), (0, .ref x), (1, .int (jz n0)), (2, .int (jz n1)), (3, .int (jz (D 1 g0 g1 n0 n1))), (4, .int (jz 1)), (5, .int (jz b))]) (k := 9) hx hb dL_areBoundsSo_224 hl rfl (by decide) rfl (fun ls hl => ?_)
                                                refine lv_goto (tgt := 156) hx hb dL_areBoundsSo_227 (by decide) ?_
                                                exact ih156 (r + 0) (i + 1) (by omega) (by omega) (by rw [bandI_s b n1 (by omega)]; omega) H _ _ hP hD hS (lv_sub hl [4, 5, 6, 7, 8, 9, 1, 0] rfl)
                                            · refine lv_iload_n hx hb dL_areBoundsSo_190 rfl (lv_at hl 3 rfl) ?_
                                              refine lv_goto (tgt := 199) hx hb dL_areBoundsSo_191 (by decide) ?_
                                              refine lv_istore (lv' := [(9, .int (jz n1)), (8, .int (jz (i - b))), (0, .ref x), (1, .int (jz n0)), (2, .int (jz n1)), (3, .int (jz (D 1 g0 g1 n0 n1))), (4, .int (jz 1)), (5, .int (jz b)), (6, .int (jz r)), (7, .int (jz i))]) hx hb dL_areBoundsSo_199 hl (by decide) rfl (fun ls hl => ?_)
                                              refine lv_iload hx hb dL_areBoundsSo_201 (lv_at hl 8 rfl) ?_
                                              refine lv_iload hx hb dL_areBoundsSo_203 (lv_at hl 0 rfl) ?_
                                              refine lv_iload hx hb dL_areBoundsSo_205 (lv_at hl 1 rfl) ?_
                                              refine jv_icmp_ge (tgt := 214) hx hb dL_areBoundsSo_207 (by decide) (by omega) (by omega) (fun c_77 => ?_) (fun c_77 => ?_)
                                              · refine lv_iload hx hb dL_areBoundsSo_214 (lv_at hl 0 rfl) ?_
                                                refine lv_iload hx hb dL_areBoundsSo_216 (lv_at hl 1 rfl) ?_
                                                refine jv_isub hx hb dL_areBoundsSo_218 ?_
                                                refine jv_iconst hx hb dL_areBoundsSo_219 ?_
                                                refine jv_iadd hx hb dL_areBoundsSo_220 ?_
                                                refine jv_iadd hx hb dL_areBoundsSo_221 ?_
                                                refine lv_istore (lv' := [(6, .int (jz (r + ((n1 - (i - b)) + 1)))), (9, .int (jz n1)), (8, .int (jz (i - b))), (0, .ref x), (1, .int (jz n0)), (2, .int (jz n1)), (3, .int (jz (D 1 g0 g1 n0 n1))), (4, .int (jz 1)), (5, .int (jz b)), (7, .int (jz i))]) hx hb dL_areBoundsSo_222 hl (by decide) rfl (fun ls hl => ?_)
                                                refine jv_iinc (lv' := [(7, .int (jz (i + 1))), (6, .int (jz (r + ((n1 - (i - b)) + 1)))), (9, .int (jz n1)), (8, .int (jz (i - b))), (0, .ref x), (1, .int (jz n0)), (2, .int (jz n1)), (3, .int (jz (D 1 g0 g1 n0 n1))), (4, .int (jz 1)), (5, .int (jz b))]) (k := 9) hx hb dL_areBoundsSo_224 hl rfl (by decide) rfl (fun ls hl => ?_)
                                                refine lv_goto (tgt := 156) hx hb dL_areBoundsSo_227 (by decide) ?_
                                                exact ih156 (r + ((n1 - (i - b)) + 1)) (i + 1) (by omega) (by omega) (by rw [bandI_s b n1 (by omega)]; omega) H _ _ hP hD hS (lv_sub hl [4, 5, 6, 7, 8, 9, 1, 0] rfl)
                                              · refine jv_iconst hx hb dL_areBoundsSo_210 ?_
                                                refine lv_goto (tgt := 221) hx hb dL_areBoundsSo_211 (by decide) ?_
                                                refine jv_iadd hx hb dL_areBoundsSo_221 ?_
                                                refine lv_istore (lv' := [(6, .int (jz (r + 0))), (9, .int (jz n1)), (8, .int (jz (i - b))), (0, .ref x), (1, .int (jz n0)), (2, .int (jz n1)), (3, .int (jz (D 1 g0 g1 n0 n1))), (4, .int (jz 1)), (5, .int (jz b)), (7, .int (jz i))]) hx hb dL_areBoundsSo_222 hl (by decide) rfl (fun ls hl => ?_)
                                                refine jv_iinc (lv' := [(7, .int (jz (i + 1))), (6, .int (jz (r + 0))), (9, .int (jz n1)), (8, .int (jz (i - b))), (0, .ref x), (1, .int (jz n0)), (2, .int (jz n1)), (3, .int (jz (D 1 g0 g1 n0 n1))), (4, .int (jz 1)), (5, .int (jz b))]) (k := 9) hx hb dL_areBoundsSo_224 hl rfl (by decide) rfl (fun ls hl => ?_)
                                                refine lv_goto (tgt := 156) hx hb dL_areBoundsSo_227 (by decide) ?_
                                                exact ih156 (r + 0) (i + 1) (by omega) (by omega) (by rw [bandI_s b n1 (by omega)]; omega) H _ _ hP hD hS (lv_sub hl [4, 5, 6, 7, 8, 9, 1, 0] rfl)
                                          · refine jv_iconst hx hb dL_areBoundsSo_170 ?_
                                            refine lv_goto (tgt := 179) hx hb dL_areBoundsSo_171 (by decide) ?_
                                            refine lv_istore (lv' := [(8, .int (jz 0)), (0, .ref x), (1, .int (jz n0)), (2, .int (jz n1)), (3, .int (jz (D 1 g0 g1 n0 n1))), (4, .int (jz 1)), (5, .int (jz b)), (6, .int (jz r)), (7, .int (jz i))]) hx hb dL_areBoundsSo_179 hl (by decide) rfl (fun ls hl => ?_)
                                            refine lv_iload hx hb dL_areBoundsSo_181 (lv_at hl 8 rfl) ?_
                                            refine lv_iload hx hb dL_areBoundsSo_183 (lv_at hl 6 rfl) ?_
                                            refine jv_iadd hx hb dL_areBoundsSo_185 ?_
                                            refine lv_iload_n hx hb dL_areBoundsSo_186 rfl (lv_at hl 3 rfl) ?_
                                            refine jv_icmp_le (tgt := 194) hx hb dL_areBoundsSo_187 (by decide) (by omega) (by omega) (fun c_78 => ?_) (fun c_78 => ?_)
                                            · refine lv_iload hx hb dL_areBoundsSo_194 (lv_at hl 8 rfl) ?_
                                              refine lv_iload hx hb dL_areBoundsSo_196 (lv_at hl 6 rfl) ?_
                                              refine jv_iadd hx hb dL_areBoundsSo_198 ?_
                                              refine lv_istore (lv' := [(9, .int (jz (i + b))), (8, .int (jz 0)), (0, .ref x), (1, .int (jz n0)), (2, .int (jz n1)), (3, .int (jz (D 1 g0 g1 n0 n1))), (4, .int (jz 1)), (5, .int (jz b)), (6, .int (jz r)), (7, .int (jz i))]) hx hb dL_areBoundsSo_199 hl (by decide) rfl (fun ls hl => ?_)
                                              refine lv_iload hx hb dL_areBoundsSo_201 (lv_at hl 8 rfl) ?_
                                              refine lv_iload hx hb dL_areBoundsSo_203 (lv_at hl 0 rfl) ?_
                                              refine lv_iload hx hb dL_areBoundsSo_205 (lv_at hl 1 rfl) ?_
                                              refine jv_icmp_ge (tgt := 214) hx hb dL_areBoundsSo_207 (by decide) (by omega) (by omega) (fun c_79 => ?_) (fun c_79 => ?_)
                                              · refine lv_iload hx hb dL_areBoundsSo_214 (lv_at hl 0 rfl) ?_
                                                refine lv_iload hx hb dL_areBoundsSo_216 (lv_at hl 1 rfl) ?_
                                                refine jv_isub hx hb dL_areBoundsSo_218 ?_
                                                refine jv_iconst hx hb dL_areBoundsSo_219 ?_
                                                refine jv_iadd hx hb dL_areBoundsSo_220 ?_
                                                refine jv_iadd hx hb dL_areBoundsSo_221 ?_
                                                refine lv_istore (lv' := [(6, .int (jz (r + (((i + b) - 0) + 1)))), (9, .int (jz (i + b))), (8, .int (jz 0)), (0, .ref x), (1, .int (jz n0)), (2, .int (jz n1)), (3, .int (jz (D 1 g0 g1 n0 n1))), (4, .int (jz 1)), (5, .int (jz b)), (7, .int (jz i))]) hx hb dL_areBoundsSo_222 hl (by decide) rfl (fun ls hl => ?_)
                                                refine jv_iinc (lv' := [(7, .int (jz (i + 1))), (6, .int (jz (r + (((i + b) - 0) + 1)))), (9, .int (jz (i + b))), (8, .int (jz 0)), (0, .ref x), (1, .int (jz n0)), (2, .int (jz n1)), (3, .int (jz (D 1 g0 g1 n0 n1))), (4, .int (jz 1)), (5, .int (jz b))]) (k := 9) hx hb dL_areBoundsSo_224 hl rfl (by decide) rfl (fun ls hl => ?_)
                                                refine lv_goto (tgt := 156) hx hb dL_areBoundsSo_227 (by decide) ?_
                                                exact ih156 (r + (((i + b) - 0) + 1)) (i + 1) (by omega) (by omega) (by rw [bandI_s b n1 (by omega)]; omega) H _ _ hP hD hS (lv_sub hl [4, 5, 6, 7, 8, 9, 1, 0] rfl)
                                              · refine jv_iconst hx hb dL_areBoundsSo_210 ?_
                                                refine lv_goto (tgt := 221) hx hb dL_areBoundsSo_211 (by decide) ?_
                                                refine jv_iadd hx hb dL_areBoundsSo_221 ?_
                                                refine lv_istore (lv' := [(6, .int (jz (r + 0))), (9, .int (jz (i + b))), (8, .int (jz 0)), (0, .ref x), (1, .int (jz n0)), (2, .int (jz n1)), (3, .int (jz (D 1 g0 g1 n0 n1))), (4, .int (jz 1)), (5, .int (jz b)), (7, .int (jz i))]) hx hb dL_areBoundsSo_222 hl (by decide) rfl (fun ls hl => ?_)
                                                refine jv_iinc (lv' := [(7, .int (jz (i + 1))), (6, .int (jz (r + 0))), (9, .int (jz (i + b))), (8, .int (jz 0)), (0, .ref x), (1, .int (jz n0)), (2, .int (jz n1)), (3, .int (jz (D 1 g0 g1 n0 n1))), (4, .int (jz 1)), (5, .int (jz b))]) (k := 9) hx hb dL_areBoundsSo_224 hl rfl (by decide) rfl (fun ls hl => ?_)
                                                refine lv_goto (tgt := 156) hx hb dL_areBoundsSo_227 (by decide) ?_
                                                exact ih156 (r + 0) (i + 1) (by omega) (by omega) (by rw [bandI_s b n1 (by omega)]; omega) H _ _ hP hD hS (lv_sub hl [4, 5, 6, 7, 8, 9, 1, 0] rfl)
                                            · refine lv_iload_n hx hb dL_areBoundsSo_190 rfl (lv_at hl 3 rfl) ?_
                                              refine lv_goto (tgt := 199) hx hb dL_areBoundsSo_191 (by decide) ?_
                                              refine lv_istore (lv' := [(9, .int (jz n1)), (8, .int (jz 0)), (0, .ref x), (1, .int (jz n0)), (2, .int (jz n1)), (3, .int (jz (D 1 g0 g1 n0 n1))), (4, .int (jz 1)), (5, .int (jz b)), (6, .int (jz r)), (7, .int (jz i))]) hx hb dL_areBoundsSo_199 hl (by decide) rfl (fun ls hl => ?_)
                                              refine lv_iload hx hb dL_areBoundsSo_201 (lv_at hl 8 rfl) ?_
                                              refine lv_iload hx hb dL_areBoundsSo_203 (lv_at hl 0 rfl) ?_
                                              refine lv_iload hx hb dL_areBoundsSo_205 (lv_at hl 1 rfl) ?_
                                              refine jv_icmp_ge (tgt := 214) hx hb dL_areBoundsSo_207 (by decide) (by omega) (by omega) (fun c_80 => ?_) (fun c_80 => ?_)
                                              · refine lv_iload hx hb dL_areBoundsSo_214 (lv_at hl 0 rfl) ?_
                                                refine lv_iload hx hb dL_areBoundsSo_216 (lv_at hl 1 rfl) ?_
                                                refine jv_isub hx hb dL_areBoundsSo_218 ?_
                                                refine jv_iconst hx hb dL_areBoundsSo_219 ?_
                                                refine jv_iadd hx hb dL_areBoundsSo_220 ?_
                                                refine jv_iadd hx hb dL_areBoundsSo_221 ?_
                                                refine lv_istore (lv' := [(6, .int (jz (r + ((n1 - 0) + 1)))), (9, .int (jz n1)), (8, .int (jz 0)), (0, .ref x), (1, .int (jz n0)), (2, .int (jz n1)), (3, .int (jz (D 1 g0 g1 n0 n1))), (4, .int (jz 1)), (5, .int (jz b)), (7, .int (jz i))]) hx hb dL_areBoundsSo_222 hl (by decide) rfl (fun ls hl => ?_)
                                                refine jv_iinc (lv' := [(7, .int (jz (i + 1))), (6, .int (jz (r + ((n1 - 0) + 1)))), (9, .int (jz n1)), (8, .int (jz 0)), (0, .ref x), (1, .int (jz n0)), (2, .int (jz n1)), (3, .int (jz (D 1 g0 g1 n0 n1))), (4, .int (jz 1)), (5, .int (jz b))]) (k := 9) hx hb dL_areBoundsSo_224 hl rfl (by decide) rfl (fun ls hl => ?_)
                                                refine lv_goto (tgt := 156) hx hb dL_areBoundsSo_227 (by decide) ?_
                                                exact ih156 (r + ((n1 - 0) + 1)) (i + 1) (by omega) (by omega) (by rw [bandI_s b n1 (by omega)]; omega) H _ _ hP hD hS (lv_sub hl [4, 5, 6, 7, 8, 9, 1, 0] rfl)
                                              · refine jv_iconst hx hb dL_areBoundsSo_210 ?_
                                                refine lv_goto (tgt := 221) hx hb dL_areBoundsSo_211 (by decide) ?_
                                                refine jv_iadd hx hb dL_areBoundsSo_221 ?_
                                                refine lv_istore (lv' := [(6, .int (jz (r + 0))), (9, .int (jz n1)), (8, .int (jz 0)), (0, .ref x), (1, .int (jz n0)), (2, .int (jz n1)), (3, .int (jz (D 1 g0 g1 n0 n1))), (4, .int (jz 1)), (5, .int (jz b)), (7, .int (jz i))]) hx hb dL_areBoundsSo_222 hl (by decide) rfl (fun ls hl => ?_)
                                                refine jv_iinc (lv' := [(7, .int (jz (i + 1))), (6, .int (jz (r + 0))), (9, .int (jz n1)), (8, .int (jz 0)), (0, .ref x), (1, .int (jz n0)), (2, .int (jz n1)), (3, .int (jz (D 1 g0 g1 n0 n1))), (4, .int (jz 1)), (5, .int (jz b))]) (k := 9) hx hb dL_areBoundsSo_224 hl rfl (by decide) rfl (fun ls hl => ?_)
                                                refine lv_goto (tgt := 156) hx hb dL_areBoundsSo_227 (by decide) ?_
                                                exact ih156 (r + 0) (i + 1) (by omega) (by omega) (by rw [bandI_s b n1 (by omega)]; omega) H _ _ hP hD hS (lv_sub hl [4, 5, 6, 7, 8, 9, 1, 0] rfl)
                                    exact K156 (((n0 + 1 - 0).toNat) + 1) 0 0 (Nat.lt_succ_self _) (by omega) (by rfl) H _ _ hP hD hS (lv_sub hl [2, 3, 4, 5, 6, 7, 1, 0] rfl)
                              exact K143 ((((21 : Int) - 0).toNat) + 1) u_20 u_18 0 (Nat.lt_succ_self _) (by omega) H _ _ (wP_sub (bc := [bBD G x st sv bu di se wy ta tt rp, bState G st t0 t1 al, bText G t0 a0 n0 g0, bText G t1 a1 n1 g1, bGrid G di db u_20, bGrid G se sb u_18]) hP [1, 2, 3, 4, 5, 0] rfl) (wD_sub (bc := [bBD G x st sv bu di se wy ta tt rp, bState G st t0 t1 al, bText G t0 a0 n0 g0, bText G t1 a1 n1 g1, bGrid G di db u_20, bGrid G se sb u_18]) hD [1, 2, 3, 4, 5, 0] (by decide) rfl) hS (lv_sub hl [2, 3, 4, 5, 1, 0] rfl)
                        refine lv_dconst1 hx hb dL_areBoundsSo_111 ?_
                        refine jv_dcmp hx hb dL_areBoundsSo_112 ?_
                        have hd_81 := dc_jr .l (sim (D 1 g0 g1 n0 n1) (max n0 n1)) FP.dconst1
                        refine jv_if_ne (tgt := 120) hx hb dL_areBoundsSo_113 (by decide) (by omega) (fun c_82 => ?_) (fun c_82 => ?_)
                        · refine jv_iconst hx hb dL_areBoundsSo_120 ?_
                          exact K121 0 (by omega) H _ _ hP hD hS (lv_sub hl [0, 1, 2, 3] rfl)
                        · refine jv_iconst hx hb dL_areBoundsSo_116 ?_
                          refine lv_goto (tgt := 121) hx hb dL_areBoundsSo_117 (by decide) ?_
                          exact K121 1 (by omega) H _ _ hP hD hS (lv_sub hl [0, 1, 2, 3] rfl)
        refine lv_iload_n hx hb dL_areBoundsSo_31 rfl (lv_at hl 3 rfl) ?_
        refine lv_iload_n hx hb dL_areBoundsSo_32 rfl (lv_at hl 1 rfl) ?_
        refine lv_iload_n hx hb dL_areBoundsSo_33 rfl (lv_at hl 2 rfl) ?_
        refine jv_icmp_le (tgt := 43) hx hb dL_areBoundsSo_34 (by decide) (by omega) (by omega) (fun c_83 => ?_) (fun c_83 => ?_)
        · refine lv_iload_n hx hb dL_areBoundsSo_43 rfl (lv_at hl 2 rfl) ?_
          refine lv_iload_n hx hb dL_areBoundsSo_44 rfl (lv_at hl 1 rfl) ?_
          refine jv_isub hx hb dL_areBoundsSo_45 ?_
          exact K46 (n1 - n0) (by omega) H _ _ hP hD hS (lv_sub hl [0, 1, 2, 3] rfl)
        · refine lv_iload_n hx hb dL_areBoundsSo_37 rfl (lv_at hl 1 rfl) ?_
          refine lv_iload_n hx hb dL_areBoundsSo_38 rfl (lv_at hl 2 rfl) ?_
          refine jv_isub hx hb dL_areBoundsSo_39 ?_
          refine lv_goto (tgt := 46) hx hb dL_areBoundsSo_40 (by decide) ?_
          exact K46 (n0 - n1) (by omega) H _ _ hP hD hS (lv_sub hl [0, 1, 2, 3] rfl)
    refine lv_iload_n hx hb dL_areBoundsSo_17 rfl (lv_at hl 0 rfl) ?_
    refine lv_iload_n hx hb dL_areBoundsSo_18 rfl (lv_at hl 2 rfl) ?_
    refine lv_iload_n hx hb dL_areBoundsSo_19 rfl (lv_at hl 1 rfl) ?_
    refine jv_icmp_le (tgt := 27) hx hb dL_areBoundsSo_20 (by decide) (by omega) (by omega) (fun c_84 => ?_) (fun c_84 => ?_)
    · refine lv_iload_n hx hb dL_areBoundsSo_27 rfl (lv_at hl 1 rfl) ?_
      exact K28 n1 (by omega) H _ _ hP hD hS (lv_sub hl [3, 2, 1, 0] rfl)
    · refine lv_iload_n hx hb dL_areBoundsSo_23 rfl (lv_at hl 2 rfl) ?_
      refine lv_goto (tgt := 28) hx hb dL_areBoundsSo_24 (by decide) ?_
      exact K28 n0 (by omega) H _ _ hP hD hS (lv_sub hl [3, 2, 1, 0] rfl)
  exact KH s.heap [] hP hD hS
