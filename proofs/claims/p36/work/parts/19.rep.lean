abbrev bRep (G : GG) (rp : Nat) (q : Nat) (q2 : Nat) (ct : Nat) (ot : Nat) : va_W := [(rp, .inr (3, [.ref q, .ref q2, .ref ct, .ref ot]))]
theorem rv_up {g : Int → Int} {n ix v z : Int} (h : z < n - ix - 1) : rv g n z = rv (up g ix v) n z := by
  unfold rv
  exact (up_ne (by omega)).symm
abbrev rmX3_init : Room := { frames := 2, cells := 8, slots := 928, locals := 40 }
set_option maxHeartbeats 4000000 in
set_option maxRecDepth 100000 in
theorem mX3_init (l : Launch) (G : GG) (rp : Nat)  : Ct l yX3_init cX3_init 1 none rmX3_init G [.ref rp] [[(rp, .inr (3, [.null, .null, .null, .null]))]] (fun uo : Nat × Nat × Nat × Nat × Nat × Nat × Nat × Nat => none) (fun uo => True) (fun uo => [bRep G rp uo.1 uo.2.2.1 uo.2.2.2.2.1 uo.2.2.2.2.2.2.1, bGrid G uo.1 uo.2.1 (fun _ => 0), bGrid G uo.2.2.1 uo.2.2.2.1 (fun _ => 0), bText G uo.2.2.2.2.1 uo.2.2.2.2.2.1 0 (fun _ => 0), bText G uo.2.2.2.2.2.2.1 uo.2.2.2.2.2.2.2 0 (fun _ => 0)]) := by
  refine cof (by decide) (Nat.le_of_ble_eq_true rfl) ?_
  intro p e s m args below meth c A ls hx hb hr hml hown hts hlocks hin hA hK hP hD hS hl Q hQ
  have hown : s.vm.findClass RX3 = some m.cls := hown
  have hl : lv_has ls 1 [(0, .ref rp)] := hl
  have KH : ∀ (H : Heap) (locs : List Loc), wP G [[(rp, .inr (3, [.null, .null, .null, .null]))]] H → wD A [[(rp, .inr (3, [.null, .null, .null, .null]))]] → va_S A s.heap H locs → W p l e rmX3_init s m args below meth c H locs 0 0 Q (F0 m 0 ls []) := by
    intro H locs hP hD hS
    refine lv_aload_n hx hb dX3_init_0 rfl (lv_at hl 0 rfl) ?_
    refine W.objInit hx hb hown (hts _ wm148) (hts _ wm34) (hts _ wm35) rfl (by rw [hml]; exact hl.1) rfl dX3_init_1 (Nat.le_of_ble_eq_true rfl) (Nat.le_of_ble_eq_true rfl) ?_
    refine W.eq (g2 := F0 m 4 ls []) rfl ?_
    refine lv_aload_n hx hb dX3_init_4 rfl (lv_at hl 0 rfl) ?_
    refine va_new (ci := 1) (fs := [.null]) (C := RX1) (T := TX1) (N := 1) hx hb hts wfX1 tyX1 tyX1_ok hown (hts _ wm149) (hts _ wm98) (hts _ wm16) hK.1 hP hD hS hA rfl (fun j hj => by rcases (show j = 0 by omega) with rfl <;> rfl) (Nat.le_of_ble_eq_true rfl) (Nat.le_of_ble_eq_true rfl) dX3_init_5 (fun q_1 H hP hD hS => ?_)
    have hP : wP G [[(rp, .inr (3, [.null, .null, .null, .null]))], [(q_1, .inr (1, [.null]))]] H := hP
    have hD : wD A [[(rp, .inr (3, [.null, .null, .null, .null]))], [(q_1, .inr (1, [.null]))]] := hD
    show W p l e rmX3_init s m args below meth c H locs 1 1 Q (F0 m 8 ls [.ref q_1, .ref rp])
    refine lv_dup hx hb dX3_init_8 rfl ?_
    refine kIN ⟨hx, hb, hml, hown, hts⟩ hK hA hS hP hD [] [.ref q_1, .ref rp] (mX1_init l G q_1 ) lkX3_11 [1] [0] (br := [[(rp, .inr (3, [.null, .null, .null, .null]))]]) rfl rfl (by decide) rfl rfl (Nat.le_of_ble_eq_true rfl) hl.1 dX3_init_9 ⟨Nat.le_of_ble_eq_true rfl, Nat.le_of_ble_eq_true rfl⟩ ⟨Nat.le_of_ble_eq_true rfl, Nat.le_of_ble_eq_true rfl⟩ (fun u9 H locs hp9 hP hD hS => ?_)
    obtain ⟨u_2, rfl⟩ : ∃ z, z = u9 := ⟨_, rfl⟩
    have hP : wP G [[(rp, .inr (3, [.null, .null, .null, .null]))], bGrid G q_1 u_2 (fun _ => 0)] H := hP
    have hD : wD A [[(rp, .inr (3, [.null, .null, .null, .null]))], bGrid G q_1 u_2 (fun _ => 0)] := hD
    show W p l e rmX3_init s m args below meth c H locs 2 442 Q (F0 m 12 ls [.ref q_1, .ref rp])
    refine va_putF (ci := 3) (v := .ref q_1) (ty := (.object "BlockDistance$Grid")) (C := RX3) (T := TX3) (N := 4) hx hb hts wfX3 tyX3 tyX3_ok nmX3 hown hK.1 hP hD hS 0 rfl rfl 0 (by decide) (hts _ wm153) (fun _ h9 => h9) rfl hin rfl (by decide +kernel) rfl rfl (Nat.le_of_ble_eq_true rfl) dX3_init_12 (fun H locs hP hD hS => ?_)
    have hP : wP G [[(rp, .inr (3, [.ref q_1, .null, .null, .null]))], bGrid G q_1 u_2 (fun _ => 0)] H := hP
    have hD : wD A [[(rp, .inr (3, [.ref q_1, .null, .null, .null]))], bGrid G q_1 u_2 (fun _ => 0)] := hD
    refine lv_aload_n hx hb dX3_init_15 rfl (lv_at hl 0 rfl) ?_
    refine va_new (ci := 1) (fs := [.null]) (C := RX1) (T := TX1) (N := 1) hx hb hts wfX1 tyX1 tyX1_ok hown (hts _ wm149) (hts _ wm98) (hts _ wm16) hK.1 hP hD hS hA rfl (fun j hj => by rcases (show j = 0 by omega) with rfl <;> rfl) (Nat.le_of_ble_eq_true rfl) (Nat.le_of_ble_eq_true rfl) dX3_init_16 (fun q_3 H hP hD hS => ?_)
    have hP : wP G [[(rp, .inr (3, [.ref q_1, .null, .null, .null]))], bGrid G q_1 u_2 (fun _ => 0), [(q_3, .inr (1, [.null]))]] H := hP
    have hD : wD A [[(rp, .inr (3, [.ref q_1, .null, .null, .null]))], bGrid G q_1 u_2 (fun _ => 0), [(q_3, .inr (1, [.null]))]] := hD
    show W p l e rmX3_init s m args below meth c H locs 3 443 Q (F0 m 19 ls [.ref q_3, .ref rp])
    refine lv_dup hx hb dX3_init_19 rfl ?_
    refine kIN ⟨hx, hb, hml, hown, hts⟩ hK hA hS hP hD [] [.ref q_3, .ref rp] (mX1_init l G q_3 ) lkX3_11 [2] [0, 1] (br := [[(rp, .inr (3, [.ref q_1, .null, .null, .null]))], bGrid G q_1 u_2 (fun _ => 0)]) rfl rfl (by decide) rfl rfl (Nat.le_of_ble_eq_true rfl) hl.1 dX3_init_20 ⟨Nat.le_of_ble_eq_true rfl, Nat.le_of_ble_eq_true rfl⟩ ⟨Nat.le_of_ble_eq_true rfl, Nat.le_of_ble_eq_true rfl⟩ (fun u9 H locs hp9 hP hD hS => ?_)
    obtain ⟨u_4, rfl⟩ : ∃ z, z = u9 := ⟨_, rfl⟩
    have hP : wP G [[(rp, .inr (3, [.ref q_1, .null, .null, .null]))], bGrid G q_1 u_2 (fun _ => 0), bGrid G q_3 u_4 (fun _ => 0)] H := hP
    have hD : wD A [[(rp, .inr (3, [.ref q_1, .null, .null, .null]))], bGrid G q_1 u_2 (fun _ => 0), bGrid G q_3 u_4 (fun _ => 0)] := hD
    show W p l e rmX3_init s m args below meth c H locs 4 884 Q (F0 m 23 ls [.ref q_3, .ref rp])
    refine va_putF (ci := 3) (v := .ref q_3) (ty := (.object "BlockDistance$Grid")) (C := RX3) (T := TX3) (N := 4) hx hb hts wfX3 tyX3 tyX3_ok nmX3 hown hK.1 hP hD hS 0 rfl rfl 1 (by decide) (hts _ wm154) (fun _ h9 => h9) rfl hin rfl (by decide +kernel) rfl rfl (Nat.le_of_ble_eq_true rfl) dX3_init_23 (fun H locs hP hD hS => ?_)
    have hP : wP G [[(rp, .inr (3, [.ref q_1, .ref q_3, .null, .null]))], bGrid G q_1 u_2 (fun _ => 0), bGrid G q_3 u_4 (fun _ => 0)] H := hP
    have hD : wD A [[(rp, .inr (3, [.ref q_1, .ref q_3, .null, .null]))], bGrid G q_1 u_2 (fun _ => 0), bGrid G q_3 u_4 (fun _ => 0)] := hD
    refine lv_aload_n hx hb dX3_init_26 rfl (lv_at hl 0 rfl) ?_
    refine va_new (ci := 6) (fs := [.null, .int (jz 0)]) (C := RX6) (T := TX6) (N := 2) hx hb hts wfX6 tyX6 tyX6_ok hown (hts _ wm151) (hts _ wm43) (hts _ wm13) hK.1 hP hD hS hA rfl (fun j hj => by rcases (show j = 0 ∨ j = 1 by omega) with rfl | rfl <;> rfl) (Nat.le_of_ble_eq_true rfl) (Nat.le_of_ble_eq_true rfl) dX3_init_27 (fun q_5 H hP hD hS => ?_)
    have hP : wP G [[(rp, .inr (3, [.ref q_1, .ref q_3, .null, .null]))], bGrid G q_1 u_2 (fun _ => 0), bGrid G q_3 u_4 (fun _ => 0), [(q_5, .inr (6, [.null, .int (jz 0)]))]] H := hP
    have hD : wD A [[(rp, .inr (3, [.ref q_1, .ref q_3, .null, .null]))], bGrid G q_1 u_2 (fun _ => 0), bGrid G q_3 u_4 (fun _ => 0), [(q_5, .inr (6, [.null, .int (jz 0)]))]] := hD
    show W p l e rmX3_init s m args below meth c H locs 5 886 Q (F0 m 30 ls [.ref q_5, .ref rp])
    refine lv_dup hx hb dX3_init_30 rfl ?_
    refine kIN ⟨hx, hb, hml, hown, hts⟩ hK hA hS hP hD [] [.ref q_5, .ref rp] (mX6_init l G q_5 ) lkX3_23 [3] [0, 1, 2] (br := [[(rp, .inr (3, [.ref q_1, .ref q_3, .null, .null]))], bGrid G q_1 u_2 (fun _ => 0), bGrid G q_3 u_4 (fun _ => 0)]) rfl rfl (by decide) rfl rfl (Nat.le_of_ble_eq_true rfl) hl.1 dX3_init_31 ⟨Nat.le_of_ble_eq_true rfl, Nat.le_of_ble_eq_true rfl⟩ ⟨Nat.le_of_ble_eq_true rfl, Nat.le_of_ble_eq_true rfl⟩ (fun u9 H locs hp9 hP hD hS => ?_)
    obtain ⟨u_6, rfl⟩ : ∃ z, z = u9 := ⟨_, rfl⟩
    have hP : wP G [[(rp, .inr (3, [.ref q_1, .ref q_3, .null, .null]))], bGrid G q_1 u_2 (fun _ => 0), bGrid G q_3 u_4 (fun _ => 0), bText G q_5 u_6 0 (fun _ => 0)] H := hP
    have hD : wD A [[(rp, .inr (3, [.ref q_1, .ref q_3, .null, .null]))], bGrid G q_1 u_2 (fun _ => 0), bGrid G q_3 u_4 (fun _ => 0), bText G q_5 u_6 0 (fun _ => 0)] := hD
    show W p l e rmX3_init s m args below meth c H locs 6 906 Q (F0 m 34 ls [.ref q_5, .ref rp])
    refine va_putF (ci := 3) (v := .ref q_5) (ty := (.object "BlockDistance$Text")) (C := RX3) (T := TX3) (N := 4) hx hb hts wfX3 tyX3 tyX3_ok nmX3 hown hK.1 hP hD hS 0 rfl rfl 2 (by decide) (hts _ wm155) (fun _ h9 => h9) rfl hin rfl (by decide +kernel) rfl rfl (Nat.le_of_ble_eq_true rfl) dX3_init_34 (fun H locs hP hD hS => ?_)
    have hP : wP G [[(rp, .inr (3, [.ref q_1, .ref q_3, .ref q_5, .null]))], bGrid G q_1 u_2 (fun _ => 0), bGrid G q_3 u_4 (fun _ => 0), bText G q_5 u_6 0 (fun _ => 0)] H := hP
    have hD : wD A [[(rp, .inr (3, [.ref q_1, .ref q_3, .ref q_5, .null]))], bGrid G q_1 u_2 (fun _ => 0), bGrid G q_3 u_4 (fun _ => 0), bText G q_5 u_6 0 (fun _ => 0)] := hD
    refine lv_aload_n hx hb dX3_init_37 rfl (lv_at hl 0 rfl) ?_
    refine va_new (ci := 6) (fs := [.null, .int (jz 0)]) (C := RX6) (T := TX6) (N := 2) hx hb hts wfX6 tyX6 tyX6_ok hown (hts _ wm151) (hts _ wm43) (hts _ wm13) hK.1 hP hD hS hA rfl (fun j hj => by rcases (show j = 0 ∨ j = 1 by omega) with rfl | rfl <;> rfl) (Nat.le_of_ble_eq_true rfl) (Nat.le_of_ble_eq_true rfl) dX3_init_38 (fun q_7 H hP hD hS => ?_)
    have hP : wP G [[(rp, .inr (3, [.ref q_1, .ref q_3, .ref q_5, .null]))], bGrid G q_1 u_2 (fun _ => 0), bGrid G q_3 u_4 (fun _ => 0), bText G q_5 u_6 0 (fun _ => 0), [(q_7, .inr (6, [.null, .int (jz 0)]))]] H := hP
    have hD : wD A [[(rp, .inr (3, [.ref q_1, .ref q_3, .ref q_5, .null]))], bGrid G q_1 u_2 (fun _ => 0), bGrid G q_3 u_4 (fun _ => 0), bText G q_5 u_6 0 (fun _ => 0), [(q_7, .inr (6, [.null, .int (jz 0)]))]] := hD
    show W p l e rmX3_init s m args below meth c H locs 7 908 Q (F0 m 41 ls [.ref q_7, .ref rp])
    refine lv_dup hx hb dX3_init_41 rfl ?_
    refine kIN ⟨hx, hb, hml, hown, hts⟩ hK hA hS hP hD [] [.ref q_7, .ref rp] (mX6_init l G q_7 ) lkX3_23 [4] [0, 1, 2, 3] (br := [[(rp, .inr (3, [.ref q_1, .ref q_3, .ref q_5, .null]))], bGrid G q_1 u_2 (fun _ => 0), bGrid G q_3 u_4 (fun _ => 0), bText G q_5 u_6 0 (fun _ => 0)]) rfl rfl (by decide) rfl rfl (Nat.le_of_ble_eq_true rfl) hl.1 dX3_init_42 ⟨Nat.le_of_ble_eq_true rfl, Nat.le_of_ble_eq_true rfl⟩ ⟨Nat.le_of_ble_eq_true rfl, Nat.le_of_ble_eq_true rfl⟩ (fun u9 H locs hp9 hP hD hS => ?_)
    obtain ⟨u_8, rfl⟩ : ∃ z, z = u9 := ⟨_, rfl⟩
    have hP : wP G [[(rp, .inr (3, [.ref q_1, .ref q_3, .ref q_5, .null]))], bGrid G q_1 u_2 (fun _ => 0), bGrid G q_3 u_4 (fun _ => 0), bText G q_5 u_6 0 (fun _ => 0), bText G q_7 u_8 0 (fun _ => 0)] H := hP
    have hD : wD A [[(rp, .inr (3, [.ref q_1, .ref q_3, .ref q_5, .null]))], bGrid G q_1 u_2 (fun _ => 0), bGrid G q_3 u_4 (fun _ => 0), bText G q_5 u_6 0 (fun _ => 0), bText G q_7 u_8 0 (fun _ => 0)] := hD
    show W p l e rmX3_init s m args below meth c H locs 8 928 Q (F0 m 45 ls [.ref q_7, .ref rp])
    refine va_putF (ci := 3) (v := .ref q_7) (ty := (.object "BlockDistance$Text")) (C := RX3) (T := TX3) (N := 4) hx hb hts wfX3 tyX3 tyX3_ok nmX3 hown hK.1 hP hD hS 0 rfl rfl 3 (by decide) (hts _ wm156) (fun _ h9 => h9) rfl hin rfl (by decide +kernel) rfl rfl (Nat.le_of_ble_eq_true rfl) dX3_init_45 (fun H locs hP hD hS => ?_)
    have hP : wP G [[(rp, .inr (3, [.ref q_1, .ref q_3, .ref q_5, .ref q_7]))], bGrid G q_1 u_2 (fun _ => 0), bGrid G q_3 u_4 (fun _ => 0), bText G q_5 u_6 0 (fun _ => 0), bText G q_7 u_8 0 (fun _ => 0)] H := hP
    have hD : wD A [[(rp, .inr (3, [.ref q_1, .ref q_3, .ref q_5, .ref q_7]))], bGrid G q_1 u_2 (fun _ => 0), bGrid G q_3 u_4 (fun _ => 0), bText G q_5 u_6 0 (fun _ => 0), bText G q_7 u_8 0 (fun _ => 0)] := hD
    have hP : wP G [bRep G rp q_1 q_3 q_5 q_7, bGrid G q_1 u_2 (fun _ => 0), bGrid G q_3 u_4 (fun _ => 0), bText G q_5 u_6 0 (fun _ => 0), bText G q_7 u_8 0 (fun _ => 0)] H := hP
    have hD : wD A [bRep G rp q_1 q_3 q_5 q_7, bGrid G q_1 u_2 (fun _ => 0), bGrid G q_3 u_4 (fun _ => 0), bText G q_5 u_6 0 (fun _ => 0), bText G q_7 u_8 0 (fun _ => 0)] := hD
    exact cret_v hx hb hr hlocks hS hP hD (Nat.le_of_ble_eq_true rfl) (Nat.le_of_ble_eq_true rfl) dX3_init_48 [0, 1, 2, 3, 4] (by decide) ⟨q_1, u_2, q_3, u_4, q_5, u_6, q_7, u_8⟩ rfl trivial rfl hQ
  exact KH s.heap [] hP hD hS
abbrev rmX3_prepare : Room := { frames := 3, cells := 0, slots := 0, locals := 70 }
set_option maxHeartbeats 4000000 in
set_option maxRecDepth 100000 in
theorem mX3_prepare (l : Launch) (G : GG) (rp : Nat) (q : Nat) (q2 : Nat) (ct : Nat) (ot : Nat) (b : Nat) (h : Int → Int) (b2 : Nat) (h2 : Int → Int) (ca : Nat) (cn : Int) (cg : Int → Int) (oa : Nat) (on : Int) (og : Int → Int) (t : Nat) (a : Nat) (n : Int) (g : Int → Int) (t2 : Nat) (a2 : Nat) (n2 : Int) (g2 : Int → Int) (hn : 0 ≤ n ∧ n ≤ 20) (hn2 : 0 ≤ n2 ∧ n2 ≤ 20) (hg : ∀ j : Int, 0 ≤ j → j < n → 0 ≤ g j ∧ g j < 4) (hg2 : ∀ j : Int, 0 ≤ j → j < n2 → 0 ≤ g2 j ∧ g2 j < 4) : Ct l yX3_prepare cX3_prepare 3 none rmX3_prepare G [.ref rp, .ref t, .ref t2] [bRep G rp q q2 ct ot, bGrid G q b h, bGrid G q2 b2 h2, bText G ct ca cn cg, bText G ot oa on og, bText G t a n g, bText G t2 a2 n2 g2] (fun uo : (Int → Int) × (Int → Int) × (Int → Int) × (Int → Int) => none) (fun uo => (∀ x y : Int, 0 ≤ x → x ≤ n → 0 ≤ y → y ≤ n2 → uo.1 (x * 21 + y) = D 1 g g2 x y) ∧ (∀ x y : Int, 0 ≤ x → x ≤ n → 0 ≤ y → y ≤ n2 → uo.2.1 (x * 21 + y) = D 1 (rv g n) (rv g2 n2) x y)) (fun uo => [bRep G rp q q2 ct ot, bGrid G q b uo.1, bGrid G q2 b2 uo.2.1, bText G ct ca n uo.2.2.1, bText G ot oa n2 uo.2.2.2, bText G t a n g, bText G t2 a2 n2 g2]) := by
  refine cof (by decide) (Nat.le_of_ble_eq_true rfl) ?_
  intro p e s m args below meth c A ls hx hb hr hml hown hts hlocks hin hA hK hP hD hS hl Q hQ
  have hown : s.vm.findClass RX3 = some m.cls := hown
  have hl : lv_has ls 3 [(0, .ref rp), (1, .ref t), (2, .ref t2)] := hl
  have KH : ∀ (H : Heap) (locs : List Loc), wP G [bRep G rp q q2 ct ot, bGrid G q b h, bGrid G q2 b2 h2, bText G ct ca cn cg, bText G ot oa on og, bText G t a n g, bText G t2 a2 n2 g2] H → wD A [bRep G rp q q2 ct ot, bGrid G q b h, bGrid G q2 b2 h2, bText G ct ca cn cg, bText G ot oa on og, bText G t a n g, bText G t2 a2 n2 g2] → va_S A s.heap H locs → W p l e rmX3_prepare s m args below meth c H locs 0 0 Q (F0 m 0 ls []) := by
    intro H locs hP hD hS
    refine lv_aload_n hx hb dX3_prepare_0 rfl (lv_at hl 0 rfl) ?_
    refine va_get (ci := 3) (v := .ref q) (C := RX3) (T := TX3) (N := 4) hx hb hts wfX3 hown hK.1 hP 0 rfl rfl 0 (by decide) (hts _ wm153) (fun _ h9 => h9) rfl dX3_prepare_1 ?_
    refine lv_aload_n hx hb dX3_prepare_4 rfl (lv_at hl 1 rfl) ?_
    refine lv_aload_n hx hb dX3_prepare_5 rfl (lv_at hl 2 rfl) ?_
    refine jv_iconst hx hb dX3_prepare_6 ?_
    refine kV ⟨hx, hb, hml, hown, hts⟩ hK hA hS hP hD [.ref t, .ref t2, .int (jz 1)] [] (mX1_fill l G q b h t a n g t2 a2 n2 g2 1 (by omega) (by omega) (by omega) (by exact hg) (by exact hg2)) lkX3_31 [1, 5, 6] [0, 2, 3, 4] (br := [bRep G rp q q2 ct ot, bGrid G q2 b2 h2, bText G ct ca cn cg, bText G ot oa on og]) rfl rfl (by decide) 0 1 rfl rfl rfl rfl (Nat.le_of_ble_eq_true rfl) hl.1 dX3_prepare_7 ⟨Nat.le_of_ble_eq_true rfl, Nat.le_of_ble_eq_true rfl⟩ ⟨Nat.le_of_ble_eq_true rfl, Nat.le_of_ble_eq_true rfl⟩ (fun u9 H locs hp9 hP hD hS => ?_)
    obtain ⟨u_1, rfl⟩ : ∃ z, z = u9 := ⟨_, rfl⟩
    have hc_2 : ∀ x y : Int, 0 ≤ x → x ≤ n → 0 ≤ y → y ≤ n2 → u_1 (x * 21 + y) = D 1 g g2 x y := hp9
    have hP : wP G [bRep G rp q q2 ct ot, bGrid G q2 b2 h2, bText G ct ca cn cg, bText G ot oa on og, bGrid G q b u_1, bText G t a n g, bText G t2 a2 n2 g2] H := hP
    have hD : wD A [bRep G rp q q2 ct ot, bGrid G q2 b2 h2, bText G ct ca cn cg, bText G ot oa on og, bGrid G q b u_1, bText G t a n g, bText G t2 a2 n2 g2] := hD
    show W p l e rmX3_prepare s m args below meth c H locs 0 0 Q (F0 m 10 ls [])
    have hc1 := hc_2
    refine lv_aload_n hx hb dX3_prepare_10 rfl (lv_at hl 0 rfl) ?_
    refine va_get (ci := 3) (v := .ref ct) (C := RX3) (T := TX3) (N := 4) hx hb hts wfX3 hown hK.1 hP 0 rfl rfl 2 (by decide) (hts _ wm155) (fun _ h9 => h9) rfl dX3_prepare_11 ?_
    refine lv_aload_n hx hb dX3_prepare_14 rfl (lv_at hl 1 rfl) ?_
    refine kV ⟨hx, hb, hml, hown, hts⟩ hK hA hS hP hD [.ref t] [] (mX6_copyBackward l G ct ca cn cg t a n g (by omega)) lkX3_35 [2, 5] [0, 1, 3, 4, 6] (br := [bRep G rp q q2 ct ot, bGrid G q2 b2 h2, bText G ot oa on og, bGrid G q b u_1, bText G t2 a2 n2 g2]) rfl rfl (by decide) 0 6 rfl rfl rfl rfl (Nat.le_of_ble_eq_true rfl) hl.1 dX3_prepare_15 ⟨Nat.le_of_ble_eq_true rfl, Nat.le_of_ble_eq_true rfl⟩ ⟨Nat.le_of_ble_eq_true rfl, Nat.le_of_ble_eq_true rfl⟩ (fun u9 H locs hp9 hP hD hS => ?_)
    obtain ⟨u_3, rfl⟩ : ∃ z, z = u9 := ⟨_, rfl⟩
    have hc_4 : ∀ j : Int, 0 ≤ j → j < n → u_3 j = g (n - 1 - j) := hp9
    have hP : wP G [bRep G rp q q2 ct ot, bGrid G q2 b2 h2, bText G ot oa on og, bGrid G q b u_1, bText G t2 a2 n2 g2, bText G ct ca n u_3, bText G t a n g] H := hP
    have hD : wD A [bRep G rp q q2 ct ot, bGrid G q2 b2 h2, bText G ot oa on og, bGrid G q b u_1, bText G t2 a2 n2 g2, bText G ct ca n u_3, bText G t a n g] := hD
    show W p l e rmX3_prepare s m args below meth c H locs 0 0 Q (F0 m 18 ls [])
    have hc2 := hc_4
    refine lv_aload_n hx hb dX3_prepare_18 rfl (lv_at hl 0 rfl) ?_
    refine va_get (ci := 3) (v := .ref ot) (C := RX3) (T := TX3) (N := 4) hx hb hts wfX3 hown hK.1 hP 0 rfl rfl 3 (by decide) (hts _ wm156) (fun _ h9 => h9) rfl dX3_prepare_19 ?_
    refine lv_aload_n hx hb dX3_prepare_22 rfl (lv_at hl 2 rfl) ?_
    refine kV ⟨hx, hb, hml, hown, hts⟩ hK hA hS hP hD [.ref t2] [] (mX6_copyBackward l G ot oa on og t2 a2 n2 g2 (by omega)) lkX3_35 [2, 4] [0, 1, 3, 5, 6] (br := [bRep G rp q q2 ct ot, bGrid G q2 b2 h2, bGrid G q b u_1, bText G ct ca n u_3, bText G t a n g]) rfl rfl (by decide) 0 6 rfl rfl rfl rfl (Nat.le_of_ble_eq_true rfl) hl.1 dX3_prepare_23 ⟨Nat.le_of_ble_eq_true rfl, Nat.le_of_ble_eq_true rfl⟩ ⟨Nat.le_of_ble_eq_true rfl, Nat.le_of_ble_eq_true rfl⟩ (fun u9 H locs hp9 hP hD hS => ?_)
    obtain ⟨u_5, rfl⟩ : ∃ z, z = u9 := ⟨_, rfl⟩
    have hc_6 : ∀ j : Int, 0 ≤ j → j < n2 → u_5 j = g2 (n2 - 1 - j) := hp9
    have hP : wP G [bRep G rp q q2 ct ot, bGrid G q2 b2 h2, bGrid G q b u_1, bText G ct ca n u_3, bText G t a n g, bText G ot oa n2 u_5, bText G t2 a2 n2 g2] H := hP
    have hD : wD A [bRep G rp q q2 ct ot, bGrid G q2 b2 h2, bGrid G q b u_1, bText G ct ca n u_3, bText G t a n g, bText G ot oa n2 u_5, bText G t2 a2 n2 g2] := hD
    show W p l e rmX3_prepare s m args below meth c H locs 0 0 Q (F0 m 26 ls [])
    have hc3 := hc_6
    refine lv_aload_n hx hb dX3_prepare_26 rfl (lv_at hl 0 rfl) ?_
    refine va_get (ci := 3) (v := .ref q2) (C := RX3) (T := TX3) (N := 4) hx hb hts wfX3 hown hK.1 hP 0 rfl rfl 1 (by decide) (hts _ wm154) (fun _ h9 => h9) rfl dX3_prepare_27 ?_
    refine lv_aload_n hx hb dX3_prepare_30 rfl (lv_at hl 0 rfl) ?_
    refine va_get (ci := 3) (v := .ref ct) (C := RX3) (T := TX3) (N := 4) hx hb hts wfX3 hown hK.1 hP 0 rfl rfl 2 (by decide) (hts _ wm155) (fun _ h9 => h9) rfl dX3_prepare_31 ?_
    refine lv_aload_n hx hb dX3_prepare_34 rfl (lv_at hl 0 rfl) ?_
    refine va_get (ci := 3) (v := .ref ot) (C := RX3) (T := TX3) (N := 4) hx hb hts wfX3 hown hK.1 hP 0 rfl rfl 3 (by decide) (hts _ wm156) (fun _ h9 => h9) rfl dX3_prepare_35 ?_
    refine jv_iconst hx hb dX3_prepare_38 ?_
    refine kV ⟨hx, hb, hml, hown, hts⟩ hK hA hS hP hD [.ref ct, .ref ot, .int (jz 1)] [] (mX1_fill l G q2 b2 h2 ct ca n u_3 ot oa n2 u_5 1 (by omega) (by omega) (by omega) (by intro j h1 h2; rw [hc2 j h1 h2]; exact hg _ (by omega) (by omega)) (by intro j h1 h2; rw [hc3 j h1 h2]; exact hg2 _ (by omega) (by omega))) lkX3_31 [1, 3, 5] [0, 2, 4, 6] (br := [bRep G rp q q2 ct ot, bGrid G q b u_1, bText G t a n g, bText G t2 a2 n2 g2]) rfl rfl (by decide) 0 1 rfl rfl rfl rfl (Nat.le_of_ble_eq_true rfl) hl.1 dX3_prepare_39 ⟨Nat.le_of_ble_eq_true rfl, Nat.le_of_ble_eq_true rfl⟩ ⟨Nat.le_of_ble_eq_true rfl, Nat.le_of_ble_eq_true rfl⟩ (fun u9 H locs hp9 hP hD hS => ?_)
    obtain ⟨u_7, rfl⟩ : ∃ z, z = u9 := ⟨_, rfl⟩
    have hc_8 : ∀ x y : Int, 0 ≤ x → x ≤ n → 0 ≤ y → y ≤ n2 → u_7 (x * 21 + y) = D 1 u_3 u_5 x y := hp9
    have hP : wP G [bRep G rp q q2 ct ot, bGrid G q b u_1, bText G t a n g, bText G t2 a2 n2 g2, bGrid G q2 b2 u_7, bText G ct ca n u_3, bText G ot oa n2 u_5] H := hP
    have hD : wD A [bRep G rp q q2 ct ot, bGrid G q b u_1, bText G t a n g, bText G t2 a2 n2 g2, bGrid G q2 b2 u_7, bText G ct ca n u_3, bText G ot oa n2 u_5] := hD
    show W p l e rmX3_prepare s m args below meth c H locs 0 0 Q (F0 m 42 ls [])
    have hc4 := hc_8
    exact cret_v hx hb hr hlocks hS hP hD (Nat.le_of_ble_eq_true rfl) (Nat.le_of_ble_eq_true rfl) dX3_prepare_42 [0, 1, 4, 5, 6, 2, 3] (by decide) ⟨u_1, u_7, u_3, u_5⟩ rfl ⟨(show ∀ x y : Int, 0 ≤ x → x ≤ n → 0 ≤ y → y ≤ n2 → u_1 (x * 21 + y) = D 1 g g2 x y from hc1), (show ∀ x y : Int, 0 ≤ x → x ≤ n → 0 ≤ y → y ≤ n2 → u_7 (x * 21 + y) = D 1 (rv g n) (rv g2 n2) x y from by intro x y h1 h2 h3 h4; rw [hc4 x y h1 h2 h3 h4]; exact D_cg 1 (fun j p1 p2 => hc2 j p1 (by omega)) (fun j p1 p2 => hc3 j p1 (by omega)))⟩ rfl hQ
  exact KH s.heap [] hP hD hS
abbrev rmX3_distanceWith : Room := { frames := 2, cells := 0, slots := 0, locals := 44 }
set_option maxHeartbeats 4000000 in
set_option maxRecDepth 100000 in
theorem mX3_distanceWith (l : Launch) (G : GG) (rp : Nat) (q : Nat) (q2 : Nat) (ct : Nat) (ot : Nat) (b : Nat) (h : Int → Int) (b2 : Nat) (h2 : Int → Int) (t : Nat) (a : Nat) (n : Int) (g : Int → Int) (t2 : Nat) (a2 : Nat) (n2 : Int) (g2 : Int → Int) (ix : Int) (le : Int) (hn : 0 ≤ n ∧ n ≤ 20) (hn2 : 0 ≤ n2 ∧ n2 ≤ 20) (hg : ∀ j : Int, 0 ≤ j → j < n → 0 ≤ g j ∧ g j < 4) (hg2 : ∀ j : Int, 0 ≤ j → j < n2 → 0 ≤ g2 j ∧ g2 j < 4) (hix : 0 ≤ ix ∧ ix < n) (hle : 0 ≤ le ∧ le < 4) (hh1 : ∀ x y : Int, 0 ≤ x → x ≤ n → 0 ≤ y → y ≤ n2 → h (x * 21 + y) = D 1 g g2 x y) (hh2 : ∀ x y : Int, 0 ≤ x → x ≤ n → 0 ≤ y → y ≤ n2 → h2 (x * 21 + y) = D 1 (rv g n) (rv g2 n2) x y) : Ct l yX3_distanceWith cX3_distanceWith 11 (some .int) rmX3_distanceWith G [.ref rp, .ref t, .ref t2, .int (jz ix), .int (jz le)] [bRep G rp q q2 ct ot, bGrid G q b h, bGrid G q2 b2 h2, bText G t a n g, bText G t2 a2 n2 g2] (fun uo : Unit => some (.int (jz (D 1 (up g ix le) g2 n n2)))) (fun uo => True) (fun uo => [bRep G rp q q2 ct ot, bGrid G q b h, bGrid G q2 b2 h2, bText G t a n g, bText G t2 a2 n2 g2]) := by
  refine cof (by decide) (Nat.le_of_ble_eq_true rfl) ?_
  intro p e s m args below meth c A ls hx hb hr hml hown hts hlocks hin hA hK hP hD hS hl Q hQ
  have hown : s.vm.findClass RX3 = some m.cls := hown
  have hl : lv_has ls 11 [(0, .ref rp), (1, .ref t), (2, .ref t2), (3, .int (jz ix)), (4, .int (jz le))] := hl
  have KH : ∀ (H : Heap) (locs : List Loc), wP G [bRep G rp q q2 ct ot, bGrid G q b h, bGrid G q2 b2 h2, bText G t a n g, bText G t2 a2 n2 g2] H → wD A [bRep G rp q q2 ct ot, bGrid G q b h, bGrid G q2 b2 h2, bText G t a n g, bText G t2 a2 n2 g2] → va_S A s.heap H locs → W p l e rmX3_distanceWith s m args below meth c H locs 0 0 Q (F0 m 0 ls []) := by
    intro H locs hP hD hS
    refine lv_aload_n hx hb dX3_distanceWith_0 rfl (lv_at hl 2 rfl) ?_
    refine kV ⟨hx, hb, hml, hown, hts⟩ hK hA hS hP hD [] [] (mX6_size l G t2 a2 n2 g2 ) lkX3_39 [4] [0, 1, 2, 3] (br := [bRep G rp q q2 ct ot, bGrid G q b h, bGrid G q2 b2 h2, bText G t a n g]) rfl rfl (by decide) 0 6 rfl rfl rfl rfl (Nat.le_of_ble_eq_true rfl) hl.1 dX3_distanceWith_1 ⟨Nat.le_of_ble_eq_true rfl, Nat.le_of_ble_eq_true rfl⟩ ⟨Nat.le_of_ble_eq_true rfl, Nat.le_of_ble_eq_true rfl⟩ (fun u9 H locs hp9 hP hD hS => ?_)
    have hP : wP G [bRep G rp q q2 ct ot, bGrid G q b h, bGrid G q2 b2 h2, bText G t a n g, bText G t2 a2 n2 g2] H := hP
    have hD : wD A [bRep G rp q q2 ct ot, bGrid G q b h, bGrid G q2 b2 h2, bText G t a n g, bText G t2 a2 n2 g2] := hD
    show W p l e rmX3_distanceWith s m args below meth c H locs 0 0 Q (F0 m 4 ls [.int (jz n2)])
    refine lv_istore (lv' := [(5, .int (jz n2)), (0, .ref rp), (1, .ref t), (2, .ref t2), (3, .int (jz ix)), (4, .int (jz le))]) hx hb dX3_distanceWith_4 hl (by decide) rfl (fun ls hl => ?_)
    refine lv_aload_n hx hb dX3_distanceWith_6 rfl (lv_at hl 2 rfl) ?_
    refine kV ⟨hx, hb, hml, hown, hts⟩ hK hA hS hP hD [] [] (mX6_size l G t a n g ) lkX3_39 [3] [0, 1, 2, 4] (br := [bRep G rp q q2 ct ot, bGrid G q b h, bGrid G q2 b2 h2, bText G t2 a2 n2 g2]) rfl rfl (by decide) 0 6 rfl rfl rfl rfl (Nat.le_of_ble_eq_true rfl) hl.1 dX3_distanceWith_7 ⟨Nat.le_of_ble_eq_true rfl, Nat.le_of_ble_eq_true rfl⟩ ⟨Nat.le_of_ble_eq_true rfl, Nat.le_of_ble_eq_true rfl⟩ (fun u9 H locs hp9 hP hD hS => ?_)
    have hP : wP G [bRep G rp q q2 ct ot, bGrid G q b h, bGrid G q2 b2 h2, bText G t2 a2 n2 g2, bText G t a n g] H := hP
    have hD : wD A [bRep G rp q q2 ct ot, bGrid G q b h, bGrid G q2 b2 h2, bText G t2 a2 n2 g2, bText G t a n g] := hD
    show W p l e rmX3_distanceWith s m args below meth c H locs 0 0 Q (F0 m 10 ls [.int (jz n)])
    refine lv_iload_n hx hb dX3_distanceWith_10 rfl (lv_at hl 4 rfl) ?_
    refine jv_isub hx hb dX3_distanceWith_11 ?_
    refine jv_iconst hx hb dX3_distanceWith_12 ?_
    refine jv_isub hx hb dX3_distanceWith_13 ?_
    refine lv_istore (lv' := [(6, .int (jz ((n - ix) - 1))), (5, .int (jz n2)), (0, .ref rp), (1, .ref t), (2, .ref t2), (3, .int (jz ix)), (4, .int (jz le))]) hx hb dX3_distanceWith_14 hl (by decide) rfl (fun ls hl => ?_)
    refine lv_iload_n hx hb dX3_distanceWith_16 rfl (lv_at hl 5 rfl) ?_
    refine jv_iconst hx hb dX3_distanceWith_17 ?_
    refine jv_iadd hx hb dX3_distanceWith_18 ?_
    refine lv_istore (lv' := [(7, .int (jz (ix + 1))), (6, .int (jz ((n - ix) - 1))), (5, .int (jz n2)), (0, .ref rp), (1, .ref t), (2, .ref t2), (3, .int (jz ix)), (4, .int (jz le))]) hx hb dX3_distanceWith_19 hl (by decide) rfl (fun ls hl => ?_)
    refine lv_iload hx hb dX3_distanceWith_21 (lv_at hl 0 rfl) ?_
    refine lv_aload_n hx hb dX3_distanceWith_23 rfl (lv_at hl 3 rfl) ?_
    refine va_get (ci := 3) (v := .ref q2) (C := RX3) (T := TX3) (N := 4) hx hb hts wfX3 hown hK.1 hP 0 rfl rfl 1 (by decide) (hts _ wm154) (fun _ h9 => h9) rfl dX3_distanceWith_24 ?_
    refine lv_iload hx hb dX3_distanceWith_27 (lv_at hl 1 rfl) ?_
    refine lv_iload hx hb dX3_distanceWith_29 (lv_at hl 2 rfl) ?_
    refine kV ⟨hx, hb, hml, hown, hts⟩ hK hA hS hP hD [.int (jz ((n - ix) - 1)), .int (jz n2)] [.int (jz (ix + 1))] (mX1_at l G q2 b2 h2 ((n - ix) - 1) n2 (by omega) (by omega)) lkX3_43 [2] [0, 1, 3, 4] (br := [bRep G rp q q2 ct ot, bGrid G q b h, bText G t2 a2 n2 g2, bText G t a n g]) rfl rfl (by decide) 0 1 rfl rfl rfl rfl (Nat.le_of_ble_eq_true rfl) hl.1 dX3_distanceWith_31 ⟨Nat.le_of_ble_eq_true rfl, Nat.le_of_ble_eq_true rfl⟩ ⟨Nat.le_of_ble_eq_true rfl, Nat.le_of_ble_eq_true rfl⟩ (fun u9 H locs hp9 hP hD hS => ?_)
    have hP : wP G [bRep G rp q q2 ct ot, bGrid G q b h, bText G t2 a2 n2 g2, bText G t a n g, bGrid G q2 b2 h2] H := hP
    have hD : wD A [bRep G rp q q2 ct ot, bGrid G q b h, bText G t2 a2 n2 g2, bText G t a n g, bGrid G q2 b2 h2] := hD
    show W p l e rmX3_distanceWith s m args below meth c H locs 0 0 Q (F0 m 34 ls [.int (jz (h2 (((n - ix) - 1) * 21 + n2))), .int (jz (ix + 1))])
    have k0 : h2 ((n - ix - 1) * 21 + n2) = D 1 (rv (up g ix le) n) (rv g2 n2) (n - (ix + 1)) n2 := by rw [hh2 (n - ix - 1) n2 (by omega) (by omega) (by omega) (by omega), show n - (ix + 1) = n - ix - 1 by omega]; exact D_cg 1 (fun z p1 p2 => rv_up p2) (fun z p1 p2 => rfl)
    have k0b := D_bd (c := 1) (Or.inr rfl) (rv (up g ix le) n) (rv g2 n2) (i := n - (ix + 1)) (j := n2) (by omega) (by omega)
    refine jv_iadd hx hb dX3_distanceWith_34 ?_
    refine lv_istore (lv' := [(8, .int (jz ((ix + 1) + (h2 (((n - ix) - 1) * 21 + n2))))), (7, .int (jz (ix + 1))), (6, .int (jz ((n - ix) - 1))), (5, .int (jz n2)), (0, .ref rp), (1, .ref t), (2, .ref t2), (3, .int (jz ix)), (4, .int (jz le))]) hx hb dX3_distanceWith_35 hl (by decide) rfl (fun ls hl => ?_)
    refine jv_iconst hx hb dX3_distanceWith_37 ?_
    refine lv_istore (lv' := [(9, .int (jz 1)), (8, .int (jz ((ix + 1) + (h2 (((n - ix) - 1) * 21 + n2))))), (7, .int (jz (ix + 1))), (6, .int (jz ((n - ix) - 1))), (5, .int (jz n2)), (0, .ref rp), (1, .ref t), (2, .ref t2), (3, .int (jz ix)), (4, .int (jz le))]) hx hb dX3_distanceWith_38 hl (by decide) rfl (fun ls hl => ?_)
    have K40 : ∀ (n9 : Nat) (j : Int) (v : Int) (L : Int) , ((n2 + 1 - j).toNat) < n9 → (1 ≤ j ∧ j ≤ n2 + 1) → (v = D 1 (up g ix le) g2 (ix + 1) (j - 1)) → (∀ y : Int, 0 ≤ y → y < j → L ≤ D 1 (up g ix le) g2 (ix + 1) y + D 1 (rv (up g ix le) n) (rv g2 n2) (n - (ix + 1)) (n2 - y)) → (∃ y : Int, 0 ≤ y ∧ y < j ∧ L = D 1 (up g ix le) g2 (ix + 1) y + D 1 (rv (up g ix le) n) (rv g2 n2) (n - (ix + 1)) (n2 - y)) → (0 ≤ L ∧ L ≤ 100) → ∀ (H : Heap) (locs : List Loc) (ls : Array Slot), wP G [bRep G rp q q2 ct ot, bGrid G q b h, bGrid G q2 b2 h2, bText G t a n g, bText G t2 a2 n2 g2] H → wD A [bRep G rp q q2 ct ot, bGrid G q b h, bGrid G q2 b2 h2, bText G t a n g, bText G t2 a2 n2 g2] → va_S A s.heap H locs → lv_has ls 11 [(0, .ref rp), (1, .ref t), (2, .ref t2), (3, .int (jz ix)), (4, .int (jz le)), (5, .int (jz n2)), (6, .int (jz (n - ix - 1))), (7, .int (jz v)), (8, .int (jz L)), (9, .int (jz j))] → W p l e rmX3_distanceWith s m args below meth c H locs 0 0 Q (F0 m 40 ls []) := by
      intro n9
      induction n9 with
      | zero => intro j v L hm9; exact absurd hm9 (Nat.not_lt_zero _)
      | succ n9 ih40 =>
        intro j v L hm9 hj hv hL hE hLb H locs ls hP hD hS hl
        have hvb := D_bd (c := 1) (Or.inr rfl) (up g ix le) g2 (i := ix + 1) (j := j - 1) (by omega) (by omega)
        refine lv_iload hx hb dX3_distanceWith_40 (lv_at hl 9 rfl) ?_
        refine lv_iload hx hb dX3_distanceWith_42 (lv_at hl 5 rfl) ?_
        refine jv_icmp_gt (tgt := 123) hx hb dX3_distanceWith_44 (by decide) (by omega) (by omega) (fun c_4 => ?_) (fun c_4 => ?_)
        · refine lv_iload hx hb dX3_distanceWith_123 (lv_at hl 8 rfl) ?_
          exact cret_i hx hb hr hlocks hS hP hD (Nat.le_of_ble_eq_true rfl) (Nat.le_of_ble_eq_true rfl) rfl dX3_distanceWith_125 [0, 1, 2, 3, 4] (by decide) () rfl trivial (congrArg (fun z : Int => some (Value.int (jz z))) (show L = D 1 (up g ix le) g2 n n2 from by exact split_eq (up g ix le) g2 (i := ix + 1) (by omega) (by omega) (by omega) (fun y p1 p2 => hL y p1 (by omega)) (by obtain ⟨y, p1, p2, p3⟩ := hE; exact ⟨y, p1, by omega, p3⟩))) hQ
        · refine lv_iload hx hb dX3_distanceWith_47 (lv_at hl 4 rfl) ?_
          refine lv_aload_n hx hb dX3_distanceWith_49 rfl (lv_at hl 2 rfl) ?_
          refine lv_iload hx hb dX3_distanceWith_50 (lv_at hl 9 rfl) ?_
          refine jv_iconst hx hb dX3_distanceWith_52 ?_
          refine jv_isub hx hb dX3_distanceWith_53 ?_
          refine kV ⟨hx, hb, hml, hown, hts⟩ hK hA hS hP hD [.int (jz (j - 1))] [.int (jz le)] (mX6_at_in l G t2 a2 n2 g2 (j - 1) (by omega) (by omega)) lkX3_47 [4] [0, 1, 2, 3] (br := [bRep G rp q q2 ct ot, bGrid G q b h, bGrid G q2 b2 h2, bText G t a n g]) rfl rfl (by decide) 0 6 rfl rfl rfl rfl (Nat.le_of_ble_eq_true rfl) hl.1 dX3_distanceWith_54 ⟨Nat.le_of_ble_eq_true rfl, Nat.le_of_ble_eq_true rfl⟩ ⟨Nat.le_of_ble_eq_true rfl, Nat.le_of_ble_eq_true rfl⟩ (fun u9 H locs hp9 hP hD hS => ?_)
          have hP : wP G [bRep G rp q q2 ct ot, bGrid G q b h, bGrid G q2 b2 h2, bText G t a n g, bText G t2 a2 n2 g2] H := hP
          have hD : wD A [bRep G rp q q2 ct ot, bGrid G q b h, bGrid G q2 b2 h2, bText G t a n g, bText G t2 a2 n2 g2] := hD
          show W p l e rmX3_distanceWith s m args below meth c H locs 0 0 Q (F0 m 57 ls [.int (jz (g2 (j - 1))), .int (jz le)])
          have b0 := hg2 (j - 1) (by omega) (by omega)
          refine kSN ⟨hx, hb, hml, hown, hts⟩ hK hA hS hP hD [.int (jz le), .int (jz (g2 (j - 1)))] [] (mX8_replaceCost l G le (g2 (j - 1)) (by omega) (by omega)) lkX3_50 [] [0, 1, 2, 3, 4] (br := [bRep G rp q q2 ct ot, bGrid G q b h, bGrid G q2 b2 h2, bText G t a n g, bText G t2 a2 n2 g2]) rfl rfl (by decide) rfl rfl (Nat.le_of_ble_eq_true rfl) hl.1 dX3_distanceWith_57 ⟨Nat.le_of_ble_eq_true rfl, Nat.le_of_ble_eq_true rfl⟩ ⟨Nat.le_of_ble_eq_true rfl, Nat.le_of_ble_eq_true rfl⟩ (fun u9 H locs hp9 hP hD hS => ?_)
          have hP : wP G [bRep G rp q q2 ct ot, bGrid G q b h, bGrid G q2 b2 h2, bText G t a n g, bText G t2 a2 n2 g2] H := hP
          have hD : wD A [bRep G rp q q2 ct ot, bGrid G q b h, bGrid G q2 b2 h2, bText G t a n g, bText G t2 a2 n2 g2] := hD
          show W p l e rmX3_distanceWith s m args below meth c H locs 0 0 Q (F0 m 60 ls [.int (jz (cst le (g2 (j - 1))))])
          have b1 := cst_bd le (g2 (j - 1))
          refine lv_istore (lv' := [(10, .int (jz (cst le (g2 (j - 1))))), (0, .ref rp), (1, .ref t), (2, .ref t2), (3, .int (jz ix)), (4, .int (jz le)), (5, .int (jz n2)), (6, .int (jz (n - ix - 1))), (7, .int (jz v)), (8, .int (jz L)), (9, .int (jz j))]) hx hb dX3_distanceWith_60 hl (by decide) rfl (fun ls hl => ?_)
          refine lv_aload_n hx hb dX3_distanceWith_62 rfl (lv_at hl 1 rfl) ?_
          refine va_get (ci := 3) (v := .ref q) (C := RX3) (T := TX3) (N := 4) hx hb hts wfX3 hown hK.1 hP 0 rfl rfl 0 (by decide) (hts _ wm153) (fun _ h9 => h9) rfl dX3_distanceWith_63 ?_
          refine lv_iload_n hx hb dX3_distanceWith_66 rfl (lv_at hl 4 rfl) ?_
          refine lv_iload hx hb dX3_distanceWith_67 (lv_at hl 10 rfl) ?_
          refine kV ⟨hx, hb, hml, hown, hts⟩ hK hA hS hP hD [.int (jz ix), .int (jz j)] [] (mX1_at l G q b h ix j (by omega) (by omega)) lkX3_43 [1] [0, 2, 3, 4] (br := [bRep G rp q q2 ct ot, bGrid G q2 b2 h2, bText G t a n g, bText G t2 a2 n2 g2]) rfl rfl (by decide) 0 1 rfl rfl rfl rfl (Nat.le_of_ble_eq_true rfl) hl.1 dX3_distanceWith_69 ⟨Nat.le_of_ble_eq_true rfl, Nat.le_of_ble_eq_true rfl⟩ ⟨Nat.le_of_ble_eq_true rfl, Nat.le_of_ble_eq_true rfl⟩ (fun u9 H locs hp9 hP hD hS => ?_)
          have hP : wP G [bRep G rp q q2 ct ot, bGrid G q2 b2 h2, bText G t a n g, bText G t2 a2 n2 g2, bGrid G q b h] H := hP
          have hD : wD A [bRep G rp q q2 ct ot, bGrid G q2 b2 h2, bText G t a n g, bText G t2 a2 n2 g2, bGrid G q b h] := hD
          show W p l e rmX3_distanceWith s m args below meth c H locs 0 0 Q (F0 m 72 ls [.int (jz (h (ix * 21 + j)))])
          have f1 := hh1 ix (j) (by omega) (by omega) (by omega) (by omega)
          rw [D_cg (a' := up g ix le) (b' := g2) (i := ix) (j := j) 1 (fun z p1 p2 => (show g z = up g ix le z from (up_ne (by omega)).symm)) (fun z p1 p2 => rfl)] at f1
          have f1b := D_bd (c := 1) (Or.inr rfl) (up g ix le) g2 (i := ix) (j := j) (by omega) (by omega)
          refine lv_iload hx hb dX3_distanceWith_72 (lv_at hl 8 rfl) ?_
          refine lv_aload_n hx hb dX3_distanceWith_74 rfl (lv_at hl 1 rfl) ?_
          refine va_get (ci := 3) (v := .ref q) (C := RX3) (T := TX3) (N := 4) hx hb hts wfX3 hown hK.1 hP 0 rfl rfl 0 (by decide) (hts _ wm153) (fun _ h9 => h9) rfl dX3_distanceWith_75 ?_
          refine lv_iload_n hx hb dX3_distanceWith_78 rfl (lv_at hl 4 rfl) ?_
          refine lv_iload hx hb dX3_distanceWith_79 (lv_at hl 10 rfl) ?_
          refine jv_iconst hx hb dX3_distanceWith_81 ?_
          refine jv_isub hx hb dX3_distanceWith_82 ?_
          refine kV ⟨hx, hb, hml, hown, hts⟩ hK hA hS hP hD [.int (jz ix), .int (jz (j - 1))] [.int (jz v), .int (jz (h (ix * 21 + j)))] (mX1_at l G q b h ix (j - 1) (by omega) (by omega)) lkX3_43 [4] [0, 1, 2, 3] (br := [bRep G rp q q2 ct ot, bGrid G q2 b2 h2, bText G t a n g, bText G t2 a2 n2 g2]) rfl rfl (by decide) 0 1 rfl rfl rfl rfl (Nat.le_of_ble_eq_true rfl) hl.1 dX3_distanceWith_83 ⟨Nat.le_of_ble_eq_true rfl, Nat.le_of_ble_eq_true rfl⟩ ⟨Nat.le_of_ble_eq_true rfl, Nat.le_of_ble_eq_true rfl⟩ (fun u9 H locs hp9 hP hD hS => ?_)
          have hP : wP G [bRep G rp q q2 ct ot, bGrid G q2 b2 h2, bText G t a n g, bText G t2 a2 n2 g2, bGrid G q b h] H := hP
          have hD : wD A [bRep G rp q q2 ct ot, bGrid G q2 b2 h2, bText G t a n g, bText G t2 a2 n2 g2, bGrid G q b h] := hD
          show W p l e rmX3_distanceWith s m args below meth c H locs 0 0 Q (F0 m 86 ls [.int (jz (h (ix * 21 + (j - 1)))), .int (jz v), .int (jz (h (ix * 21 + j)))])
          have f2 := hh1 ix (j - 1) (by omega) (by omega) (by omega) (by omega)
          rw [D_cg (a' := up g ix le) (b' := g2) (i := ix) (j := j - 1) 1 (fun z p1 p2 => (show g z = up g ix le z from (up_ne (by omega)).symm)) (fun z p1 p2 => rfl)] at f2
          have f2b := D_bd (c := 1) (Or.inr rfl) (up g ix le) g2 (i := ix) (j := j - 1) (by omega) (by omega)
          refine lv_iload hx hb dX3_distanceWith_86 (lv_at hl 0 rfl) ?_
          refine kSN ⟨hx, hb, hml, hown, hts⟩ hK hA hS hP hD [.int (jz (h (ix * 21 + j))), .int (jz v), .int (jz (h (ix * 21 + (j - 1)))), .int (jz (cst le (g2 (j - 1))))] [] (mX8_leastCost l G (h (ix * 21 + j)) v (h (ix * 21 + (j - 1))) (cst le (g2 (j - 1))) (by omega) (by omega) (by omega) (by omega)) lkX3_53 [] [0, 1, 2, 3, 4] (br := [bRep G rp q q2 ct ot, bGrid G q2 b2 h2, bText G t a n g, bText G t2 a2 n2 g2, bGrid G q b h]) rfl rfl (by decide) rfl rfl (Nat.le_of_ble_eq_true rfl) hl.1 dX3_distanceWith_88 ⟨Nat.le_of_ble_eq_true rfl, Nat.le_of_ble_eq_true rfl⟩ ⟨Nat.le_of_ble_eq_true rfl, Nat.le_of_ble_eq_true rfl⟩ (fun u9 H locs hp9 hP hD hS => ?_)
          have hP : wP G [bRep G rp q q2 ct ot, bGrid G q2 b2 h2, bText G t a n g, bText G t2 a2 n2 g2, bGrid G q b h] H := hP
          have hD : wD A [bRep G rp q q2 ct ot, bGrid G q2 b2 h2, bText G t a n g, bText G t2 a2 n2 g2, bGrid G q b h] := hD
          show W p l e rmX3_distanceWith s m args below meth c H locs 0 0 Q (F0 m 91 ls [.int (jz (min (min (h (ix * 21 + j)) v + 1) ((h (ix * 21 + (j - 1))) + (cst le (g2 (j - 1))))))])
          refine jv_top (fun w_10 ew_10 => ?_)
          have hv2 : w_10 = D 1 (up g ix le) g2 (ix + 1) j := by rw [ew_10, D_s 1 (up g ix le) g2 (by omega) (by omega), show ix + 1 - 1 = ix by omega, ← f1, ← f2, ← hv, up_eq]
          have hvb2 := D_bd (c := 1) (Or.inr rfl) (up g ix le) g2 (i := ix + 1) (j := j) (by omega) (by omega)
          refine lv_istore (lv' := [(7, .int (jz w_10)), (10, .int (jz (cst le (g2 (j - 1))))), (0, .ref rp), (1, .ref t), (2, .ref t2), (3, .int (jz ix)), (4, .int (jz le)), (5, .int (jz n2)), (6, .int (jz (n - ix - 1))), (8, .int (jz L)), (9, .int (jz j))]) hx hb dX3_distanceWith_91 hl (by decide) rfl (fun ls hl => ?_)
          refine lv_iload hx hb dX3_distanceWith_93 (lv_at hl 9 rfl) ?_
          refine lv_iload hx hb dX3_distanceWith_95 (lv_at hl 0 rfl) ?_
          refine lv_aload_n hx hb dX3_distanceWith_97 rfl (lv_at hl 2 rfl) ?_
          refine va_get (ci := 3) (v := .ref q2) (C := RX3) (T := TX3) (N := 4) hx hb hts wfX3 hown hK.1 hP 0 rfl rfl 1 (by decide) (hts _ wm154) (fun _ h9 => h9) rfl dX3_distanceWith_98 ?_
          refine lv_iload hx hb dX3_distanceWith_101 (lv_at hl 8 rfl) ?_
          refine lv_iload hx hb dX3_distanceWith_103 (lv_at hl 7 rfl) ?_
          refine lv_iload hx hb dX3_distanceWith_105 (lv_at hl 10 rfl) ?_
          refine jv_isub hx hb dX3_distanceWith_107 ?_
          refine kV ⟨hx, hb, hml, hown, hts⟩ hK hA hS hP hD [.int (jz (n - ix - 1)), .int (jz (n2 - j))] [.int (jz w_10), .int (jz L)] (mX1_at l G q2 b2 h2 (n - ix - 1) (n2 - j) (by omega) (by omega)) lkX3_43 [1] [0, 2, 3, 4] (br := [bRep G rp q q2 ct ot, bText G t a n g, bText G t2 a2 n2 g2, bGrid G q b h]) rfl rfl (by decide) 0 1 rfl rfl rfl rfl (Nat.le_of_ble_eq_true rfl) hl.1 dX3_distanceWith_108 ⟨Nat.le_of_ble_eq_true rfl, Nat.le_of_ble_eq_true rfl⟩ ⟨Nat.le_of_ble_eq_true rfl, Nat.le_of_ble_eq_true rfl⟩ (fun u9 H locs hp9 hP hD hS => ?_)
          have hP : wP G [bRep G rp q q2 ct ot, bText G t a n g, bText G t2 a2 n2 g2, bGrid G q b h, bGrid G q2 b2 h2] H := hP
          have hD : wD A [bRep G rp q q2 ct ot, bText G t a n g, bText G t2 a2 n2 g2, bGrid G q b h, bGrid G q2 b2 h2] := hD
          show W p l e rmX3_distanceWith s m args below meth c H locs 0 0 Q (F0 m 111 ls [.int (jz (h2 ((n - ix - 1) * 21 + (n2 - j)))), .int (jz w_10), .int (jz L)])
          have k1 : h2 ((n - ix - 1) * 21 + (n2 - j)) = D 1 (rv (up g ix le) n) (rv g2 n2) (n - (ix + 1)) (n2 - j) := by rw [hh2 (n - ix - 1) (n2 - j) (by omega) (by omega) (by omega) (by omega), show n - (ix + 1) = n - ix - 1 by omega]; exact D_cg 1 (fun z p1 p2 => rv_up p2) (fun z p1 p2 => rfl)
          have k1b := D_bd (c := 1) (Or.inr rfl) (rv (up g ix le) n) (rv g2 n2) (i := n - (ix + 1)) (j := n2 - j) (by omega) (by omega)
          refine jv_iadd hx hb dX3_distanceWith_111 ?_
          refine jv_min hx hb (hml.trans hl.1.symm) hown (hts _ wm666) (hts _ wm467) (hts _ wm26) (hts _ wm468) (Nat.le_of_ble_eq_true rfl) (Nat.le_of_ble_eq_true rfl) (Nat.le_of_ble_eq_true rfl) (Nat.le_of_ble_eq_true rfl) (by omega) (by omega) dX3_distanceWith_112 ?_
          refine jv_top (fun z_12 ez_12 => ?_)
          have hE2 : ∃ y : Int, 0 ≤ y ∧ y < j + 1 ∧ z_12 = D 1 (up g ix le) g2 (ix + 1) y + D 1 (rv (up g ix le) n) (rv g2 n2) (n - (ix + 1)) (n2 - y) := by
            obtain ⟨y, p1, p2, p3⟩ := hE
            if e1 : L ≤ w_10 + h2 ((n - ix - 1) * 21 + (n2 - j)) then exact ⟨y, p1, by omega, by omega⟩ else exact ⟨j, by omega, by omega, by omega⟩
          refine lv_istore (lv' := [(8, .int (jz z_12)), (7, .int (jz w_10)), (10, .int (jz (cst le (g2 (j - 1))))), (0, .ref rp), (1, .ref t), (2, .ref t2), (3, .int (jz ix)), (4, .int (jz le)), (5, .int (jz n2)), (6, .int (jz (n - ix - 1))), (9, .int (jz j))]) hx hb dX3_distanceWith_115 hl (by decide) rfl (fun ls hl => ?_)
          refine jv_iinc (lv' := [(9, .int (jz (j + 1))), (8, .int (jz z_12)), (7, .int (jz w_10)), (10, .int (jz (cst le (g2 (j - 1))))), (0, .ref rp), (1, .ref t), (2, .ref t2), (3, .int (jz ix)), (4, .int (jz le)), (5, .int (jz n2)), (6, .int (jz (n - ix - 1)))]) (k := 10) hx hb dX3_distanceWith_117 hl rfl (by decide) rfl (fun ls hl => ?_)
          refine lv_goto (tgt := 40) hx hb dX3_distanceWith_120 (by decide) ?_
          exact ih40 (j + 1) w_10 z_12 (by omega) (by omega) (by rw [show j + 1 - 1 = j by omega]; exact hv2) (by intro y p1 p2; if e1 : y = j then (rw [e1]; omega) else (have q9 := hL y p1 (by omega); omega)) (by exact hE2) (by omega) H _ _ (wP_sub (bc := [bRep G rp q q2 ct ot, bGrid G q b h, bGrid G q2 b2 h2, bText G t a n g, bText G t2 a2 n2 g2]) hP [0, 3, 4, 1, 2] rfl) (wD_sub (bc := [bRep G rp q q2 ct ot, bGrid G q b h, bGrid G q2 b2 h2, bText G t a n g, bText G t2 a2 n2 g2]) hD [0, 3, 4, 1, 2] (by decide) rfl) hS (lv_sub hl [4, 5, 6, 7, 8, 9, 10, 2, 1, 0] rfl)
    exact K40 (((n2 + 1 - 1).toNat) + 1) 1 (ix + 1) ((ix + 1) + (h2 (((n - ix) - 1) * 21 + n2))) (Nat.lt_succ_self _) (by omega) (by rw [D_l 1 _ _ (by omega) (by omega)]; omega) (by intro y p1 p2; rw [show y = 0 by omega, D_l 1 _ _ rfl (by omega), show n2 - 0 = n2 by omega]; omega) (by refine ⟨0, by omega, by omega, ?_⟩; rw [D_l 1 _ _ rfl (by omega), show n2 - 0 = n2 by omega]; omega) (by omega) H _ _ (wP_sub (bc := [bRep G rp q q2 ct ot, bGrid G q b h, bGrid G q2 b2 h2, bText G t a n g, bText G t2 a2 n2 g2]) hP [0, 1, 4, 3, 2] rfl) (wD_sub (bc := [bRep G rp q q2 ct ot, bGrid G q b h, bGrid G q2 b2 h2, bText G t a n g, bText G t2 a2 n2 g2]) hD [0, 1, 4, 3, 2] (by decide) rfl) hS (lv_sub hl [5, 6, 7, 8, 9, 4, 3, 2, 1, 0] rfl)
  exact KH s.heap [] hP hD hS
