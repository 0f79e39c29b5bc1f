abbrev bWay (G : GG) (w : Nat) (v : Nat) (k : Int) (h : Int → Int) : va_W := [(w, .inr (7, [.ref v, .int (jz k)])), (v, ja G 40 h)]
abbrev rmX7_init : Room := { frames := 1, cells := 1, slots := 40, locals := 20 }
set_option maxHeartbeats 4000000 in
set_option maxRecDepth 100000 in
theorem mX7_init (l : Launch) (G : GG) (w : Nat)  : Ct l yX7_init cX7_init 1 none rmX7_init G [.ref w] [[(w, .inr (7, [.null, .int (jz 0)]))]] (fun uo : Nat => none) (fun uo => True) (fun uo => [bWay G w uo 0 (fun _ => 0)]) := by
  refine cof (by decide) (Nat.le_of_ble_eq_true rfl) ?_
  intro p e s m args below meth c A ls hx hb hr hml hown hts hlocks hin hA hK hP hD hS hl Q hQ
  have hown : s.vm.findClass RX7 = some m.cls := hown
  have hl : lv_has ls 1 [(0, .ref w)] := hl
  have KH : ∀ (H : Heap) (locs : List Loc), wP G [[(w, .inr (7, [.null, .int (jz 0)]))]] H → wD A [[(w, .inr (7, [.null, .int (jz 0)]))]] → va_S A s.heap H locs → W p l e rmX7_init s m args below meth c H locs 0 0 Q (F0 m 0 ls []) := by
    intro H locs hP hD hS
    refine lv_aload_n hx hb dX7_init_0 rfl (lv_at hl 0 rfl) ?_
    refine W.objInit hx hb hown (hts _ wm112) (hts _ wm34) (hts _ wm35) rfl (by rw [hml]; exact hl.1) rfl dX7_init_1 (Nat.le_of_ble_eq_true rfl) (Nat.le_of_ble_eq_true rfl) ?_
    refine W.eq (g2 := F0 m 4 ls []) rfl ?_
    refine lv_aload_n hx hb dX7_init_4 rfl (lv_at hl 0 rfl) ?_
    refine jv_bipush hx hb dX7_init_5 (by decide) ?_
    refine jv_newi hx hb hts hK.1 hP hD hS hA 40 rfl (by decide) (Nat.le_of_ble_eq_true rfl) (Nat.le_of_ble_eq_true rfl) wm55 dX7_init_7 (fun q_1 H hP hD hS => ?_)
    have hP : wP G [[(w, .inr (7, [.null, .int (jz 0)]))], [(q_1, ja G 40 ((fun _ => 0)))]] H := hP
    have hD : wD A [[(w, .inr (7, [.null, .int (jz 0)]))], [(q_1, ja G 40 ((fun _ => 0)))]] := hD
    show W p l e rmX7_init s m args below meth c H locs 1 40 Q (F0 m 9 ls [.ref q_1, .ref w])
    refine va_putF (ci := 7) (v := .ref q_1) (ty := (.array .int)) (C := RX7) (T := TX7) (N := 2) hx hb hts wfX7 tyX7 tyX7_ok nmX7 hown hK.1 hP hD hS 0 rfl rfl 0 (by decide) (hts _ wm113) (fun _ h9 => h9) rfl hin rfl (by decide +kernel) rfl rfl (Nat.le_of_ble_eq_true rfl) dX7_init_9 (fun H locs hP hD hS => ?_)
    have hP : wP G [[(w, .inr (7, [.ref q_1, .int (jz 0)]))], [(q_1, ja G 40 ((fun _ => 0)))]] H := hP
    have hD : wD A [[(w, .inr (7, [.ref q_1, .int (jz 0)]))], [(q_1, ja G 40 ((fun _ => 0)))]] := hD
    refine lv_aload_n hx hb dX7_init_12 rfl (lv_at hl 0 rfl) ?_
    refine jv_iconst hx hb dX7_init_13 ?_
    refine va_put (ci := 7) (v := .int (jz 0)) (ty := .int) (C := RX7) (T := TX7) (N := 2) hx hb hts wfX7 tyX7 tyX7_ok nmX7 hown hK.1 hP hD hS 0 rfl rfl 1 (by decide) (hts _ wm114) (fun _ h9 => h9) rfl (by decide +kernel) rfl rfl (Nat.le_of_ble_eq_true rfl) dX7_init_14 (fun H locs hP hD hS => ?_)
    have hP : wP G [[(w, .inr (7, [.ref q_1, .int (jz 0)]))], [(q_1, ja G 40 ((fun _ => 0)))]] H := hP
    have hD : wD A [[(w, .inr (7, [.ref q_1, .int (jz 0)]))], [(q_1, ja G 40 ((fun _ => 0)))]] := hD
    have hP : wP G [bWay G w q_1 0 (fun _ => 0)] H := hP
    have hD : wD A [bWay G w q_1 0 (fun _ => 0)] := hD
    exact cret_v hx hb hr hlocks hS hP hD (Nat.le_of_ble_eq_true rfl) (Nat.le_of_ble_eq_true rfl) dX7_init_17 [0] (by decide) q_1 rfl trivial rfl hQ
  exact KH s.heap [] hP hD hS
abbrev rmX7_size : Room := { frames := 0, cells := 0, slots := 0, locals := 0 }
set_option maxHeartbeats 4000000 in
set_option maxRecDepth 100000 in
theorem mX7_size (l : Launch) (G : GG) (w : Nat) (v : Nat) (k : Int) (h : Int → Int)  : Ct l yX7_size cX7_size 1 (some .int) rmX7_size G [.ref w] [bWay G w v k h] (fun uo : Unit => some (.int (jz k))) (fun uo => True) (fun uo => [bWay G w v k h]) := by
  refine cof (by decide) (Nat.le_of_ble_eq_true rfl) ?_
  intro p e s m args below meth c A ls hx hb hr hml hown hts hlocks hin hA hK hP hD hS hl Q hQ
  have hown : s.vm.findClass RX7 = some m.cls := hown
  have hl : lv_has ls 1 [(0, .ref w)] := hl
  have KH : ∀ (H : Heap) (locs : List Loc), wP G [bWay G w v k h] H → wD A [bWay G w v k h] → va_S A s.heap H locs → W p l e rmX7_size s m args below meth c H locs 0 0 Q (F0 m 0 ls []) := by
    intro H locs hP hD hS
    refine lv_aload_n hx hb dX7_size_0 rfl (lv_at hl 0 rfl) ?_
    refine va_get (ci := 7) (v := .int (jz k)) (C := RX7) (T := TX7) (N := 2) hx hb hts wfX7 hown hK.1 hP 0 rfl rfl 1 (by decide) (hts _ wm114) (fun _ h9 => h9) rfl dX7_size_1 ?_
    exact cret_i hx hb hr hlocks hS hP hD (Nat.le_of_ble_eq_true rfl) (Nat.le_of_ble_eq_true rfl) rfl dX7_size_4 [0] (by decide) () rfl trivial (congrArg (fun z : Int => some (Value.int (jz z))) (show k = k from by first | rfl | omega | (split <;> first | rfl | omega | (exfalso; omega)))) hQ
  exact KH s.heap [] hP hD hS
abbrev rmX7_at : Room := { frames := 0, cells := 0, slots := 0, locals := 0 }
set_option maxHeartbeats 4000000 in
set_option maxRecDepth 100000 in
theorem mX7_at (l : Launch) (G : GG) (w : Nat) (v : Nat) (k : Int) (h : Int → Int) (z : Int) (hk : 0 ≤ k ∧ k ≤ 40) (hz : jr z) : Ct l yX7_at cX7_at 2 (some .int) rmX7_at G [.ref w, .int (jz z)] [bWay G w v k h] (fun uo : Unit => some (.int (jz (if 0 ≤ z ∧ z < k then h (k - 1 - z) else -1)))) (fun uo => True) (fun uo => [bWay G w v k h]) := by
  refine cof (by decide) (Nat.le_of_ble_eq_true rfl) ?_
  intro p e s m args below meth c A ls hx hb hr hml hown hts hlocks hin hA hK hP hD hS hl Q hQ
  have hown : s.vm.findClass RX7 = some m.cls := hown
  have hl : lv_has ls 2 [(0, .ref w), (1, .int (jz z))] := hl
  have KH : ∀ (H : Heap) (locs : List Loc), wP G [bWay G w v k h] H → wD A [bWay G w v k h] → va_S A s.heap H locs → W p l e rmX7_at s m args below meth c H locs 0 0 Q (F0 m 0 ls []) := by
    intro H locs hP hD hS
    refine lv_iload_n hx hb dX7_at_0 rfl (lv_at hl 1 rfl) ?_
    refine jv_if_lt (tgt := 28) hx hb dX7_at_1 (by decide) (by omega) (fun c_1 => ?_) (fun c_1 => ?_)
    · refine jv_iconst hx hb dX7_at_28 ?_
      exact cret_i hx hb hr hlocks hS hP hD (Nat.le_of_ble_eq_true rfl) (Nat.le_of_ble_eq_true rfl) rfl dX7_at_29 [0] (by decide) () rfl trivial (congrArg (fun z : Int => some (Value.int (jz z))) (show ((-1)) = if 0 ≤ z ∧ z < k then h (k - 1 - z) else -1 from by first | rfl | omega | (split <;> first | rfl | omega | (exfalso; omega)))) hQ
    · refine lv_iload_n hx hb dX7_at_4 rfl (lv_at hl 1 rfl) ?_
      refine lv_aload_n hx hb dX7_at_5 rfl (lv_at hl 0 rfl) ?_
      refine va_get (ci := 7) (v := .int (jz k)) (C := RX7) (T := TX7) (N := 2) hx hb hts wfX7 hown hK.1 hP 0 rfl rfl 1 (by decide) (hts _ wm114) (fun _ h9 => h9) rfl dX7_at_6 ?_
      refine jv_icmp_ge (tgt := 28) hx hb dX7_at_9 (by decide) (by omega) (by omega) (fun c_2 => ?_) (fun c_2 => ?_)
      · refine jv_iconst hx hb dX7_at_28 ?_
        exact cret_i hx hb hr hlocks hS hP hD (Nat.le_of_ble_eq_true rfl) (Nat.le_of_ble_eq_true rfl) rfl dX7_at_29 [0] (by decide) () rfl trivial (congrArg (fun z : Int => some (Value.int (jz z))) (show ((-1)) = if 0 ≤ z ∧ z < k then h (k - 1 - z) else -1 from by first | rfl | omega | (split <;> first | rfl | omega | (exfalso; omega)))) hQ
      · refine lv_aload_n hx hb dX7_at_12 rfl (lv_at hl 0 rfl) ?_
        refine va_get (ci := 7) (v := .ref v) (C := RX7) (T := TX7) (N := 2) hx hb hts wfX7 hown hK.1 hP 0 rfl rfl 0 (by decide) (hts _ wm113) (fun _ h9 => h9) rfl dX7_at_13 ?_
        refine lv_aload_n hx hb dX7_at_16 rfl (lv_at hl 0 rfl) ?_
        refine va_get (ci := 7) (v := .int (jz k)) (C := RX7) (T := TX7) (N := 2) hx hb hts wfX7 hown hK.1 hP 0 rfl rfl 1 (by decide) (hts _ wm114) (fun _ h9 => h9) rfl dX7_at_17 ?_
        refine jv_iconst hx hb dX7_at_20 ?_
        refine jv_isub hx hb dX7_at_21 ?_
        refine lv_iload_n hx hb dX7_at_22 rfl (lv_at hl 1 rfl) ?_
        refine jv_isub hx hb dX7_at_23 ?_
        refine jv_iald hx hb hK.1 hP 1 (g := h) rfl (by omega) (by omega) (by decide) dX7_at_24 ?_
        refine lv_goto (tgt := 29) hx hb dX7_at_25 (by decide) ?_
        exact cret_i hx hb hr hlocks hS hP hD (Nat.le_of_ble_eq_true rfl) (Nat.le_of_ble_eq_true rfl) rfl dX7_at_29 [0] (by decide) () rfl trivial (congrArg (fun z : Int => some (Value.int (jz z))) (show (h ((k - 1) - z)) = if 0 ≤ z ∧ z < k then h (k - 1 - z) else -1 from by first | rfl | omega | (split <;> first | rfl | omega | (exfalso; omega)))) hQ
  exact KH s.heap [] hP hD hS
abbrev rmX7_stepsOf : Room := { frames := 1, cells := 0, slots := 0, locals := 21 }
set_option maxHeartbeats 4000000 in
set_option maxRecDepth 100000 in
theorem mX7_stepsOf (l : Launch) (G : GG) (w : Nat) (v : Nat) (k : Int) (h : Int → Int) (v9 : Int) (hk : 0 ≤ k ∧ k ≤ 40) (hz : jr v9) (hh : ∀ x : Int, 0 ≤ x → x < k → 0 ≤ h x ∧ h x ≤ 3) : Ct l yX7_stepsOf cX7_stepsOf 4 (some .int) rmX7_stepsOf G [.ref w, .int (jz v9)] [bWay G w v k h] (fun uo : Unit => some (.int (jz (cnt h v9 k)))) (fun uo => True) (fun uo => [bWay G w v k h]) := by
  refine cof (by decide) (Nat.le_of_ble_eq_true rfl) ?_
  intro p e s m args below meth c A ls hx hb hr hml hown hts hlocks hin hA hK hP hD hS hl Q hQ
  have hown : s.vm.findClass RX7 = some m.cls := hown
  have hl : lv_has ls 4 [(0, .ref w), (1, .int (jz v9))] := hl
  have KH : ∀ (H : Heap) (locs : List Loc), wP G [bWay G w v k h] H → wD A [bWay G w v k h] → va_S A s.heap H locs → W p l e rmX7_stepsOf s m args below meth c H locs 0 0 Q (F0 m 0 ls []) := by
    intro H locs hP hD hS
    refine jv_iconst hx hb dX7_stepsOf_0 ?_
    refine lv_istore_n (lv' := [(2, .int (jz 0)), (0, .ref w), (1, .int (jz v9))]) hx hb dX7_stepsOf_1 rfl hl (by decide) rfl (fun ls hl => ?_)
    refine jv_iconst hx hb dX7_stepsOf_2 ?_
    refine lv_istore_n (lv' := [(3, .int (jz 0)), (2, .int (jz 0)), (0, .ref w), (1, .int (jz v9))]) hx hb dX7_stepsOf_3 rfl hl (by decide) rfl (fun ls hl => ?_)
    have K4 : ∀ (n9 : Nat) (r : Int) (j : Int) , ((k - j).toNat) < n9 → (0 ≤ j ∧ j ≤ k) → (r = cnt (fun x => h (k - 1 - x)) v9 j) → ∀ (H : Heap) (locs : List Loc) (ls : Array Slot), wP G [bWay G w v k h] H → wD A [bWay G w v k h] → va_S A s.heap H locs → lv_has ls 4 [(0, .ref w), (1, .int (jz v9)), (2, .int (jz r)), (3, .int (jz j))] → W p l e rmX7_stepsOf s m args below meth c H locs 0 0 Q (F0 m 4 ls []) := by
      intro n9
      induction n9 with
      | zero => intro r j hm9; exact absurd hm9 (Nat.not_lt_zero _)
      | succ n9 ih4 =>
        intro r j hm9 hj hr9 H locs ls hP hD hS hl
        refine lv_iload_n hx hb dX7_stepsOf_4 rfl (lv_at hl 3 rfl) ?_
        refine lv_aload_n hx hb dX7_stepsOf_5 rfl (lv_at hl 0 rfl) ?_
        refine va_get (ci := 7) (v := .int (jz k)) (C := RX7) (T := TX7) (N := 2) hx hb hts wfX7 hown hK.1 hP 0 rfl rfl 1 (by decide) (hts _ wm114) (fun _ h9 => h9) rfl dX7_stepsOf_6 ?_
        refine jv_icmp_ge (tgt := 30) hx hb dX7_stepsOf_9 (by decide) (by omega) (by omega) (fun c_1 => ?_) (fun c_1 => ?_)
        · refine lv_iload_n hx hb dX7_stepsOf_30 rfl (lv_at hl 2 rfl) ?_
          exact cret_i hx hb hr hlocks hS hP hD (Nat.le_of_ble_eq_true rfl) (Nat.le_of_ble_eq_true rfl) rfl dX7_stepsOf_31 [0] (by decide) () rfl trivial (congrArg (fun z : Int => some (Value.int (jz z))) (show r = cnt h v9 k from by rw [hr9, show j = k by omega, cnt_rev h v9 (by omega)])) hQ
        · refine lv_aload_n hx hb dX7_stepsOf_12 rfl (lv_at hl 0 rfl) ?_
          refine lv_iload_n hx hb dX7_stepsOf_13 rfl (lv_at hl 3 rfl) ?_
          refine kV ⟨hx, hb, hml, hown, hts⟩ hK hA hS hP hD [.int (jz j)] [] (mX7_at l G w v k h j (by omega) (by omega)) lkX7_19 [0] [] (br := []) rfl rfl (by decide) 0 7 rfl rfl rfl rfl (Nat.le_of_ble_eq_true rfl) hl.1 dX7_stepsOf_14 ⟨Nat.le_of_ble_eq_true rfl, Nat.le_of_ble_eq_true rfl⟩ ⟨Nat.le_of_ble_eq_true rfl, Nat.le_of_ble_eq_true rfl⟩ (fun u9 H locs hp9 hP hD hS => ?_)
          have hP : wP G [bWay G w v k h] H := hP
          have hD : wD A [bWay G w v k h] := hD
          show W p l e rmX7_stepsOf s m args below meth c H locs 0 0 Q (F0 m 17 ls [.int (jz (if 0 ≤ j ∧ j < k then h (k - 1 - j) else -1))])
          have b1 := hh (k - 1 - j) (by omega) (by omega)
          refine jv_to (z' := h (k - 1 - j)) (by rw [if_pos ⟨by omega, by omega⟩]) ?_
          refine lv_iload_n hx hb dX7_stepsOf_17 rfl (lv_at hl 1 rfl) ?_
          refine jv_icmp_ne (tgt := 24) hx hb dX7_stepsOf_18 (by decide) (by omega) (by omega) (fun c_3 => ?_) (fun c_3 => ?_)
          · refine jv_iinc (lv' := [(3, .int (jz (j + 1))), (0, .ref w), (1, .int (jz v9)), (2, .int (jz r))]) (k := 3) hx hb dX7_stepsOf_24 hl rfl (by decide) rfl (fun ls hl => ?_)
            refine lv_goto (tgt := 4) hx hb dX7_stepsOf_27 (by decide) ?_
            exact ih4 r (j + 1) (by omega) (by omega) (by first | (rw [cnt_s _ _ (by omega), if_pos (by omega)]; omega) | (rw [cnt_s _ _ (by omega), if_neg (by omega)]; omega)) H _ _ hP hD hS (lv_sub hl [1, 2, 3, 0] rfl)
          · refine jv_iinc (lv' := [(2, .int (jz (r + 1))), (0, .ref w), (1, .int (jz v9)), (3, .int (jz j))]) (k := 2) hx hb dX7_stepsOf_21 hl rfl (by decide) rfl (fun ls hl => ?_)
            refine jv_iinc (lv' := [(3, .int (jz (j + 1))), (2, .int (jz (r + 1))), (0, .ref w), (1, .int (jz v9))]) (k := 3) hx hb dX7_stepsOf_24 hl rfl (by decide) rfl (fun ls hl => ?_)
            refine lv_goto (tgt := 4) hx hb dX7_stepsOf_27 (by decide) ?_
            exact ih4 (r + 1) (j + 1) (by omega) (by omega) (by first | (rw [cnt_s _ _ (by omega), if_pos (by omega)]; omega) | (rw [cnt_s _ _ (by omega), if_neg (by omega)]; omega)) H _ _ hP hD hS (lv_sub hl [2, 3, 1, 0] rfl)
    exact K4 (((k - 0).toNat) + 1) 0 0 (Nat.lt_succ_self _) (by omega) (by rfl) H _ _ hP hD hS (lv_sub hl [2, 3, 1, 0] rfl)
  exact KH s.heap [] hP hD hS
abbrev rmX7_lastStep : Room := { frames := 2, cells := 0, slots := 0, locals := 43 }
set_option maxHeartbeats 4000000 in
set_option maxRecDepth 100000 in
theorem mX7_lastStep (l : Launch) (G : GG) (q : Nat) (b : Nat) (h0 : Int → Int) (i : Int) (j : Int) (co : Int) (n : Int) (n2 : Int) (g : Int → Int) (g2 : Int → Int) (hn : 0 ≤ n ∧ n ≤ 20) (hn2 : 0 ≤ n2 ∧ n2 ≤ 20) (hi : 0 ≤ i ∧ i ≤ n) (hj : 0 ≤ j ∧ j ≤ n2) (hij : 0 < i ∨ 0 < j) (hco : 0 ≤ co ∧ co ≤ 1) (hco2 : 0 < i → 0 < j → co = cst (g (i - 1)) (g2 (j - 1))) (hh : ∀ x y : Int, 0 ≤ x → x ≤ n → 0 ≤ y → y ≤ n2 → h0 (x * 21 + y) = D 1 g g2 x y) : Ct l yX7_lastStep cX7_lastStep 5 (some .int) rmX7_lastStep G [.ref q, .int (jz i), .int (jz j), .int (jz co)] [bGrid G q b h0] (fun uo : Unit => some (.int (jz (stp g g2 i j)))) (fun uo => True) (fun uo => [bGrid G q b h0]) := by
  refine cof (by decide) (Nat.le_of_ble_eq_true rfl) ?_
  intro p e s m args below meth c A ls hx hb hr hml hown hts hlocks hin hA hK hP hD hS hl Q hQ
  have hown : s.vm.findClass RX7 = some m.cls := hown
  have hl : lv_has ls 5 [(0, .ref q), (1, .int (jz i)), (2, .int (jz j)), (3, .int (jz co))] := hl
  have KH : ∀ (H : Heap) (locs : List Loc), wP G [bGrid G q b h0] H → wD A [bGrid G q b h0] → va_S A s.heap H locs → W p l e rmX7_lastStep s m args below meth c H locs 0 0 Q (F0 m 0 ls []) := by
    intro H locs hP hD hS
    have d1 := D_bd (Or.inr rfl) g g2 hi.1 hj.1
    have e1 := hh i j (by omega) (by omega) (by omega) (by omega)
    refine lv_aload_n hx hb dX7_lastStep_0 rfl (lv_at hl 0 rfl) ?_
    refine lv_iload_n hx hb dX7_lastStep_1 rfl (lv_at hl 1 rfl) ?_
    refine lv_iload_n hx hb dX7_lastStep_2 rfl (lv_at hl 2 rfl) ?_
    refine kV ⟨hx, hb, hml, hown, hts⟩ hK hA hS hP hD [.int (jz i), .int (jz j)] [] (mX1_at l G q b h0 i j (by omega) (by omega)) lkX7_37 [0] [] (br := []) rfl rfl (by decide) 0 1 rfl rfl rfl rfl (Nat.le_of_ble_eq_true rfl) hl.1 dX7_lastStep_3 ⟨Nat.le_of_ble_eq_true rfl, Nat.le_of_ble_eq_true rfl⟩ ⟨Nat.le_of_ble_eq_true rfl, Nat.le_of_ble_eq_true rfl⟩ (fun u9 H locs hp9 hP hD hS => ?_)
    have hP : wP G [bGrid G q b h0] H := hP
    have hD : wD A [bGrid G q b h0] := hD
    show W p l e rmX7_lastStep s m args below meth c H locs 0 0 Q (F0 m 6 ls [.int (jz (h0 (i * 21 + j)))])
    refine lv_istore (lv' := [(4, .int (jz (h0 (i * 21 + j)))), (0, .ref q), (1, .int (jz i)), (2, .int (jz j)), (3, .int (jz co))]) hx hb dX7_lastStep_6 hl (by decide) rfl (fun ls hl => ?_)
    refine lv_iload_n hx hb dX7_lastStep_8 rfl (lv_at hl 2 rfl) ?_
    refine jv_if_le (tgt := 35) hx hb dX7_lastStep_9 (by decide) (by omega) (fun c_2 => ?_) (fun c_2 => ?_)
    · refine lv_iload_n hx hb dX7_lastStep_35 rfl (lv_at hl 2 rfl) ?_
      refine jv_if_le (tgt := 56) hx hb dX7_lastStep_36 (by decide) (by omega) (fun c_3 => ?_) (fun c_3 => ?_)
      · refine jv_iconst hx hb dX7_lastStep_56 ?_
        exact cret_i hx hb hr hlocks hS hP hD (Nat.le_of_ble_eq_true rfl) (Nat.le_of_ble_eq_true rfl) rfl dX7_lastStep_57 [0] (by decide) () rfl trivial (congrArg (fun z : Int => some (Value.int (jz z))) (show 3 = stp g g2 i j from by (have c9 := hco2); unfold stp; rw [if_neg (fun q => by have c8 := c9 q.1 q.2.1; omega), if_neg (fun q => by omega)])) hQ
      · refine lv_iload hx hb dX7_lastStep_39 (lv_at hl 0 rfl) ?_
        refine lv_aload_n hx hb dX7_lastStep_41 rfl (lv_at hl 1 rfl) ?_
        refine lv_iload_n hx hb dX7_lastStep_42 rfl (lv_at hl 2 rfl) ?_
        refine jv_iconst hx hb dX7_lastStep_43 ?_
        refine jv_isub hx hb dX7_lastStep_44 ?_
        refine lv_iload_n hx hb dX7_lastStep_45 rfl (lv_at hl 3 rfl) ?_
        refine kV ⟨hx, hb, hml, hown, hts⟩ hK hA hS hP hD [.int (jz (i - 1)), .int (jz j)] [.int (jz (h0 (i * 21 + j)))] (mX1_at l G q b h0 (i - 1) j (by omega) (by omega)) lkX7_37 [0] [] (br := []) rfl rfl (by decide) 0 1 rfl rfl rfl rfl (Nat.le_of_ble_eq_true rfl) hl.1 dX7_lastStep_46 ⟨Nat.le_of_ble_eq_true rfl, Nat.le_of_ble_eq_true rfl⟩ ⟨Nat.le_of_ble_eq_true rfl, Nat.le_of_ble_eq_true rfl⟩ (fun u9 H locs hp9 hP hD hS => ?_)
        have hP : wP G [bGrid G q b h0] H := hP
        have hD : wD A [bGrid G q b h0] := hD
        show W p l e rmX7_lastStep s m args below meth c H locs 0 0 Q (F0 m 49 ls [.int (jz (h0 ((i - 1) * 21 + j))), .int (jz (h0 (i * 21 + j)))])
        have d3 := D_bd (c := 1) (Or.inr rfl) g g2 (i := i - 1) (j := j) (by omega) (by omega)
        have e3 := hh (i - 1) j (by omega) (by omega) (by omega) (by omega)
        refine jv_iconst hx hb dX7_lastStep_49 ?_
        refine jv_iadd hx hb dX7_lastStep_50 ?_
        refine jv_icmp_ne (tgt := 56) hx hb dX7_lastStep_51 (by decide) (by omega) (by omega) (fun c_5 => ?_) (fun c_5 => ?_)
        · refine jv_iconst hx hb dX7_lastStep_56 ?_
          exact cret_i hx hb hr hlocks hS hP hD (Nat.le_of_ble_eq_true rfl) (Nat.le_of_ble_eq_true rfl) rfl dX7_lastStep_57 [0] (by decide) () rfl trivial (congrArg (fun z : Int => some (Value.int (jz z))) (show 3 = stp g g2 i j from by (have c9 := hco2); unfold stp; rw [if_neg (fun q => by have c8 := c9 q.1 q.2.1; omega), if_neg (fun q => by omega)])) hQ
        · refine jv_iconst hx hb dX7_lastStep_54 ?_
          exact cret_i hx hb hr hlocks hS hP hD (Nat.le_of_ble_eq_true rfl) (Nat.le_of_ble_eq_true rfl) rfl dX7_lastStep_55 [0] (by decide) () rfl trivial (congrArg (fun z : Int => some (Value.int (jz z))) (show 2 = stp g g2 i j from by (have c9 := hco2); unfold stp; rw [if_neg (fun q => by have c8 := c9 q.1 q.2.1; omega), if_pos ⟨by omega, by omega⟩])) hQ
    · refine lv_iload_n hx hb dX7_lastStep_12 rfl (lv_at hl 3 rfl) ?_
      refine jv_if_le (tgt := 35) hx hb dX7_lastStep_13 (by decide) (by omega) (fun c_6 => ?_) (fun c_6 => ?_)
      · refine lv_iload_n hx hb dX7_lastStep_35 rfl (lv_at hl 2 rfl) ?_
        refine jv_if_le (tgt := 56) hx hb dX7_lastStep_36 (by decide) (by omega) (fun c_7 => ?_) (fun c_7 => ?_)
        · refine jv_iconst hx hb dX7_lastStep_56 ?_
          exact cret_i hx hb hr hlocks hS hP hD (Nat.le_of_ble_eq_true rfl) (Nat.le_of_ble_eq_true rfl) rfl dX7_lastStep_57 [0] (by decide) () rfl trivial (congrArg (fun z : Int => some (Value.int (jz z))) (show 3 = stp g g2 i j from by (have c9 := hco2); unfold stp; rw [if_neg (fun q => by have c8 := c9 q.1 q.2.1; omega), if_neg (fun q => by omega)])) hQ
        · refine lv_iload hx hb dX7_lastStep_39 (lv_at hl 0 rfl) ?_
          refine lv_aload_n hx hb dX7_lastStep_41 rfl (lv_at hl 1 rfl) ?_
          refine lv_iload_n hx hb dX7_lastStep_42 rfl (lv_at hl 2 rfl) ?_
          refine jv_iconst hx hb dX7_lastStep_43 ?_
          refine jv_isub hx hb dX7_lastStep_44 ?_
          refine lv_iload_n hx hb dX7_lastStep_45 rfl (lv_at hl 3 rfl) ?_
          refine kV ⟨hx, hb, hml, hown, hts⟩ hK hA hS hP hD [.int (jz (i - 1)), .int (jz j)] [.int (jz (h0 (i * 21 + j)))] (mX1_at l G q b h0 (i - 1) j (by omega) (by omega)) lkX7_37 [0] [] (br := []) rfl rfl (by decide) 0 1 rfl rfl rfl rfl (Nat.le_of_ble_eq_true rfl) hl.1 dX7_lastStep_46 ⟨Nat.le_of_ble_eq_true rfl, Nat.le_of_ble_eq_true rfl⟩ ⟨Nat.le_of_ble_eq_true rfl, Nat.le_of_ble_eq_true rfl⟩ (fun u9 H locs hp9 hP hD hS => ?_)
          have hP : wP G [bGrid G q b h0] H := hP
          have hD : wD A [bGrid G q b h0] := hD
          show W p l e rmX7_lastStep s m args below meth c H locs 0 0 Q (F0 m 49 ls [.int (jz (h0 ((i - 1) * 21 + j))), .int (jz (h0 (i * 21 + j)))])
          have d3 := D_bd (c := 1) (Or.inr rfl) g g2 (i := i - 1) (j := j) (by omega) (by omega)
          have e3 := hh (i - 1) j (by omega) (by omega) (by omega) (by omega)
          refine jv_iconst hx hb dX7_lastStep_49 ?_
          refine jv_iadd hx hb dX7_lastStep_50 ?_
          refine jv_icmp_ne (tgt := 56) hx hb dX7_lastStep_51 (by decide) (by omega) (by omega) (fun c_9 => ?_) (fun c_9 => ?_)
          · refine jv_iconst hx hb dX7_lastStep_56 ?_
            exact cret_i hx hb hr hlocks hS hP hD (Nat.le_of_ble_eq_true rfl) (Nat.le_of_ble_eq_true rfl) rfl dX7_lastStep_57 [0] (by decide) () rfl trivial (congrArg (fun z : Int => some (Value.int (jz z))) (show 3 = stp g g2 i j from by (have c9 := hco2); unfold stp; rw [if_neg (fun q => by have c8 := c9 q.1 q.2.1; omega), if_neg (fun q => by omega)])) hQ
          · refine jv_iconst hx hb dX7_lastStep_54 ?_
            exact cret_i hx hb hr hlocks hS hP hD (Nat.le_of_ble_eq_true rfl) (Nat.le_of_ble_eq_true rfl) rfl dX7_lastStep_55 [0] (by decide) () rfl trivial (congrArg (fun z : Int => some (Value.int (jz z))) (show 2 = stp g g2 i j from by (have c9 := hco2); unfold stp; rw [if_neg (fun q => by have c8 := c9 q.1 q.2.1; omega), if_pos ⟨by omega, by omega⟩])) hQ
      · refine lv_iload hx hb dX7_lastStep_16 (lv_at hl 0 rfl) ?_
        refine lv_aload_n hx hb dX7_lastStep_18 rfl (lv_at hl 1 rfl) ?_
        refine lv_iload_n hx hb dX7_lastStep_19 rfl (lv_at hl 2 rfl) ?_
        refine jv_iconst hx hb dX7_lastStep_20 ?_
        refine jv_isub hx hb dX7_lastStep_21 ?_
        refine lv_iload_n hx hb dX7_lastStep_22 rfl (lv_at hl 3 rfl) ?_
        refine jv_iconst hx hb dX7_lastStep_23 ?_
        refine jv_isub hx hb dX7_lastStep_24 ?_
        refine kV ⟨hx, hb, hml, hown, hts⟩ hK hA hS hP hD [.int (jz (i - 1)), .int (jz (j - 1))] [.int (jz (h0 (i * 21 + j)))] (mX1_at l G q b h0 (i - 1) (j - 1) (by omega) (by omega)) lkX7_37 [0] [] (br := []) rfl rfl (by decide) 0 1 rfl rfl rfl rfl (Nat.le_of_ble_eq_true rfl) hl.1 dX7_lastStep_25 ⟨Nat.le_of_ble_eq_true rfl, Nat.le_of_ble_eq_true rfl⟩ ⟨Nat.le_of_ble_eq_true rfl, Nat.le_of_ble_eq_true rfl⟩ (fun u9 H locs hp9 hP hD hS => ?_)
        have hP : wP G [bGrid G q b h0] H := hP
        have hD : wD A [bGrid G q b h0] := hD
        show W p l e rmX7_lastStep s m args below meth c H locs 0 0 Q (F0 m 28 ls [.int (jz (h0 ((i - 1) * 21 + (j - 1)))), .int (jz (h0 (i * 21 + j)))])
        have d2 := D_bd (c := 1) (Or.inr rfl) g g2 (i := i - 1) (j := j - 1) (by omega) (by omega)
        have e2 := hh (i - 1) (j - 1) (by omega) (by omega) (by omega) (by omega)
        refine lv_iload_n hx hb dX7_lastStep_28 rfl (lv_at hl 4 rfl) ?_
        refine jv_iadd hx hb dX7_lastStep_29 ?_
        refine jv_icmp_ne (tgt := 35) hx hb dX7_lastStep_30 (by decide) (by omega) (by omega) (fun c_11 => ?_) (fun c_11 => ?_)
        · refine lv_iload_n hx hb dX7_lastStep_35 rfl (lv_at hl 2 rfl) ?_
          refine jv_if_le (tgt := 56) hx hb dX7_lastStep_36 (by decide) (by omega) (fun c_12 => ?_) (fun c_12 => ?_)
          · refine jv_iconst hx hb dX7_lastStep_56 ?_
            exact cret_i hx hb hr hlocks hS hP hD (Nat.le_of_ble_eq_true rfl) (Nat.le_of_ble_eq_true rfl) rfl dX7_lastStep_57 [0] (by decide) () rfl trivial (congrArg (fun z : Int => some (Value.int (jz z))) (show 3 = stp g g2 i j from by (have c9 := hco2); unfold stp; rw [if_neg (fun q => by have c8 := c9 q.1 q.2.1; omega), if_neg (fun q => by omega)])) hQ
          · refine lv_iload hx hb dX7_lastStep_39 (lv_at hl 0 rfl) ?_
            refine lv_aload_n hx hb dX7_lastStep_41 rfl (lv_at hl 1 rfl) ?_
            refine lv_iload_n hx hb dX7_lastStep_42 rfl (lv_at hl 2 rfl) ?_
            refine jv_iconst hx hb dX7_lastStep_43 ?_
            refine jv_isub hx hb dX7_lastStep_44 ?_
            refine lv_iload_n hx hb dX7_lastStep_45 rfl (lv_at hl 3 rfl) ?_
            refine kV ⟨hx, hb, hml, hown, hts⟩ hK hA hS hP hD [.int (jz (i - 1)), .int (jz j)] [.int (jz (h0 (i * 21 + j)))] (mX1_at l G q b h0 (i - 1) j (by omega) (by omega)) lkX7_37 [0] [] (br := []) rfl rfl (by decide) 0 1 rfl rfl rfl rfl (Nat.le_of_ble_eq_true rfl) hl.1 dX7_lastStep_46 ⟨Nat.le_of_ble_eq_true rfl, Nat.le_of_ble_eq_true rfl⟩ ⟨Nat.le_of_ble_eq_true rfl, Nat.le_of_ble_eq_true rfl⟩ (fun u9 H locs hp9 hP hD hS => ?_)
            have hP : wP G [bGrid G q b h0] H := hP
            have hD : wD A [bGrid G q b h0] := hD
            show W p l e rmX7_lastStep s m args below meth c H locs 0 0 Q (F0 m 49 ls [.int (jz (h0 ((i - 1) * 21 + j))), .int (jz (h0 (i * 21 + j)))])
            have d3 := D_bd (c := 1) (Or.inr rfl) g g2 (i := i - 1) (j := j) (by omega) (by omega)
            have e3 := hh (i - 1) j (by omega) (by omega) (by omega) (by omega)
            refine jv_iconst hx hb dX7_lastStep_49 ?_
            refine jv_iadd hx hb dX7_lastStep_50 ?_
            refine jv_icmp_ne (tgt := 56) hx hb dX7_lastStep_51 (by decide) (by omega) (by omega) (fun c_14 => ?_) (fun c_14 => ?_)
            · refine jv_iconst hx hb dX7_lastStep_56 ?_
              exact cret_i hx hb hr hlocks hS hP hD (Nat.le_of_ble_eq_true rfl) (Nat.le_of_ble_eq_true rfl) rfl dX7_lastStep_57 [0] (by decide) () rfl trivial (congrArg (fun z : Int => some (Value.int (jz z))) (show 3 = stp g g2 i j from by (have c9 := hco2); unfold stp; rw [if_neg (fun q => by have c8 := c9 q.1 q.2.1; omega), if_neg (fun q => by omega)])) hQ
            · refine jv_iconst hx hb dX7_lastStep_54 ?_
              exact cret_i hx hb hr hlocks hS hP hD (Nat.le_of_ble_eq_true rfl) (Nat.le_of_ble_eq_true rfl) rfl dX7_lastStep_55 [0] (by decide) () rfl trivial (congrArg (fun z : Int => some (Value.int (jz z))) (show 2 = stp g g2 i j from by (have c9 := hco2); unfold stp; rw [if_neg (fun q => by have c8 := c9 q.1 q.2.1; omega), if_pos ⟨by omega, by omega⟩])) hQ
        · refine lv_iload_n hx hb dX7_lastStep_33 rfl (lv_at hl 4 rfl) ?_
          exact cret_i hx hb hr hlocks hS hP hD (Nat.le_of_ble_eq_true rfl) (Nat.le_of_ble_eq_true rfl) rfl dX7_lastStep_34 [0] (by decide) () rfl trivial (congrArg (fun z : Int => some (Value.int (jz z))) (show co = stp g g2 i j from by (have c9 := hco2 (by omega) (by omega)); unfold stp; rw [if_pos ⟨by omega, by omega, by omega⟩]; exact c9)) hQ
  exact KH s.heap [] hP hD hS
abbrev rmX7_find : Room := { frames := 3, cells := 0, slots := 0, locals := 67 }
set_option maxHeartbeats 4000000 in
set_option maxRecDepth 100000 in
theorem mX7_find (l : Launch) (G : GG) (w : Nat) (v : Nat) (k : Int) (h : Int → Int) (q : Nat) (b : Nat) (h0 : Int → Int) (t : Nat) (a : Nat) (n : Int) (g : Int → Int) (t2 : Nat) (a2 : Nat) (n2 : Int) (g2 : Int → Int) (hn : 0 ≤ n ∧ n ≤ 20) (hn2 : 0 ≤ n2 ∧ n2 ≤ 20) (hg : ∀ j : Int, 0 ≤ j → j < n → 0 ≤ g j ∧ g j < 4) (hg2 : ∀ j : Int, 0 ≤ j → j < n2 → 0 ≤ g2 j ∧ g2 j < 4) (hh : ∀ x y : Int, 0 ≤ x → x ≤ n → 0 ≤ y → y ≤ n2 → h0 (x * 21 + y) = D 1 g g2 x y) : Ct l yX7_find cX7_find 7 none rmX7_find G [.ref w, .ref q, .ref t, .ref t2] [bWay G w v k h, bGrid G q b h0, bText G t a n g, bText G t2 a2 n2 g2] (fun uo : (Int → Int) => none) (fun uo => (∀ x : Int, 0 ≤ x → x < wL g g2 n n2 → uo x = wA g g2 n n2 x)) (fun uo => [bWay G w v (wL g g2 n n2) uo, bGrid G q b h0, bText G t a n g, bText G t2 a2 n2 g2]) := by
  refine cof (by decide) (Nat.le_of_ble_eq_true rfl) ?_
  intro p e s m args below meth c A ls hx hb hr hml hown hts hlocks hin hA hK hP hD hS hl Q hQ
  have hown : s.vm.findClass RX7 = some m.cls := hown
  have hl : lv_has ls 7 [(0, .ref w), (1, .ref q), (2, .ref t), (3, .ref t2)] := hl
  have KH : ∀ (H : Heap) (locs : List Loc), wP G [bWay G w v k h, bGrid G q b h0, bText G t a n g, bText G t2 a2 n2 g2] H → wD A [bWay G w v k h, bGrid G q b h0, bText G t a n g, bText G t2 a2 n2 g2] → va_S A s.heap H locs → W p l e rmX7_find s m args below meth c H locs 0 0 Q (F0 m 0 ls []) := by
    intro H locs hP hD hS
    refine lv_aload_n hx hb dX7_find_0 rfl (lv_at hl 2 rfl) ?_
    refine kV ⟨hx, hb, hml, hown, hts⟩ hK hA hS hP hD [] [] (mX6_size l G t a n g ) lkX7_23 [2] [0, 1, 3] (br := [bWay G w v k h, bGrid G q b h0, bText G t2 a2 n2 g2]) rfl rfl (by decide) 0 6 rfl rfl rfl rfl (Nat.le_of_ble_eq_true rfl) hl.1 dX7_find_1 ⟨Nat.le_of_ble_eq_true rfl, Nat.le_of_ble_eq_true rfl⟩ ⟨Nat.le_of_ble_eq_true rfl, Nat.le_of_ble_eq_true rfl⟩ (fun u9 H locs hp9 hP hD hS => ?_)
    have hP : wP G [bWay G w v k h, bGrid G q b h0, bText G t2 a2 n2 g2, bText G t a n g] H := hP
    have hD : wD A [bWay G w v k h, bGrid G q b h0, bText G t2 a2 n2 g2, bText G t a n g] := hD
    show W p l e rmX7_find s m args below meth c H locs 0 0 Q (F0 m 4 ls [.int (jz n)])
    refine lv_istore (lv' := [(4, .int (jz n)), (0, .ref w), (1, .ref q), (2, .ref t), (3, .ref t2)]) hx hb dX7_find_4 hl (by decide) rfl (fun ls hl => ?_)
    refine lv_aload_n hx hb dX7_find_6 rfl (lv_at hl 4 rfl) ?_
    refine kV ⟨hx, hb, hml, hown, hts⟩ hK hA hS hP hD [] [] (mX6_size l G t2 a2 n2 g2 ) lkX7_23 [2] [0, 1, 3] (br := [bWay G w v k h, bGrid G q b h0, bText G t a n g]) rfl rfl (by decide) 0 6 rfl rfl rfl rfl (Nat.le_of_ble_eq_true rfl) hl.1 dX7_find_7 ⟨Nat.le_of_ble_eq_true rfl, Nat.le_of_ble_eq_true rfl⟩ ⟨Nat.le_of_ble_eq_true rfl, Nat.le_of_ble_eq_true rfl⟩ (fun u9 H locs hp9 hP hD hS => ?_)
    have hP : wP G [bWay G w v k h, bGrid G q b h0, bText G t a n g, bText G t2 a2 n2 g2] H := hP
    have hD : wD A [bWay G w v k h, bGrid G q b h0, bText G t a n g, bText G t2 a2 n2 g2] := hD
    show W p l e rmX7_find s m args below meth c H locs 0 0 Q (F0 m 10 ls [.int (jz n2)])
    refine lv_istore (lv' := [(5, .int (jz n2)), (4, .int (jz n)), (0, .ref w), (1, .ref q), (2, .ref t), (3, .ref t2)]) hx hb dX7_find_10 hl (by decide) rfl (fun ls hl => ?_)
    refine lv_aload_n hx hb dX7_find_12 rfl (lv_at hl 2 rfl) ?_
    refine jv_iconst hx hb dX7_find_13 ?_
    refine va_put (ci := 7) (v := .int (jz 0)) (ty := .int) (C := RX7) (T := TX7) (N := 2) hx hb hts wfX7 tyX7 tyX7_ok nmX7 hown hK.1 hP hD hS 0 rfl rfl 1 (by decide) (hts _ wm114) (fun _ h9 => h9) rfl (by decide +kernel) rfl rfl (Nat.le_of_ble_eq_true rfl) dX7_find_14 (fun H locs hP hD hS => ?_)
    have hP : wP G [bWay G w v 0 h, bGrid G q b h0, bText G t a n g, bText G t2 a2 n2 g2] H := hP
    have hD : wD A [bWay G w v 0 h, bGrid G q b h0, bText G t a n g, bText G t2 a2 n2 g2] := hD
    have K17 : ∀ (n9 : Nat) (i : Int) (j : Int) (z : Int) (f : Int → Int) , ((i + j).toNat) < n9 → (wInv g g2 n n2 z i j) → (z = 0 ∨ z.toNat ≤ (way g g2 n n2).length) → (∀ x : Int, 0 ≤ x → x < z → f x = wA g g2 n n2 x) → ∀ (H : Heap) (locs : List Loc) (ls : Array Slot), wP G [bWay G w v z f, bGrid G q b h0, bText G t a n g, bText G t2 a2 n2 g2] H → wD A [bWay G w v z f, bGrid G q b h0, bText G t a n g, bText G t2 a2 n2 g2] → va_S A s.heap H locs → lv_has ls 7 [(0, .ref w), (1, .ref q), (2, .ref t), (3, .ref t2), (4, .int (jz i)), (5, .int (jz j))] → W p l e rmX7_find s m args below meth c H locs 0 0 Q (F0 m 17 ls []) := by
      intro n9
      induction n9 with
      | zero => intro i j z f hm9; exact absurd hm9 (Nat.not_lt_zero _)
      | succ n9 ih17 =>
        intro i j z f hm9 hw hz hf H locs ls hP hD hS hl
        have hw9 := hw
        obtain ⟨w1, w2, w3, w4, w5, w6, -⟩ := hw9
        refine lv_iload hx hb dX7_find_17 (lv_at hl 4 rfl) ?_
        refine jv_if_gt (tgt := 27) hx hb dX7_find_19 (by decide) (by omega) (fun c_3 => ?_) (fun c_3 => ?_)
        · have hij : 0 < i ∨ 0 < j := by omega
          obtain ⟨hs1, hs2, hs3, hstep⟩ := wInv_step hw hij
          have hsb := stp_bd (a := g) (b := g2) w2 w3 hij
          refine lv_aload_n hx hb dX7_find_27 rfl (lv_at hl 0 rfl) ?_
          refine va_get (ci := 7) (v := .int (jz z)) (C := RX7) (T := TX7) (N := 2) hx hb hts wfX7 hown hK.1 hP 0 rfl rfl 1 (by decide) (hts _ wm114) (fun _ h9 => h9) rfl dX7_find_28 ?_
          refine jv_bipush hx hb dX7_find_31 (by decide) ?_
          refine jv_icmp_ge (tgt := 107) hx hb dX7_find_33 (by decide) (by omega) (by omega) (fun c_4 => ?_) (fun c_4 => ?_)
          · exfalso; omega
          · refine lv_aload_n hx hb dX7_find_36 rfl (lv_at hl 1 rfl) ?_
            refine lv_iload hx hb dX7_find_37 (lv_at hl 4 rfl) ?_
            refine lv_iload hx hb dX7_find_39 (lv_at hl 5 rfl) ?_
            refine lv_aload_n hx hb dX7_find_41 rfl (lv_at hl 2 rfl) ?_
            refine lv_iload hx hb dX7_find_42 (lv_at hl 4 rfl) ?_
            refine jv_iconst hx hb dX7_find_44 ?_
            refine jv_isub hx hb dX7_find_45 ?_
            refine kV ⟨hx, hb, hml, hown, hts⟩ hK hA hS hP hD [.int (jz (i - 1))] [.int (jz j), .int (jz i), .ref q] (mX6_at l G t a n g (i - 1) (by omega) (by omega)) lkX7_28 [2] [0, 1, 3] (br := [bWay G w v z f, bGrid G q b h0, bText G t2 a2 n2 g2]) rfl rfl (by decide) 0 6 rfl rfl rfl rfl (Nat.le_of_ble_eq_true rfl) hl.1 dX7_find_46 ⟨Nat.le_of_ble_eq_true rfl, Nat.le_of_ble_eq_true rfl⟩ ⟨Nat.le_of_ble_eq_true rfl, Nat.le_of_ble_eq_true rfl⟩ (fun u9 H locs hp9 hP hD hS => ?_)
            have hP : wP G [bWay G w v z f, bGrid G q b h0, bText G t2 a2 n2 g2, bText G t a n g] H := hP
            have hD : wD A [bWay G w v z f, bGrid G q b h0, bText G t2 a2 n2 g2, bText G t a n g] := hD
            show W p l e rmX7_find s m args below meth c H locs 0 0 Q (F0 m 49 ls [.int (jz (if 0 ≤ (i - 1) ∧ (i - 1) < n then g (i - 1) else -1)), .int (jz j), .int (jz i), .ref q])
            refine jv_top (fun x_6 ex_6 => ?_)
            have bx : -1 ≤ x_6 ∧ x_6 ≤ 3 := by rw [ex_6]; split <;> first | omega | (have q9 := hg (i - 1) (by omega) (by omega); omega)
            refine lv_aload_n hx hb dX7_find_49 rfl (lv_at hl 3 rfl) ?_
            refine lv_iload hx hb dX7_find_50 (lv_at hl 5 rfl) ?_
            refine jv_iconst hx hb dX7_find_52 ?_
            refine jv_isub hx hb dX7_find_53 ?_
            refine kV ⟨hx, hb, hml, hown, hts⟩ hK hA hS hP hD [.int (jz (j - 1))] [.int (jz x_6), .int (jz j), .int (jz i), .ref q] (mX6_at l G t2 a2 n2 g2 (j - 1) (by omega) (by omega)) lkX7_28 [2] [0, 1, 3] (br := [bWay G w v z f, bGrid G q b h0, bText G t a n g]) rfl rfl (by decide) 0 6 rfl rfl rfl rfl (Nat.le_of_ble_eq_true rfl) hl.1 dX7_find_54 ⟨Nat.le_of_ble_eq_true rfl, Nat.le_of_ble_eq_true rfl⟩ ⟨Nat.le_of_ble_eq_true rfl, Nat.le_of_ble_eq_true rfl⟩ (fun u9 H locs hp9 hP hD hS => ?_)
            have hP : wP G [bWay G w v z f, bGrid G q b h0, bText G t a n g, bText G t2 a2 n2 g2] H := hP
            have hD : wD A [bWay G w v z f, bGrid G q b h0, bText G t a n g, bText G t2 a2 n2 g2] := hD
            show W p l e rmX7_find s m args below meth c H locs 0 0 Q (F0 m 57 ls [.int (jz (if 0 ≤ (j - 1) ∧ (j - 1) < n2 then g2 (j - 1) else -1)), .int (jz x_6), .int (jz j), .int (jz i), .ref q])
            refine jv_top (fun y_8 ey_8 => ?_)
            have by9 : -1 ≤ y_8 ∧ y_8 ≤ 3 := by rw [ey_8]; split <;> first | omega | (have q9 := hg2 (j - 1) (by omega) (by omega); omega)
            refine kSN ⟨hx, hb, hml, hown, hts⟩ hK hA hS hP hD [.int (jz x_6), .int (jz y_8)] [.int (jz j), .int (jz i), .ref q] (mX8_replaceCost l G x_6 y_8 (by omega) (by omega)) lkX7_29 [] [0, 1, 2, 3] (br := [bWay G w v z f, bGrid G q b h0, bText G t a n g, bText G t2 a2 n2 g2]) rfl rfl (by decide) rfl rfl (Nat.le_of_ble_eq_true rfl) hl.1 dX7_find_57 ⟨Nat.le_of_ble_eq_true rfl, Nat.le_of_ble_eq_true rfl⟩ ⟨Nat.le_of_ble_eq_true rfl, Nat.le_of_ble_eq_true rfl⟩ (fun u9 H locs hp9 hP hD hS => ?_)
            have hP : wP G [bWay G w v z f, bGrid G q b h0, bText G t a n g, bText G t2 a2 n2 g2] H := hP
            have hD : wD A [bWay G w v z f, bGrid G q b h0, bText G t a n g, bText G t2 a2 n2 g2] := hD
            show W p l e rmX7_find s m args below meth c H locs 0 0 Q (F0 m 60 ls [.int (jz (cst x_6 y_8)), .int (jz j), .int (jz i), .ref q])
            have bc9 := cst_bd x_6 y_8
            refine kS ⟨hx, hb, hml, hown, hts⟩ hK hA hS hP hD [.ref q, .int (jz i), .int (jz j), .int (jz (cst x_6 y_8))] [] (mX7_lastStep l G q b h0 i j (cst x_6 y_8) n n2 g g2 (by omega) (by omega) (by omega) (by omega) (by omega) (by omega) (by intro q1 q2; rw [ex_6, ey_8, if_pos ⟨by omega, by omega⟩, if_pos ⟨by omega, by omega⟩]) hh) lkX7_33 [1] [0, 2, 3] (br := [bWay G w v z f, bText G t a n g, bText G t2 a2 n2 g2]) rfl rfl (by decide) rfl rfl (Nat.le_of_ble_eq_true rfl) hl.1 dX7_find_60 ⟨Nat.le_of_ble_eq_true rfl, Nat.le_of_ble_eq_true rfl⟩ ⟨Nat.le_of_ble_eq_true rfl, Nat.le_of_ble_eq_true rfl⟩ (fun u9 H locs hp9 hP hD hS => ?_)
            have hP : wP G [bWay G w v z f, bText G t a n g, bText G t2 a2 n2 g2, bGrid G q b h0] H := hP
            have hD : wD A [bWay G w v z f, bText G t a n g, bText G t2 a2 n2 g2, bGrid G q b h0] := hD
            show W p l e rmX7_find s m args below meth c H locs 0 0 Q (F0 m 63 ls [.int (jz (stp g g2 i j))])
            refine jv_top (fun r_11 er_11 => ?_)
            have bs9 : 0 ≤ r_11 ∧ r_11 ≤ 3 := by rw [er_11]; omega
            refine lv_istore (lv' := [(6, .int (jz r_11)), (0, .ref w), (1, .ref q), (2, .ref t), (3, .ref t2), (4, .int (jz i)), (5, .int (jz j))]) hx hb dX7_find_63 hl (by decide) rfl (fun ls hl => ?_)
            refine lv_aload_n hx hb dX7_find_65 rfl (lv_at hl 1 rfl) ?_
            refine va_get (ci := 7) (v := .ref v) (C := RX7) (T := TX7) (N := 2) hx hb hts wfX7 hown hK.1 hP 0 rfl rfl 0 (by decide) (hts _ wm113) (fun _ h9 => h9) rfl dX7_find_66 ?_
            refine lv_aload_n hx hb dX7_find_69 rfl (lv_at hl 1 rfl) ?_
            refine va_get (ci := 7) (v := .int (jz z)) (C := RX7) (T := TX7) (N := 2) hx hb hts wfX7 hown hK.1 hP 0 rfl rfl 1 (by decide) (hts _ wm114) (fun _ h9 => h9) rfl dX7_find_70 ?_
            refine lv_iload hx hb dX7_find_73 (lv_at hl 0 rfl) ?_
            refine jv_iast hx hb hK.1 hP hD hS 1 (g := f) rfl (by omega) (by omega) (by decide) dX7_find_75 (fun H locs hP hD hS => ?_)
            have hP : wP G [bWay G w v z (up f z r_11), bText G t a n g, bText G t2 a2 n2 g2, bGrid G q b h0] H := hP
            have hD : wD A [bWay G w v z (up f z r_11), bText G t a n g, bText G t2 a2 n2 g2, bGrid G q b h0] := hD
            refine lv_aload_n hx hb dX7_find_76 rfl (lv_at hl 1 rfl) ?_
            refine lv_dup hx hb dX7_find_77 rfl ?_
            refine va_get (ci := 7) (v := .int (jz z)) (C := RX7) (T := TX7) (N := 2) hx hb hts wfX7 hown hK.1 hP 0 rfl rfl 1 (by decide) (hts _ wm114) (fun _ h9 => h9) rfl dX7_find_78 ?_
            refine jv_iconst hx hb dX7_find_81 ?_
            refine jv_iadd hx hb dX7_find_82 ?_
            refine va_put (ci := 7) (v := .int (jz (z + 1))) (ty := .int) (C := RX7) (T := TX7) (N := 2) hx hb hts wfX7 tyX7 tyX7_ok nmX7 hown hK.1 hP hD hS 0 rfl rfl 1 (by decide) (hts _ wm114) (fun _ h9 => h9) rfl (by decide +kernel) rfl rfl (Nat.le_of_ble_eq_true rfl) dX7_find_83 (fun H locs hP hD hS => ?_)
            have hP : wP G [bWay G w v (z + 1) (up f z r_11), bText G t a n g, bText G t2 a2 n2 g2, bGrid G q b h0] H := hP
            have hD : wD A [bWay G w v (z + 1) (up f z r_11), bText G t a n g, bText G t2 a2 n2 g2, bGrid G q b h0] := hD
            refine lv_iload hx hb dX7_find_86 (lv_at hl 0 rfl) ?_
            refine jv_iconst hx hb dX7_find_88 ?_
            refine jv_icmp_eq (tgt := 95) hx hb dX7_find_89 (by decide) (by omega) (by omega) (fun c_12 => ?_) (fun c_12 => ?_)
            · refine lv_iload hx hb dX7_find_95 (lv_at hl 0 rfl) ?_
              refine jv_iconst hx hb dX7_find_97 ?_
              refine jv_icmp_eq (tgt := 104) hx hb dX7_find_98 (by decide) (by omega) (by omega) (fun c_13 => ?_) (fun c_13 => ?_)
              · refine lv_goto (tgt := 17) hx hb dX7_find_104 (by decide) ?_
                exact ih17 i j (z + 1) (up f z r_11) (by omega) (by have q9 := hstep; rw [← er_11] at q9; first | (exfalso; omega) | (rw [if_pos (by omega), if_neg (by omega)] at q9; exact q9) | (rw [if_neg (by omega), if_pos (by omega)] at q9; exact q9) | (rw [if_neg (by omega), if_neg (by omega)] at q9; exact q9)) (by omega) (by intro x h1 h2; unfold up; if e1 : x = z then (rw [if_pos e1, e1, hs3]; exact er_11) else (rw [if_neg e1]; exact hf x h1 (by omega))) H _ _ (wP_sub (bc := [bWay G w v (z + 1) (up f z r_11), bGrid G q b h0, bText G t a n g, bText G t2 a2 n2 g2]) hP [0, 3, 1, 2] rfl) (wD_sub (bc := [bWay G w v (z + 1) (up f z r_11), bGrid G q b h0, bText G t a n g, bText G t2 a2 n2 g2]) hD [0, 3, 1, 2] (by decide) rfl) hS (lv_sub hl [1, 2, 3, 4, 5, 6] rfl)
              · refine jv_iinc (lv' := [(5, .int (jz (j + (-1)))), (6, .int (jz r_11)), (0, .ref w), (1, .ref q), (2, .ref t), (3, .ref t2), (4, .int (jz i))]) (k := 6) hx hb dX7_find_101 hl rfl (by decide) rfl (fun ls hl => ?_)
                refine lv_goto (tgt := 17) hx hb dX7_find_104 (by decide) ?_
                exact ih17 i (j + (-1)) (z + 1) (up f z r_11) (by omega) (by have q9 := hstep; rw [← er_11] at q9; first | (exfalso; omega) | (rw [if_pos (by omega), if_neg (by omega)] at q9; exact q9) | (rw [if_neg (by omega), if_pos (by omega)] at q9; exact q9) | (rw [if_neg (by omega), if_neg (by omega)] at q9; exact q9)) (by omega) (by intro x h1 h2; unfold up; if e1 : x = z then (rw [if_pos e1, e1, hs3]; exact er_11) else (rw [if_neg e1]; exact hf x h1 (by omega))) H _ _ (wP_sub (bc := [bWay G w v (z + 1) (up f z r_11), bGrid G q b h0, bText G t a n g, bText G t2 a2 n2 g2]) hP [0, 3, 1, 2] rfl) (wD_sub (bc := [bWay G w v (z + 1) (up f z r_11), bGrid G q b h0, bText G t a n g, bText G t2 a2 n2 g2]) hD [0, 3, 1, 2] (by decide) rfl) hS (lv_sub hl [2, 3, 4, 5, 6, 0] rfl)
            · refine jv_iinc (lv' := [(4, .int (jz (i + (-1)))), (6, .int (jz r_11)), (0, .ref w), (1, .ref q), (2, .ref t), (3, .ref t2), (5, .int (jz j))]) (k := 5) hx hb dX7_find_92 hl rfl (by decide) rfl (fun ls hl => ?_)
              refine lv_iload hx hb dX7_find_95 (lv_at hl 1 rfl) ?_
              refine jv_iconst hx hb dX7_find_97 ?_
              refine jv_icmp_eq (tgt := 104) hx hb dX7_find_98 (by decide) (by omega) (by omega) (fun c_14 => ?_) (fun c_14 => ?_)
              · refine lv_goto (tgt := 17) hx hb dX7_find_104 (by decide) ?_
                exact ih17 (i + (-1)) j (z + 1) (up f z r_11) (by omega) (by have q9 := hstep; rw [← er_11] at q9; first | (exfalso; omega) | (rw [if_pos (by omega), if_neg (by omega)] at q9; exact q9) | (rw [if_neg (by omega), if_pos (by omega)] at q9; exact q9) | (rw [if_neg (by omega), if_neg (by omega)] at q9; exact q9)) (by omega) (by intro x h1 h2; unfold up; if e1 : x = z then (rw [if_pos e1, e1, hs3]; exact er_11) else (rw [if_neg e1]; exact hf x h1 (by omega))) H _ _ (wP_sub (bc := [bWay G w v (z + 1) (up f z r_11), bGrid G q b h0, bText G t a n g, bText G t2 a2 n2 g2]) hP [0, 3, 1, 2] rfl) (wD_sub (bc := [bWay G w v (z + 1) (up f z r_11), bGrid G q b h0, bText G t a n g, bText G t2 a2 n2 g2]) hD [0, 3, 1, 2] (by decide) rfl) hS (lv_sub hl [2, 3, 4, 5, 0, 6] rfl)
              · refine jv_iinc (lv' := [(5, .int (jz (j + (-1)))), (4, .int (jz (i + (-1)))), (6, .int (jz r_11)), (0, .ref w), (1, .ref q), (2, .ref t), (3, .ref t2)]) (k := 6) hx hb dX7_find_101 hl rfl (by decide) rfl (fun ls hl => ?_)
                refine lv_goto (tgt := 17) hx hb dX7_find_104 (by decide) ?_
                exact ih17 (i + (-1)) (j + (-1)) (z + 1) (up f z r_11) (by omega) (by have q9 := hstep; rw [← er_11] at q9; first | (exfalso; omega) | (rw [if_pos (by omega), if_neg (by omega)] at q9; exact q9) | (rw [if_neg (by omega), if_pos (by omega)] at q9; exact q9) | (rw [if_neg (by omega), if_neg (by omega)] at q9; exact q9)) (by omega) (by intro x h1 h2; unfold up; if e1 : x = z then (rw [if_pos e1, e1, hs3]; exact er_11) else (rw [if_neg e1]; exact hf x h1 (by omega))) H _ _ (wP_sub (bc := [bWay G w v (z + 1) (up f z r_11), bGrid G q b h0, bText G t a n g, bText G t2 a2 n2 g2]) hP [0, 3, 1, 2] rfl) (wD_sub (bc := [bWay G w v (z + 1) (up f z r_11), bGrid G q b h0, bText G t a n g, bText G t2 a2 n2 g2]) hD [0, 3, 1, 2] (by decide) rfl) hS (lv_sub hl [3, 4, 5, 6, 1, 0] rfl)
        · refine lv_iload hx hb dX7_find_22 (lv_at hl 5 rfl) ?_
          refine jv_if_le (tgt := 107) hx hb dX7_find_24 (by decide) (by omega) (fun c_15 => ?_) (fun c_15 => ?_)
          · have hze : z = wL g g2 n n2 := wInv_end hw (by omega) (by omega) hz
            subst hze
            exact cret_v hx hb hr hlocks hS hP hD (Nat.le_of_ble_eq_true rfl) (Nat.le_of_ble_eq_true rfl) dX7_find_107 [0, 1, 2, 3] (by decide) f rfl hf rfl hQ
          · have hij : 0 < i ∨ 0 < j := by omega
            obtain ⟨hs1, hs2, hs3, hstep⟩ := wInv_step hw hij
            have hsb := stp_bd (a := g) (b := g2) w2 w3 hij
            refine lv_aload_n hx hb dX7_find_27 rfl (lv_at hl 0 rfl) ?_
            refine va_get (ci := 7) (v := .int (jz z)) (C := RX7) (T := TX7) (N := 2) hx hb hts wfX7 hown hK.1 hP 0 rfl rfl 1 (by decide) (hts _ wm114) (fun _ h9 => h9) rfl dX7_find_28 ?_
            refine jv_bipush hx hb dX7_find_31 (by decide) ?_
            refine jv_icmp_ge (tgt := 107) hx hb dX7_find_33 (by decide) (by omega) (by omega) (fun c_16 => ?_) (fun c_16 => ?_)
            · exfalso; omega
            · refine lv_aload_n hx hb dX7_find_36 rfl (lv_at hl 1 rfl) ?_
              refine lv_iload hx hb dX7_find_37 (lv_at hl 4 rfl) ?_
              refine lv_iload hx hb dX7_find_39 (lv_at hl 5 rfl) ?_
              refine lv_aload_n hx hb dX7_find_41 rfl (lv_at hl 2 rfl) ?_
              refine lv_iload hx hb dX7_find_42 (lv_at hl 4 rfl) ?_
              refine jv_iconst hx hb dX7_find_44 ?_
              refine jv_isub hx hb dX7_find_45 ?_
              refine kV ⟨hx, hb, hml, hown, hts⟩ hK hA hS hP hD [.int (jz (i - 1))] [.int (jz j), .int (jz i), .ref q] (mX6_at l G t a n g (i - 1) (by omega) (by omega)) lkX7_28 [2] [0, 1, 3] (br := [bWay G w v z f, bGrid G q b h0, bText G t2 a2 n2 g2]) rfl rfl (by decide) 0 6 rfl rfl rfl rfl (Nat.le_of_ble_eq_true rfl) hl.1 dX7_find_46 ⟨Nat.le_of_ble_eq_true rfl, Nat.le_of_ble_eq_true rfl⟩ ⟨Nat.le_of_ble_eq_true rfl, Nat.le_of_ble_eq_true rfl⟩ (fun u9 H locs hp9 hP hD hS => ?_)
              have hP : wP G [bWay G w v z f, bGrid G q b h0, bText G t2 a2 n2 g2, bText G t a n g] H := hP
              have hD : wD A [bWay G w v z f, bGrid G q b h0, bText G t2 a2 n2 g2, bText G t a n g] := hD
              show W p l e rmX7_find s m args below meth c H locs 0 0 Q (F0 m 49 ls [.int (jz (if 0 ≤ (i - 1) ∧ (i - 1) < n then g (i - 1) else -1)), .int (jz j), .int (jz i), .ref q])
              refine jv_top (fun x_18 ex_18 => ?_)
              have bx : -1 ≤ x_18 ∧ x_18 ≤ 3 := by rw [ex_18]; split <;> first | omega | (have q9 := hg (i - 1) (by omega) (by omega); omega)
              refine lv_aload_n hx hb dX7_find_49 rfl (lv_at hl 3 rfl) ?_
              refine lv_iload hx hb dX7_find_50 (lv_at hl 5 rfl) ?_
              refine jv_iconst hx hb dX7_find_52 ?_
              refine jv_isub hx hb dX7_find_53 ?_
              refine kV ⟨hx, hb, hml, hown, hts⟩ hK hA hS hP hD [.int (jz (j - 1))] [.int (jz x_18), .int (jz j), .int (jz i), .ref q] (mX6_at l G t2 a2 n2 g2 (j - 1) (by omega) (by omega)) lkX7_28 [2] [0, 1, 3] (br := [bWay G w v z f, bGrid G q b h0, bText G t a n g]) rfl rfl (by decide) 0 6 rfl rfl rfl rfl (Nat.le_of_ble_eq_true rfl) hl.1 dX7_find_54 ⟨Nat.le_of_ble_eq_true rfl, Nat.le_of_ble_eq_true rfl⟩ ⟨Nat.le_of_ble_eq_true rfl, Nat.le_of_ble_eq_true rfl⟩ (fun u9 H locs hp9 hP hD hS => ?_)
              have hP : wP G [bWay G w v z f, bGrid G q b h0, bText G t a n g, bText G t2 a2 n2 g2] H := hP
              have hD : wD A [bWay G w v z f, bGrid G q b h0, bText G t a n g, bText G t2 a2 n2 g2] := hD
              show W p l e rmX7_find s m args below meth c H locs 0 0 Q (F0 m 57 ls [.int (jz (if 0 ≤ (j - 1) ∧ (j - 1) < n2 then g2 (j - 1) else -1)), .int (jz x_18), .int (jz j), .int (jz i), .ref q])
              refine jv_top (fun y_20 ey_20 => ?_)
              have by9 : -1 ≤ y_20 ∧ y_20 ≤ 3 := by rw [ey_20]; split <;> first | omega | (have q9 := hg2 (j - 1) (by omega) (by omega); omega)
              refine kSN ⟨hx, hb, hml, hown, hts⟩ hK hA hS hP hD [.int (jz x_18), .int (jz y_20)] [.int (jz j), .int (jz i), .ref q] (mX8_replaceCost l G x_18 y_20 (by omega) (by omega)) lkX7_29 [] [0, 1, 2, 3] (br := [bWay G w v z f, bGrid G q b h0, bText G t a n g, bText G t2 a2 n2 g2]) rfl rfl (by decide) rfl rfl (Nat.le_of_ble_eq_true rfl) hl.1 dX7_find_57 ⟨Nat.le_of_ble_eq_true rfl, Nat.le_of_ble_eq_true rfl⟩ ⟨Nat.le_of_ble_eq_true rfl, Nat.le_of_ble_eq_true rfl⟩ (fun u9 H locs hp9 hP hD hS => ?_)
              have hP : wP G [bWay G w v z f, bGrid G q b h0, bText G t a n g, bText G t2 a2 n2 g2] H := hP
              have hD : wD A [bWay G w v z f, bGrid G q b h0, bText G t a n g, bText G t2 a2 n2 g2] := hD
              show W p l e rmX7_find s m args below meth c H locs 0 0 Q (F0 m 60 ls [.int (jz (cst x_18 y_20)), .int (jz j), .int (jz i), .ref q])
              have bc9 := cst_bd x_18 y_20
              refine kS ⟨hx, hb, hml, hown, hts⟩ hK hA hS hP hD [.ref q, .int (jz i), .int (jz j), .int (jz (cst x_18 y_20))] [] (mX7_lastStep l G q b h0 i j (cst x_18 y_20) n n2 g g2 (by omega) (by omega) (by omega) (by omega) (by omega) (by omega) (by intro q1 q2; rw [ex_18, ey_20, if_pos ⟨by omega, by omega⟩, if_pos ⟨by omega, by omega⟩]) hh) lkX7_33 [1] [0, 2, 3] (br := [bWay G w v z f, bText G t a n g, bText G t2 a2 n2 g2]) rfl rfl (by decide) rfl rfl (Nat.le_of_ble_eq_true rfl) hl.1 dX7_find_60 ⟨Nat.le_of_ble_eq_true rfl, Nat.le_of_ble_eq_true rfl⟩ ⟨Nat.le_of_ble_eq_true rfl, Nat.le_of_ble_eq_true rfl⟩ (fun u9 H locs hp9 hP hD hS => ?_)
              have hP : wP G [bWay G w v z f, bText G t a n g, bText G t2 a2 n2 g2, bGrid G q b h0] H := hP
              have hD : wD A [bWay G w v z f, bText G t a n g, bText G t2 a2 n2 g2, bGrid G q b h0] := hD
              show W p l e rmX7_find s m args below meth c H locs 0 0 Q (F0 m 63 ls [.int (jz (stp g g2 i j))])
              refine jv_top (fun r_23 er_23 => ?_)
              have bs9 : 0 ≤ r_23 ∧ r_23 ≤ 3 := by rw [er_23]; omega
              refine lv_istore (lv' := [(6, .int (jz r_23)), (0, .ref w), (1, .ref q), (2, .ref t), (3, .ref t2), (4, .int (jz i)), (5, .int (jz j))]) hx hb dX7_find_63 hl (by decide) rfl (fun ls hl => ?_)
              refine lv_aload_n hx hb dX7_find_65 rfl (lv_at hl 1 rfl) ?_
              refine va_get (ci := 7) (v := .ref v) (C := RX7) (T := TX7) (N := 2) hx hb hts wfX7 hown hK.1 hP 0 rfl rfl 0 (by decide) (hts _ wm113) (fun _ h9 => h9) rfl dX7_find_66 ?_
              refine lv_aload_n hx hb dX7_find_69 rfl (lv_at hl 1 rfl) ?_
              refine va_get (ci := 7) (v := .int (jz z)) (C := RX7) (T := TX7) (N := 2) hx hb hts wfX7 hown hK.1 hP 0 rfl rfl 1 (by decide) (hts _ wm114) (fun _ h9 => h9) rfl dX7_find_70 ?_
              refine lv_iload hx hb dX7_find_73 (lv_at hl 0 rfl) ?_
              refine jv_iast hx hb hK.1 hP hD hS 1 (g := f) rfl (by omega) (by omega) (by decide) dX7_find_75 (fun H locs hP hD hS => ?_)
              have hP : wP G [bWay G w v z (up f z r_23), bText G t a n g, bText G t2 a2 n2 g2, bGrid G q b h0] H := hP
              have hD : wD A [bWay G w v z (up f z r_23), bText G t a n g, bText G t2 a2 n2 g2, bGrid G q b h0] := hD
              refine lv_aload_n hx hb dX7_find_76 rfl (lv_at hl 1 rfl) ?_
              refine lv_dup hx hb dX7_find_77 rfl ?_
              refine va_get (ci := 7) (v := .int (jz z)) (C := RX7) (T := TX7) (N := 2) hx hb hts wfX7 hown hK.1 hP 0 rfl rfl 1 (by decide) (hts _ wm114) (fun _ h9 => h9) rfl dX7_find_78 ?_
              refine jv_iconst hx hb dX7_find_81 ?_
              refine jv_iadd hx hb dX7_find_82 ?_
              refine va_put (ci := 7) (v := .int (jz (z + 1))) (ty := .int) (C := RX7) (T := TX7) (N := 2) hx hb hts wfX7 tyX7 tyX7_ok nmX7 hown hK.1 hP hD hS 0 rfl rfl 1 (by decide) (hts _ wm114) (fun _ h9 => h9) rfl (by decide +kernel) rfl rfl (Nat.le_of_ble_eq_true rfl) dX7_find_83 (fun H locs hP hD hS => ?_)
              have hP : wP G [bWay G w v (z + 1) (up f z r_23), bText G t a n g, bText G t2 a2 n2 g2, bGrid G q b h0] H := hP
              have hD : wD A [bWay G w v (z + 1) (up f z r_23), bText G t a n g, bText G t2 a2 n2 g2, bGrid G q b h0] := hD
              refine lv_iload hx hb dX7_find_86 (lv_at hl 0 rfl) ?_
              refine jv_iconst hx hb dX7_find_88 ?_
              refine jv_icmp_eq (tgt := 95) hx hb dX7_find_89 (by decide) (by omega) (by omega) (fun c_24 => ?_) (fun c_24 => ?_)
              · refine lv_iload hx hb dX7_find_95 (lv_at hl 0 rfl) ?_
                refine jv_iconst hx hb dX7_find_97 ?_
                refine jv_icmp_eq (tgt := 104) hx hb dX7_find_98 (by decide) (by omega) (by omega) (fun c_25 => ?_) (fun c_25 => ?_)
                · refine lv_goto (tgt := 17) hx hb dX7_find_104 (by decide) ?_
                  exact ih17 i j (z + 1) (up f z r_23) (by omega) (by have q9 := hstep; rw [← er_23] at q9; first | (exfalso; omega) | (rw [if_pos (by omega), if_neg (by omega)] at q9; exact q9) | (rw [if_neg (by omega), if_pos (by omega)] at q9; exact q9) | (rw [if_neg (by omega), if_neg (by omega)] at q9; exact q9)) (by omega) (by intro x h1 h2; unfold up; if e1 : x = z then (rw [if_pos e1, e1, hs3]; exact er_23) else (rw [if_neg e1]; exact hf x h1 (by omega))) H _ _ (wP_sub (bc := [bWay G w v (z + 1) (up f z r_23), bGrid G q b h0, bText G t a n g, bText G t2 a2 n2 g2]) hP [0, 3, 1, 2] rfl) (wD_sub (bc := [bWay G w v (z + 1) (up f z r_23), bGrid G q b h0, bText G t a n g, bText G t2 a2 n2 g2]) hD [0, 3, 1, 2] (by decide) rfl) hS (lv_sub hl [1, 2, 3, 4, 5, 6] rfl)
                · refine jv_iinc (lv' := [(5, .int (jz (j + (-1)))), (6, .int (jz r_23)), (0, .ref w), (1, .ref q), (2, .ref t), (3, .ref t2), (4, .int (jz i))]) (k := 6) hx hb dX7_find_101 hl rfl (by decide) rfl (fun ls hl => ?_)
                  refine lv_goto (tgt := 17) hx hb dX7_find_104 (by decide) ?_
                  exact ih17 i (j + (-1)) (z + 1) (up f z r_23) (by omega) (by have q9 := hstep; rw [← er_23] at q9; first | (exfalso; omega) | (rw [if_pos (by omega), if_neg (by omega)] at q9; exact q9) | (rw [if_neg (by omega), if_pos (by omega)] at q9; exact q9) | (rw [if_neg (by omega), if_neg (by omega)] at q9; exact q9)) (by omega) (by intro x h1 h2; unfold up; if e1 : x = z then (rw [if_pos e1, e1, hs3]; exact er_23) else (rw [if_neg e1]; exact hf x h1 (by omega))) H _ _ (wP_sub (bc := [bWay G w v (z + 1) (up f z r_23), bGrid G q b h0, bText G t a n g, bText G t2 a2 n2 g2]) hP [0, 3, 1, 2] rfl) (wD_sub (bc := [bWay G w v (z + 1) (up f z r_23), bGrid G q b h0, bText G t a n g, bText G t2 a2 n2 g2]) hD [0, 3, 1, 2] (by decide) rfl) hS (lv_sub hl [2, 3, 4, 5, 6, 0] rfl)
              · refine jv_iinc (lv' := [(4, .int (jz (i + (-1)))), (6, .int (jz r_23)), (0, .ref w), (1, .ref q), (2, .ref t), (3, .ref t2), (5, .int (jz j))]) (k := 5) hx hb dX7_find_92 hl rfl (by decide) rfl (fun ls hl => ?_)
                refine lv_iload hx hb dX7_find_95 (lv_at hl 1 rfl) ?_
                refine jv_iconst hx hb dX7_find_97 ?_
                refine jv_icmp_eq (tgt := 104) hx hb dX7_find_98 (by decide) (by omega) (by omega) (fun c_26 => ?_) (fun c_26 => ?_)
                · refine lv_goto (tgt := 17) hx hb dX7_find_104 (by decide) ?_
                  exact ih17 (i + (-1)) j (z + 1) (up f z r_23) (by omega) (by have q9 := hstep; rw [← er_23] at q9; first | (exfalso; omega) | (rw [if_pos (by omega), if_neg (by omega)] at q9; exact q9) | (rw [if_neg (by omega), if_pos (by omega)] at q9; exact q9) | (rw [if_neg (by omega), if_neg (by omega)] at q9; exact q9)) (by omega) (by intro x h1 h2; unfold up; if e1 : x = z then (rw [if_pos e1, e1, hs3]; exact er_23) else (rw [if_neg e1]; exact hf x h1 (by omega))) H _ _ (wP_sub (bc := [bWay G w v (z + 1) (up f z r_23), bGrid G q b h0, bText G t a n g, bText G t2 a2 n2 g2]) hP [0, 3, 1, 2] rfl) (wD_sub (bc := [bWay G w v (z + 1) (up f z r_23), bGrid G q b h0, bText G t a n g, bText G t2 a2 n2 g2]) hD [0, 3, 1, 2] (by decide) rfl) hS (lv_sub hl [2, 3, 4, 5, 0, 6] rfl)
                · refine jv_iinc (lv' := [(5, .int (jz (j + (-1)))), (4, .int (jz (i + (-1)))), (6, .int (jz r_23)), (0, .ref w), (1, .ref q), (2, .ref t), (3, .ref t2)]) (k := 6) hx hb dX7_find_101 hl rfl (by decide) rfl (fun ls hl => ?_)
                  refine lv_goto (tgt := 17) hx hb dX7_find_104 (by decide) ?_
                  exact ih17 (i + (-1)) (j + (-1)) (z + 1) (up f z r_23) (by omega) (by have q9 := hstep; rw [← er_23] at q9; first | (exfalso; omega) | (rw [if_pos (by omega), if_neg (by omega)] at q9; exact q9) | (rw [if_neg (by omega), if_pos (by omega)] at q9; exact q9) | (rw [if_neg (by omega), if_neg (by omega)] at q9; exact q9)) (by omega) (by intro x h1 h2; unfold up; if e1 : x = z then (rw [if_pos e1, e1, hs3]; exact er_23) else (rw [if_neg e1]; exact hf x h1 (by omega))) H _ _ (wP_sub (bc := [bWay G w v (z + 1) (up f z r_23), bGrid G q b h0, bText G t a n g, bText G t2 a2 n2 g2]) hP [0, 3, 1, 2] rfl) (wD_sub (bc := [bWay G w v (z + 1) (up f z r_23), bGrid G q b h0, bText G t a n g, bText G t2 a2 n2 g2]) hD [0, 3, 1, 2] (by decide) rfl) hS (lv_sub hl [3, 4, 5, 6, 1, 0] rfl)
    exact K17 (((n + n2).toNat) + 1) n n2 0 h (Nat.lt_succ_self _) (by exact wInv_0 hn hn2) (by exact Or.inl rfl) (by intro x h1 h2; omega) H _ _ hP hD hS (lv_sub hl [2, 3, 4, 5, 1, 0] rfl)
  exact KH s.heap [] hP hD hS
