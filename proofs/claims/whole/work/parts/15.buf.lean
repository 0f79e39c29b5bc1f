abbrev bBuf (G : GG) (u : Nat) (v : Nat) (k : Int) (h : Int → Int) : va_W := [(u, .inr (2, [.ref v, .int (jz k)])), (v, ja G 60 h)]
abbrev rmX2_init : Room := { frames := 1, cells := 1, slots := 60, locals := 20 }
set_option maxHeartbeats 4000000 in
set_option maxRecDepth 100000 in
theorem mX2_init (l : Launch) (G : GG) (u : Nat)  : Ct l yX2_init cX2_init 1 none rmX2_init G [.ref u] [[(u, .inr (2, [.null, .int (jz 0)]))]] (fun uo : Nat => none) (fun uo => True) (fun uo => [bBuf G u uo 0 (fun _ => 0)]) := by
  refine cof (by decide) (Nat.le_of_ble_eq_true rfl) ?_
  intro p e s m args below meth c A ls hx hb hr hml hown hts hlocks hin hA hK hP hD hS hl Q hQ
  have hown : s.vm.findClass RX2 = some m.cls := hown
  have hl : lv_has ls 1 [(0, .ref u)] := hl
  have KH : ∀ (H : Heap) (locs : List Loc), wP G [[(u, .inr (2, [.null, .int (jz 0)]))]] H → wD A [[(u, .inr (2, [.null, .int (jz 0)]))]] → va_S A s.heap H locs → W p l e rmX2_init s m args below meth c H locs 0 0 Q (F0 m 0 ls []) := by
    intro H locs hP hD hS
    refine lv_aload_n hx hb dX2_init_0 rfl (lv_at hl 0 rfl) ?_
    refine W.objInit hx hb hown (hts _ wm108) (hts _ wm53) (hts _ wm54) rfl (by rw [hml]; exact hl.1) rfl dX2_init_1 (Nat.le_of_ble_eq_true rfl) (Nat.le_of_ble_eq_true rfl) ?_
    refine W.eq (g2 := F0 m 4 ls []) rfl ?_
    refine lv_aload_n hx hb dX2_init_4 rfl (lv_at hl 0 rfl) ?_
    refine jv_bipush hx hb dX2_init_5 (by decide) ?_
    refine jv_newi hx hb hts hK.1 hP hD hS hA 60 rfl (by decide) (Nat.le_of_ble_eq_true rfl) (Nat.le_of_ble_eq_true rfl) wm74 dX2_init_7 (fun q_1 H hP hD hS => ?_)
    have hP : wP G [[(u, .inr (2, [.null, .int (jz 0)]))], [(q_1, ja G 60 ((fun _ => 0)))]] H := hP
    have hD : wD A [[(u, .inr (2, [.null, .int (jz 0)]))], [(q_1, ja G 60 ((fun _ => 0)))]] := hD
    show W p l e rmX2_init s m args below meth c H locs 1 60 Q (F0 m 9 ls [.ref q_1, .ref u])
    refine va_putF (ci := 2) (v := .ref q_1) (ty := (.array .int)) (C := RX2) (T := TX2) (N := 2) hx hb hts wfX2 tyX2 tyX2_ok nmX2 hown hK.1 hP hD hS 0 rfl rfl 0 (by decide) (hts _ wm109) (fun _ h9 => h9) rfl hin rfl (by decide +kernel) rfl rfl (Nat.le_of_ble_eq_true rfl) dX2_init_9 (fun H locs hP hD hS => ?_)
    have hP : wP G [[(u, .inr (2, [.ref q_1, .int (jz 0)]))], [(q_1, ja G 60 ((fun _ => 0)))]] H := hP
    have hD : wD A [[(u, .inr (2, [.ref q_1, .int (jz 0)]))], [(q_1, ja G 60 ((fun _ => 0)))]] := hD
    refine lv_aload_n hx hb dX2_init_12 rfl (lv_at hl 0 rfl) ?_
    refine jv_iconst hx hb dX2_init_13 ?_
    refine va_put (ci := 2) (v := .int (jz 0)) (ty := .int) (C := RX2) (T := TX2) (N := 2) hx hb hts wfX2 tyX2 tyX2_ok nmX2 hown hK.1 hP hD hS 0 rfl rfl 1 (by decide) (hts _ wm110) (fun _ h9 => h9) rfl (by decide +kernel) rfl rfl (Nat.le_of_ble_eq_true rfl) dX2_init_14 (fun H locs hP hD hS => ?_)
    have hP : wP G [[(u, .inr (2, [.ref q_1, .int (jz 0)]))], [(q_1, ja G 60 ((fun _ => 0)))]] H := hP
    have hD : wD A [[(u, .inr (2, [.ref q_1, .int (jz 0)]))], [(q_1, ja G 60 ((fun _ => 0)))]] := hD
    have hP : wP G [bBuf G u q_1 0 (fun _ => 0)] H := hP
    have hD : wD A [bBuf G u q_1 0 (fun _ => 0)] := hD
    exact cret_v hx hb hr hlocks hS hP hD (Nat.le_of_ble_eq_true rfl) (Nat.le_of_ble_eq_true rfl) dX2_init_17 [0] (by decide) q_1 rfl trivial rfl hQ
  exact KH s.heap [] hP hD hS
abbrev rmX2_size : Room := { frames := 0, cells := 0, slots := 0, locals := 0 }
set_option maxHeartbeats 4000000 in
set_option maxRecDepth 100000 in
theorem mX2_size (l : Launch) (G : GG) (u : Nat) (v : Nat) (k : Int) (h : Int → Int)  : Ct l yX2_size cX2_size 1 (some .int) rmX2_size G [.ref u] [bBuf G u v k h] (fun uo : Unit => some (.int (jz k))) (fun uo => True) (fun uo => [bBuf G u v k h]) := by
  refine cof (by decide) (Nat.le_of_ble_eq_true rfl) ?_
  intro p e s m args below meth c A ls hx hb hr hml hown hts hlocks hin hA hK hP hD hS hl Q hQ
  have hown : s.vm.findClass RX2 = some m.cls := hown
  have hl : lv_has ls 1 [(0, .ref u)] := hl
  have KH : ∀ (H : Heap) (locs : List Loc), wP G [bBuf G u v k h] H → wD A [bBuf G u v k h] → va_S A s.heap H locs → W p l e rmX2_size s m args below meth c H locs 0 0 Q (F0 m 0 ls []) := by
    intro H locs hP hD hS
    refine lv_aload_n hx hb dX2_size_0 rfl (lv_at hl 0 rfl) ?_
    refine va_get (ci := 2) (v := .int (jz k)) (C := RX2) (T := TX2) (N := 2) hx hb hts wfX2 hown hK.1 hP 0 rfl rfl 1 (by decide) (hts _ wm110) (fun _ h9 => h9) rfl dX2_size_1 ?_
    exact cret_i hx hb hr hlocks hS hP hD (Nat.le_of_ble_eq_true rfl) (Nat.le_of_ble_eq_true rfl) rfl dX2_size_4 [0] (by decide) () rfl trivial (congrArg (fun z : Int => some (Value.int (jz z))) (show k = k from by first | rfl | omega | (split <;> first | rfl | omega | (exfalso; omega)))) hQ
  exact KH s.heap [] hP hD hS
abbrev rmX2_put : Room := { frames := 0, cells := 0, slots := 0, locals := 0 }
set_option maxHeartbeats 4000000 in
set_option maxRecDepth 100000 in
theorem mX2_put (l : Launch) (G : GG) (u : Nat) (v : Nat) (k : Int) (h : Int → Int) (v9 : Int) (hk : 0 ≤ k ∧ k < 60) : Ct l yX2_put cX2_put 2 none rmX2_put G [.ref u, .int (jz v9)] [bBuf G u v k h] (fun uo : Unit => none) (fun uo => True) (fun uo => [bBuf G u v (k + 1) (up h k v9)]) := by
  refine cof (by decide) (Nat.le_of_ble_eq_true rfl) ?_
  intro p e s m args below meth c A ls hx hb hr hml hown hts hlocks hin hA hK hP hD hS hl Q hQ
  have hown : s.vm.findClass RX2 = some m.cls := hown
  have hl : lv_has ls 2 [(0, .ref u), (1, .int (jz v9))] := hl
  have KH : ∀ (H : Heap) (locs : List Loc), wP G [bBuf G u v k h] H → wD A [bBuf G u v k h] → va_S A s.heap H locs → W p l e rmX2_put s m args below meth c H locs 0 0 Q (F0 m 0 ls []) := by
    intro H locs hP hD hS
    refine lv_aload_n hx hb dX2_put_0 rfl (lv_at hl 0 rfl) ?_
    refine va_get (ci := 2) (v := .int (jz k)) (C := RX2) (T := TX2) (N := 2) hx hb hts wfX2 hown hK.1 hP 0 rfl rfl 1 (by decide) (hts _ wm110) (fun _ h9 => h9) rfl dX2_put_1 ?_
    refine jv_bipush hx hb dX2_put_4 (by decide) ?_
    refine jv_icmp_ge (tgt := 29) hx hb dX2_put_6 (by decide) (by omega) (by omega) (fun c_1 => ?_) (fun c_1 => ?_)
    · exfalso; omega
    · refine lv_aload_n hx hb dX2_put_9 rfl (lv_at hl 0 rfl) ?_
      refine va_get (ci := 2) (v := .ref v) (C := RX2) (T := TX2) (N := 2) hx hb hts wfX2 hown hK.1 hP 0 rfl rfl 0 (by decide) (hts _ wm109) (fun _ h9 => h9) rfl dX2_put_10 ?_
      refine lv_aload_n hx hb dX2_put_13 rfl (lv_at hl 0 rfl) ?_
      refine va_get (ci := 2) (v := .int (jz k)) (C := RX2) (T := TX2) (N := 2) hx hb hts wfX2 hown hK.1 hP 0 rfl rfl 1 (by decide) (hts _ wm110) (fun _ h9 => h9) rfl dX2_put_14 ?_
      refine lv_iload_n hx hb dX2_put_17 rfl (lv_at hl 1 rfl) ?_
      refine jv_iast hx hb hK.1 hP hD hS 1 (g := h) rfl (by omega) (by omega) (by decide) dX2_put_18 (fun H locs hP hD hS => ?_)
      have hP : wP G [bBuf G u v k (up h k v9)] H := hP
      have hD : wD A [bBuf G u v k (up h k v9)] := hD
      refine lv_aload_n hx hb dX2_put_19 rfl (lv_at hl 0 rfl) ?_
      refine lv_dup hx hb dX2_put_20 rfl ?_
      refine va_get (ci := 2) (v := .int (jz k)) (C := RX2) (T := TX2) (N := 2) hx hb hts wfX2 hown hK.1 hP 0 rfl rfl 1 (by decide) (hts _ wm110) (fun _ h9 => h9) rfl dX2_put_21 ?_
      refine jv_iconst hx hb dX2_put_24 ?_
      refine jv_iadd hx hb dX2_put_25 ?_
      refine va_put (ci := 2) (v := .int (jz (k + 1))) (ty := .int) (C := RX2) (T := TX2) (N := 2) hx hb hts wfX2 tyX2 tyX2_ok nmX2 hown hK.1 hP hD hS 0 rfl rfl 1 (by decide) (hts _ wm110) (fun _ h9 => h9) rfl (by decide +kernel) rfl rfl (Nat.le_of_ble_eq_true rfl) dX2_put_26 (fun H locs hP hD hS => ?_)
      have hP : wP G [bBuf G u v (k + 1) (up h k v9)] H := hP
      have hD : wD A [bBuf G u v (k + 1) (up h k v9)] := hD
      exact cret_v hx hb hr hlocks hS hP hD (Nat.le_of_ble_eq_true rfl) (Nat.le_of_ble_eq_true rfl) dX2_put_29 [0] (by decide) () rfl trivial rfl hQ
  exact KH s.heap [] hP hD hS
abbrev rmX2_empty : Room := { frames := 0, cells := 0, slots := 0, locals := 0 }
set_option maxHeartbeats 4000000 in
set_option maxRecDepth 100000 in
theorem mX2_empty (l : Launch) (G : GG) (u : Nat) (v : Nat) (k : Int) (h : Int → Int)  : Ct l yX2_empty cX2_empty 1 none rmX2_empty G [.ref u] [bBuf G u v k h] (fun uo : Unit => none) (fun uo => True) (fun uo => [bBuf G u v 0 h]) := by
  refine cof (by decide) (Nat.le_of_ble_eq_true rfl) ?_
  intro p e s m args below meth c A ls hx hb hr hml hown hts hlocks hin hA hK hP hD hS hl Q hQ
  have hown : s.vm.findClass RX2 = some m.cls := hown
  have hl : lv_has ls 1 [(0, .ref u)] := hl
  have KH : ∀ (H : Heap) (locs : List Loc), wP G [bBuf G u v k h] H → wD A [bBuf G u v k h] → va_S A s.heap H locs → W p l e rmX2_empty s m args below meth c H locs 0 0 Q (F0 m 0 ls []) := by
    intro H locs hP hD hS
    refine lv_aload_n hx hb dX2_empty_0 rfl (lv_at hl 0 rfl) ?_
    refine jv_iconst hx hb dX2_empty_1 ?_
    refine va_put (ci := 2) (v := .int (jz 0)) (ty := .int) (C := RX2) (T := TX2) (N := 2) hx hb hts wfX2 tyX2 tyX2_ok nmX2 hown hK.1 hP hD hS 0 rfl rfl 1 (by decide) (hts _ wm110) (fun _ h9 => h9) rfl (by decide +kernel) rfl rfl (Nat.le_of_ble_eq_true rfl) dX2_empty_2 (fun H locs hP hD hS => ?_)
    have hP : wP G [bBuf G u v 0 h] H := hP
    have hD : wD A [bBuf G u v 0 h] := hD
    exact cret_v hx hb hr hlocks hS hP hD (Nat.le_of_ble_eq_true rfl) (Nat.le_of_ble_eq_true rfl) dX2_empty_5 [0] (by decide) () rfl trivial rfl hQ
  exact KH s.heap [] hP hD hS
abbrev rmX2_isLetter : Room := { frames := 0, cells := 0, slots := 0, locals := 0 }
set_option maxHeartbeats 4000000 in
set_option maxRecDepth 100000 in
theorem mX2_isLetter (l : Launch) (G : GG) (z : Int) (hz : jr z) : Ct l yX2_isLetter cX2_isLetter 1 (some .boolean) rmX2_isLetter G [.int (jz z)] [] (fun uo : Unit => some (.int (jz (if 97 ≤ z ∧ z ≤ 100 then 1 else 0)))) (fun uo => True) (fun uo => []) := by
  refine cof (by decide) (Nat.le_of_ble_eq_true rfl) ?_
  intro p e s m args below meth c A ls hx hb hr hml hown hts hlocks hin hA hK hP hD hS hl Q hQ
  have hown : s.vm.findClass RX2 = some m.cls := hown
  have hl : lv_has ls 1 [(0, .int (jz z))] := hl
  have KH : ∀ (H : Heap) (locs : List Loc), wP G [] H → wD A [] → va_S A s.heap H locs → W p l e rmX2_isLetter s m args below meth c H locs 0 0 Q (F0 m 0 ls []) := by
    intro H locs hP hD hS
    refine lv_iload_n hx hb dX2_isLetter_0 rfl (lv_at hl 0 rfl) ?_
    refine jv_bipush hx hb dX2_isLetter_1 (by decide) ?_
    refine jv_icmp_lt (tgt := 16) hx hb dX2_isLetter_3 (by decide) (by omega) (by omega) (fun c_1 => ?_) (fun c_1 => ?_)
    · refine jv_iconst hx hb dX2_isLetter_16 ?_
      exact cret_i hx hb hr hlocks hS hP hD (Nat.le_of_ble_eq_true rfl) (Nat.le_of_ble_eq_true rfl) (jz_nb (show 0 = 0 ∨ 0 = 1 by omega)) dX2_isLetter_17 [] (by decide) () rfl trivial (congrArg (fun z : Int => some (Value.int (jz z))) (show 0 = if 97 ≤ z ∧ z ≤ 100 then 1 else 0 from by first | (rw [if_pos (by omega)]) | (rw [if_neg (by omega)]))) hQ
    · refine lv_iload_n hx hb dX2_isLetter_6 rfl (lv_at hl 0 rfl) ?_
      refine jv_bipush hx hb dX2_isLetter_7 (by decide) ?_
      refine jv_icmp_ge (tgt := 16) hx hb dX2_isLetter_9 (by decide) (by omega) (by omega) (fun c_2 => ?_) (fun c_2 => ?_)
      · refine jv_iconst hx hb dX2_isLetter_16 ?_
        exact cret_i hx hb hr hlocks hS hP hD (Nat.le_of_ble_eq_true rfl) (Nat.le_of_ble_eq_true rfl) (jz_nb (show 0 = 0 ∨ 0 = 1 by omega)) dX2_isLetter_17 [] (by decide) () rfl trivial (congrArg (fun z : Int => some (Value.int (jz z))) (show 0 = if 97 ≤ z ∧ z ≤ 100 then 1 else 0 from by first | (rw [if_pos (by omega)]) | (rw [if_neg (by omega)]))) hQ
      · refine jv_iconst hx hb dX2_isLetter_12 ?_
        refine lv_goto (tgt := 17) hx hb dX2_isLetter_13 (by decide) ?_
        exact cret_i hx hb hr hlocks hS hP hD (Nat.le_of_ble_eq_true rfl) (Nat.le_of_ble_eq_true rfl) (jz_nb (show 1 = 0 ∨ 1 = 1 by omega)) dX2_isLetter_17 [] (by decide) () rfl trivial (congrArg (fun z : Int => some (Value.int (jz z))) (show 1 = if 97 ≤ z ∧ z ≤ 100 then 1 else 0 from by first | (rw [if_pos (by omega)]) | (rw [if_neg (by omega)]))) hQ
  exact KH s.heap [] hP hD hS
abbrev rmX2_errorPlace : Room := { frames := 1, cells := 0, slots := 0, locals := 20 }
set_option maxHeartbeats 4000000 in
set_option maxRecDepth 100000 in
theorem mX2_errorPlace (l : Launch) (G : GG) (u : Nat) (v : Nat) (k : Int) (h : Int → Int) (hk : 0 ≤ k ∧ k ≤ 60) (hh : ∀ x : Int, 0 ≤ x → x < k → 33 ≤ h x ∧ h x ≤ 126) : Ct l yX2_errorPlace cX2_errorPlace 4 (some .int) rmX2_errorPlace G [.ref u] [bBuf G u v k h] (fun uo : Unit => some (.int (jz ((sc h k).1)))) (fun uo => True) (fun uo => [bBuf G u v k h]) := by
  refine cof (by decide) (Nat.le_of_ble_eq_true rfl) ?_
  intro p e s m args below meth c A ls hx hb hr hml hown hts hlocks hin hA hK hP hD hS hl Q hQ
  have hown : s.vm.findClass RX2 = some m.cls := hown
  have hl : lv_has ls 4 [(0, .ref u)] := hl
  have KH : ∀ (H : Heap) (locs : List Loc), wP G [bBuf G u v k h] H → wD A [bBuf G u v k h] → va_S A s.heap H locs → W p l e rmX2_errorPlace s m args below meth c H locs 0 0 Q (F0 m 0 ls []) := by
    intro H locs hP hD hS
    refine jv_iconst hx hb dX2_errorPlace_0 ?_
    refine lv_istore_n (lv' := [(1, .int (jz 0)), (0, .ref u)]) hx hb dX2_errorPlace_1 rfl hl (by decide) rfl (fun ls hl => ?_)
    refine jv_iconst hx hb dX2_errorPlace_2 ?_
    refine lv_istore_n (lv' := [(2, .int (jz 0)), (1, .int (jz 0)), (0, .ref u)]) hx hb dX2_errorPlace_3 rfl hl (by decide) rfl (fun ls hl => ?_)
    refine jv_iconst hx hb dX2_errorPlace_4 ?_
    refine lv_istore_n (lv' := [(3, .int (jz 0)), (2, .int (jz 0)), (1, .int (jz 0)), (0, .ref u)]) hx hb dX2_errorPlace_5 rfl hl (by decide) rfl (fun ls hl => ?_)
    have K6 : ∀ (n9 : Nat) (le : Int) (bs : Int) (x : Int) (b : Int) , ((k - x).toNat) < n9 → (0 ≤ x ∧ x ≤ k) → (sc h x = (x, b)) → (le = x - b - 1 ∧ ((bs = 1 ∧ 0 ≤ b) ∨ (bs = 0 ∧ b = -1))) → ∀ (H : Heap) (locs : List Loc) (ls : Array Slot), wP G [bBuf G u v k h] H → wD A [bBuf G u v k h] → va_S A s.heap H locs → lv_has ls 4 [(0, .ref u), (1, .int (jz le)), (2, .int (jz bs)), (3, .int (jz x))] → W p l e rmX2_errorPlace s m args below meth c H locs 0 0 Q (F0 m 6 ls []) := by
      intro n9
      induction n9 with
      | zero => intro le bs x b hm9; exact absurd hm9 (Nat.not_lt_zero _)
      | succ n9 ih6 =>
        intro le bs x b hm9 hx9 hs hl9 H locs ls hP hD hS hl
        have hg9 := sc_good h (by omega) hs
        obtain ⟨g1, g2, g3, g4, g5, g6, g7, g8⟩ := hg9
        refine lv_iload_n hx hb dX2_errorPlace_6 rfl (lv_at hl 3 rfl) ?_
        refine lv_aload_n hx hb dX2_errorPlace_7 rfl (lv_at hl 0 rfl) ?_
        refine va_get (ci := 2) (v := .int (jz k)) (C := RX2) (T := TX2) (N := 2) hx hb hts wfX2 hown hK.1 hP 0 rfl rfl 1 (by decide) (hts _ wm110) (fun _ h9 => h9) rfl dX2_errorPlace_8 ?_
        refine jv_icmp_ge (tgt := 68) hx hb dX2_errorPlace_11 (by decide) (by omega) (by omega) (fun c_1 => ?_) (fun c_1 => ?_)
        · refine lv_aload_n hx hb dX2_errorPlace_68 rfl (lv_at hl 0 rfl) ?_
          refine va_get (ci := 2) (v := .int (jz k)) (C := RX2) (T := TX2) (N := 2) hx hb hts wfX2 hown hK.1 hP 0 rfl rfl 1 (by decide) (hts _ wm110) (fun _ h9 => h9) rfl dX2_errorPlace_69 ?_
          exact cret_i hx hb hr hlocks hS hP hD (Nat.le_of_ble_eq_true rfl) (Nat.le_of_ble_eq_true rfl) rfl dX2_errorPlace_72 [0] (by decide) () rfl trivial (congrArg (fun z : Int => some (Value.int (jz z))) (show k = (sc h k).1 from by rw [show k = x by omega, hs])) hQ
        · have hb9 := hh x (by omega) (by omega)
          refine lv_aload_n hx hb dX2_errorPlace_14 rfl (lv_at hl 0 rfl) ?_
          refine va_get (ci := 2) (v := .ref v) (C := RX2) (T := TX2) (N := 2) hx hb hts wfX2 hown hK.1 hP 0 rfl rfl 0 (by decide) (hts _ wm109) (fun _ h9 => h9) rfl dX2_errorPlace_15 ?_
          refine lv_iload_n hx hb dX2_errorPlace_18 rfl (lv_at hl 3 rfl) ?_
          refine jv_iald hx hb hK.1 hP 1 (g := h) rfl (by omega) (by omega) (by decide) dX2_errorPlace_19 ?_
          refine jv_bipush hx hb dX2_errorPlace_20 (by decide) ?_
          refine jv_icmp_ne (tgt := 36) hx hb dX2_errorPlace_22 (by decide) (by omega) (by omega) (fun c_2 => ?_) (fun c_2 => ?_)
          · refine lv_aload_n hx hb dX2_errorPlace_36 rfl (lv_at hl 0 rfl) ?_
            refine va_get (ci := 2) (v := .ref v) (C := RX2) (T := TX2) (N := 2) hx hb hts wfX2 hown hK.1 hP 0 rfl rfl 0 (by decide) (hts _ wm109) (fun _ h9 => h9) rfl dX2_errorPlace_37 ?_
            refine lv_iload_n hx hb dX2_errorPlace_40 rfl (lv_at hl 3 rfl) ?_
            refine jv_iald hx hb hK.1 hP 1 (g := h) rfl (by omega) (by omega) (by decide) dX2_errorPlace_41 ?_
            refine kS ⟨hx, hb, hml, hown, hts⟩ hK hA hS hP hD [.int (jz (h x))] [] (mX2_isLetter l G (h x) (by omega)) lkX2_19 [] [0] (br := [bBuf G u v k h]) rfl rfl (by decide) rfl rfl (Nat.le_of_ble_eq_true rfl) hl.1 dX2_errorPlace_42 ⟨Nat.le_of_ble_eq_true rfl, Nat.le_of_ble_eq_true rfl⟩ ⟨Nat.le_of_ble_eq_true rfl, Nat.le_of_ble_eq_true rfl⟩ (fun u9 H locs hp9 hP hD hS => ?_)
            have hP : wP G [bBuf G u v k h] H := hP
            have hD : wD A [bBuf G u v k h] := hD
            show W p l e rmX2_errorPlace s m args below meth c H locs 0 0 Q (F0 m 45 ls [.int (jz (if 97 ≤ (h x) ∧ (h x) ≤ 100 then 1 else 0))])
            refine jv_top (fun r_4 er_4 => ?_)
            have bl9 : r_4 = 0 ∨ r_4 = 1 := by rw [er_4]; split <;> omega
            refine jv_if_eq (tgt := 60) hx hb dX2_errorPlace_45 (by decide) (by omega) (fun c_5 => ?_) (fun c_5 => ?_)
            · refine lv_iload_n hx hb dX2_errorPlace_60 rfl (lv_at hl 3 rfl) ?_
              exact cret_i hx hb hr hlocks hS hP hD (Nat.le_of_ble_eq_true rfl) (Nat.le_of_ble_eq_true rfl) rfl dX2_errorPlace_61 [0] (by decide) () rfl trivial (congrArg (fun z : Int => some (Value.int (jz z))) (show x = (sc h k).1 from by have q9 := er_4; rw [sc_err (by omega) hs (fun q => by unfold right at q; split at q9 <;> omega) (show x ≤ k by omega)])) hQ
            · refine lv_iload_n hx hb dX2_errorPlace_48 rfl (lv_at hl 1 rfl) ?_
              refine jv_bipush hx hb dX2_errorPlace_49 (by decide) ?_
              refine jv_icmp_ge (tgt := 60) hx hb dX2_errorPlace_51 (by decide) (by omega) (by omega) (fun c_6 => ?_) (fun c_6 => ?_)
              · refine lv_iload_n hx hb dX2_errorPlace_60 rfl (lv_at hl 3 rfl) ?_
                exact cret_i hx hb hr hlocks hS hP hD (Nat.le_of_ble_eq_true rfl) (Nat.le_of_ble_eq_true rfl) rfl dX2_errorPlace_61 [0] (by decide) () rfl trivial (congrArg (fun z : Int => some (Value.int (jz z))) (show x = (sc h k).1 from by have q9 := er_4; rw [sc_err (by omega) hs (fun q => by unfold right at q; split at q9 <;> omega) (show x ≤ k by omega)])) hQ
              · have hlt9 : 97 ≤ h x ∧ h x ≤ 100 := by have q9 := er_4; split at q9 <;> omega
                have hstep := sc_ok (by omega) hs (show right h x b from Or.inl ⟨by omega, by omega, by omega⟩)
                refine jv_iinc (lv' := [(1, .int (jz (le + 1))), (0, .ref u), (2, .int (jz bs)), (3, .int (jz x))]) (k := 1) hx hb dX2_errorPlace_54 hl rfl (by decide) rfl (fun ls hl => ?_)
                refine lv_goto (tgt := 62) hx hb dX2_errorPlace_57 (by decide) ?_
                refine jv_iinc (lv' := [(3, .int (jz (x + 1))), (1, .int (jz (le + 1))), (0, .ref u), (2, .int (jz bs))]) (k := 3) hx hb dX2_errorPlace_62 hl rfl (by decide) rfl (fun ls hl => ?_)
                refine lv_goto (tgt := 6) hx hb dX2_errorPlace_65 (by decide) ?_
                exact ih6 (le + 1) bs (x + 1) b (by omega) (by omega) (by first | exact hstep | (have q9 := hstep; rw [if_pos (by omega)] at q9; exact q9) | (have q9 := hstep; rw [if_neg (by omega)] at q9; exact q9)) (by omega) H _ _ hP hD hS (lv_sub hl [2, 1, 3, 0] rfl)
          · refine lv_iload_n hx hb dX2_errorPlace_25 rfl (lv_at hl 2 rfl) ?_
            refine jv_if_ne (tgt := 36) hx hb dX2_errorPlace_26 (by decide) (by omega) (fun c_7 => ?_) (fun c_7 => ?_)
            · refine lv_aload_n hx hb dX2_errorPlace_36 rfl (lv_at hl 0 rfl) ?_
              refine va_get (ci := 2) (v := .ref v) (C := RX2) (T := TX2) (N := 2) hx hb hts wfX2 hown hK.1 hP 0 rfl rfl 0 (by decide) (hts _ wm109) (fun _ h9 => h9) rfl dX2_errorPlace_37 ?_
              refine lv_iload_n hx hb dX2_errorPlace_40 rfl (lv_at hl 3 rfl) ?_
              refine jv_iald hx hb hK.1 hP 1 (g := h) rfl (by omega) (by omega) (by decide) dX2_errorPlace_41 ?_
              refine kS ⟨hx, hb, hml, hown, hts⟩ hK hA hS hP hD [.int (jz (h x))] [] (mX2_isLetter l G (h x) (by omega)) lkX2_19 [] [0] (br := [bBuf G u v k h]) rfl rfl (by decide) rfl rfl (Nat.le_of_ble_eq_true rfl) hl.1 dX2_errorPlace_42 ⟨Nat.le_of_ble_eq_true rfl, Nat.le_of_ble_eq_true rfl⟩ ⟨Nat.le_of_ble_eq_true rfl, Nat.le_of_ble_eq_true rfl⟩ (fun u9 H locs hp9 hP hD hS => ?_)
              have hP : wP G [bBuf G u v k h] H := hP
              have hD : wD A [bBuf G u v k h] := hD
              show W p l e rmX2_errorPlace s m args below meth c H locs 0 0 Q (F0 m 45 ls [.int (jz (if 97 ≤ (h x) ∧ (h x) ≤ 100 then 1 else 0))])
              refine jv_top (fun r_9 er_9 => ?_)
              have bl9 : r_9 = 0 ∨ r_9 = 1 := by rw [er_9]; split <;> omega
              refine jv_if_eq (tgt := 60) hx hb dX2_errorPlace_45 (by decide) (by omega) (fun c_10 => ?_) (fun c_10 => ?_)
              · refine lv_iload_n hx hb dX2_errorPlace_60 rfl (lv_at hl 3 rfl) ?_
                exact cret_i hx hb hr hlocks hS hP hD (Nat.le_of_ble_eq_true rfl) (Nat.le_of_ble_eq_true rfl) rfl dX2_errorPlace_61 [0] (by decide) () rfl trivial (congrArg (fun z : Int => some (Value.int (jz z))) (show x = (sc h k).1 from by have q9 := er_9; rw [sc_err (by omega) hs (fun q => by unfold right at q; split at q9 <;> omega) (show x ≤ k by omega)])) hQ
              · refine lv_iload_n hx hb dX2_errorPlace_48 rfl (lv_at hl 1 rfl) ?_
                refine jv_bipush hx hb dX2_errorPlace_49 (by decide) ?_
                refine jv_icmp_ge (tgt := 60) hx hb dX2_errorPlace_51 (by decide) (by omega) (by omega) (fun c_11 => ?_) (fun c_11 => ?_)
                · refine lv_iload_n hx hb dX2_errorPlace_60 rfl (lv_at hl 3 rfl) ?_
                  exact cret_i hx hb hr hlocks hS hP hD (Nat.le_of_ble_eq_true rfl) (Nat.le_of_ble_eq_true rfl) rfl dX2_errorPlace_61 [0] (by decide) () rfl trivial (congrArg (fun z : Int => some (Value.int (jz z))) (show x = (sc h k).1 from by have q9 := er_9; rw [sc_err (by omega) hs (fun q => by unfold right at q; split at q9 <;> omega) (show x ≤ k by omega)])) hQ
                · have hlt9 : 97 ≤ h x ∧ h x ≤ 100 := by have q9 := er_9; split at q9 <;> omega
                  have hstep := sc_ok (by omega) hs (show right h x b from Or.inl ⟨by omega, by omega, by omega⟩)
                  refine jv_iinc (lv' := [(1, .int (jz (le + 1))), (0, .ref u), (2, .int (jz bs)), (3, .int (jz x))]) (k := 1) hx hb dX2_errorPlace_54 hl rfl (by decide) rfl (fun ls hl => ?_)
                  refine lv_goto (tgt := 62) hx hb dX2_errorPlace_57 (by decide) ?_
                  refine jv_iinc (lv' := [(3, .int (jz (x + 1))), (1, .int (jz (le + 1))), (0, .ref u), (2, .int (jz bs))]) (k := 3) hx hb dX2_errorPlace_62 hl rfl (by decide) rfl (fun ls hl => ?_)
                  refine lv_goto (tgt := 6) hx hb dX2_errorPlace_65 (by decide) ?_
                  exact ih6 (le + 1) bs (x + 1) b (by omega) (by omega) (by first | exact hstep | (have q9 := hstep; rw [if_pos (by omega)] at q9; exact q9) | (have q9 := hstep; rw [if_neg (by omega)] at q9; exact q9)) (by omega) H _ _ hP hD hS (lv_sub hl [2, 1, 3, 0] rfl)
            · have hstep := sc_ok (by omega) hs (show right h x b from Or.inr ⟨by omega, by omega⟩)
              refine jv_iconst hx hb dX2_errorPlace_29 ?_
              refine lv_istore_n (lv' := [(2, .int (jz 1)), (0, .ref u), (1, .int (jz le)), (3, .int (jz x))]) hx hb dX2_errorPlace_30 rfl hl (by decide) rfl (fun ls hl => ?_)
              refine jv_iconst hx hb dX2_errorPlace_31 ?_
              refine lv_istore_n (lv' := [(1, .int (jz 0)), (2, .int (jz 1)), (0, .ref u), (3, .int (jz x))]) hx hb dX2_errorPlace_32 rfl hl (by decide) rfl (fun ls hl => ?_)
              refine lv_goto (tgt := 62) hx hb dX2_errorPlace_33 (by decide) ?_
              refine jv_iinc (lv' := [(3, .int (jz (x + 1))), (1, .int (jz 0)), (2, .int (jz 1)), (0, .ref u)]) (k := 3) hx hb dX2_errorPlace_62 hl rfl (by decide) rfl (fun ls hl => ?_)
              refine lv_goto (tgt := 6) hx hb dX2_errorPlace_65 (by decide) ?_
              exact ih6 0 1 (x + 1) x (by omega) (by omega) (by first | exact hstep | (have q9 := hstep; rw [if_pos (by omega)] at q9; exact q9) | (have q9 := hstep; rw [if_neg (by omega)] at q9; exact q9)) (by omega) H _ _ hP hD hS (lv_sub hl [3, 1, 2, 0] rfl)
    exact K6 (((k - 0).toNat) + 1) 0 0 0 (-1) (Nat.lt_succ_self _) (by omega) (by rfl) (by omega) H _ _ hP hD hS (lv_sub hl [3, 2, 1, 0] rfl)
  exact KH s.heap [] hP hD hS
abbrev rmX2_barPlace : Room := { frames := 0, cells := 0, slots := 0, locals := 0 }
set_option maxHeartbeats 4000000 in
set_option maxRecDepth 100000 in
theorem mX2_barPlace (l : Launch) (G : GG) (u : Nat) (v : Nat) (k : Int) (h : Int → Int) (hk : 0 ≤ k ∧ k ≤ 60) (hh : ∀ x : Int, 0 ≤ x → x < k → 33 ≤ h x ∧ h x ≤ 126) : Ct l yX2_barPlace cX2_barPlace 2 (some .int) rmX2_barPlace G [.ref u] [bBuf G u v k h] (fun uo : Int => some (.int (jz uo))) (fun uo => ((0 ≤ uo ∧ uo < k ∧ h uo = 124 ∧ ∀ x : Int, 0 ≤ x → x < uo → h x ≠ 124) ∨ (uo = k ∧ ∀ x : Int, 0 ≤ x → x < k → h x ≠ 124))) (fun uo => [bBuf G u v k h]) := by
  refine cof (by decide) (Nat.le_of_ble_eq_true rfl) ?_
  intro p e s m args below meth c A ls hx hb hr hml hown hts hlocks hin hA hK hP hD hS hl Q hQ
  have hown : s.vm.findClass RX2 = some m.cls := hown
  have hl : lv_has ls 2 [(0, .ref u)] := hl
  have KH : ∀ (H : Heap) (locs : List Loc), wP G [bBuf G u v k h] H → wD A [bBuf G u v k h] → va_S A s.heap H locs → W p l e rmX2_barPlace s m args below meth c H locs 0 0 Q (F0 m 0 ls []) := by
    intro H locs hP hD hS
    refine jv_iconst hx hb dX2_barPlace_0 ?_
    refine lv_istore_n (lv' := [(1, .int (jz 0)), (0, .ref u)]) hx hb dX2_barPlace_1 rfl hl (by decide) rfl (fun ls hl => ?_)
    have K2 : ∀ (n9 : Nat) (x : Int) , ((k - x).toNat) < n9 → (0 ≤ x ∧ x ≤ k) → (∀ y : Int, 0 ≤ y → y < x → h y ≠ 124) → ∀ (H : Heap) (locs : List Loc) (ls : Array Slot), wP G [bBuf G u v k h] H → wD A [bBuf G u v k h] → va_S A s.heap H locs → lv_has ls 2 [(0, .ref u), (1, .int (jz x))] → W p l e rmX2_barPlace s m args below meth c H locs 0 0 Q (F0 m 2 ls []) := by
      intro n9
      induction n9 with
      | zero => intro x hm9; exact absurd hm9 (Nat.not_lt_zero _)
      | succ n9 ih2 =>
        intro x hm9 hx9 hs H locs ls hP hD hS hl
        refine lv_iload_n hx hb dX2_barPlace_2 rfl (lv_at hl 1 rfl) ?_
        refine lv_aload_n hx hb dX2_barPlace_3 rfl (lv_at hl 0 rfl) ?_
        refine va_get (ci := 2) (v := .int (jz k)) (C := RX2) (T := TX2) (N := 2) hx hb hts wfX2 hown hK.1 hP 0 rfl rfl 1 (by decide) (hts _ wm110) (fun _ h9 => h9) rfl dX2_barPlace_4 ?_
        refine jv_icmp_ge (tgt := 29) hx hb dX2_barPlace_7 (by decide) (by omega) (by omega) (fun c_1 => ?_) (fun c_1 => ?_)
        · refine lv_aload_n hx hb dX2_barPlace_29 rfl (lv_at hl 0 rfl) ?_
          refine va_get (ci := 2) (v := .int (jz k)) (C := RX2) (T := TX2) (N := 2) hx hb hts wfX2 hown hK.1 hP 0 rfl rfl 1 (by decide) (hts _ wm110) (fun _ h9 => h9) rfl dX2_barPlace_30 ?_
          exact cret_i hx hb hr hlocks hS hP hD (Nat.le_of_ble_eq_true rfl) (Nat.le_of_ble_eq_true rfl) rfl dX2_barPlace_33 [0] (by decide) k rfl (by exact Or.inr ⟨rfl, fun y h1 h2 => hs y h1 (by omega)⟩) (congrArg (fun z : Int => some (Value.int (jz z))) (show k = k from by first | rfl | omega | (split <;> first | rfl | omega | (exfalso; omega)))) hQ
        · have hb9 := hh x (by omega) (by omega)
          refine lv_aload_n hx hb dX2_barPlace_10 rfl (lv_at hl 0 rfl) ?_
          refine va_get (ci := 2) (v := .ref v) (C := RX2) (T := TX2) (N := 2) hx hb hts wfX2 hown hK.1 hP 0 rfl rfl 0 (by decide) (hts _ wm109) (fun _ h9 => h9) rfl dX2_barPlace_11 ?_
          refine lv_iload_n hx hb dX2_barPlace_14 rfl (lv_at hl 1 rfl) ?_
          refine jv_iald hx hb hK.1 hP 1 (g := h) rfl (by omega) (by omega) (by decide) dX2_barPlace_15 ?_
          refine jv_bipush hx hb dX2_barPlace_16 (by decide) ?_
          refine jv_icmp_ne (tgt := 23) hx hb dX2_barPlace_18 (by decide) (by omega) (by omega) (fun c_2 => ?_) (fun c_2 => ?_)
          · refine jv_iinc (lv' := [(1, .int (jz (x + 1))), (0, .ref u)]) (k := 1) hx hb dX2_barPlace_23 hl rfl (by decide) rfl (fun ls hl => ?_)
            refine lv_goto (tgt := 2) hx hb dX2_barPlace_26 (by decide) ?_
            exact ih2 (x + 1) (by omega) (by omega) (by intro y h1 h2; if e1 : y = x then (rw [e1]; omega) else exact hs y h1 (by omega)) H _ _ hP hD hS (lv_sub hl [1, 0] rfl)
          · refine lv_iload_n hx hb dX2_barPlace_21 rfl (lv_at hl 1 rfl) ?_
            exact cret_i hx hb hr hlocks hS hP hD (Nat.le_of_ble_eq_true rfl) (Nat.le_of_ble_eq_true rfl) rfl dX2_barPlace_22 [0] (by decide) x rfl (by exact Or.inl ⟨by omega, by omega, by omega, hs⟩) (congrArg (fun z : Int => some (Value.int (jz z))) (show x = x from by first | rfl | omega | (split <;> first | rfl | omega | (exfalso; omega)))) hQ
    exact K2 (((k - 0).toNat) + 1) 0 (Nat.lt_succ_self _) (by omega) (by intro y h1 h2; omega) H _ _ hP hD hS (lv_sub hl [1, 0] rfl)
  exact KH s.heap [] hP hD hS
abbrev rmX2_isComplete : Room := { frames := 2, cells := 0, slots := 0, locals := 43 }
set_option maxHeartbeats 4000000 in
set_option maxRecDepth 100000 in
theorem mX2_isComplete (l : Launch) (G : GG) (u : Nat) (v : Nat) (k : Int) (h : Int → Int) (hk : 0 ≤ k ∧ k ≤ 60) (hh : ∀ x : Int, 0 ≤ x → x < k → 33 ≤ h x ∧ h x ≤ 126) : Ct l yX2_isComplete cX2_isComplete 1 (some .boolean) rmX2_isComplete G [.ref u] [bBuf G u v k h] (fun uo : Unit => some (.int (jz (if (sc h k).1 = k ∧ 0 ≤ (sc h k).2 then 1 else 0)))) (fun uo => True) (fun uo => [bBuf G u v k h]) := by
  refine cof (by decide) (Nat.le_of_ble_eq_true rfl) ?_
  intro p e s m args below meth c A ls hx hb hr hml hown hts hlocks hin hA hK hP hD hS hl Q hQ
  have hown : s.vm.findClass RX2 = some m.cls := hown
  have hl : lv_has ls 1 [(0, .ref u)] := hl
  have KH : ∀ (H : Heap) (locs : List Loc), wP G [bBuf G u v k h] H → wD A [bBuf G u v k h] → va_S A s.heap H locs → W p l e rmX2_isComplete s m args below meth c H locs 0 0 Q (F0 m 0 ls []) := by
    intro H locs hP hD hS
    obtain ⟨p9, b9, e9⟩ : ∃ x y, sc h k = (x, y) := ⟨_, _, rfl⟩
    have hg9 := sc_good h (by omega) e9
    obtain ⟨g1, g2, g3, g4, g5, g6, g7, g8⟩ := hg9
    refine lv_aload_n hx hb dX2_isComplete_0 rfl (lv_at hl 0 rfl) ?_
    refine kV ⟨hx, hb, hml, hown, hts⟩ hK hA hS hP hD [] [] (mX2_errorPlace l G u v k h (by omega) (by omega)) lkX2_23 [0] [] (br := []) rfl rfl (by decide) 0 2 rfl rfl rfl rfl (Nat.le_of_ble_eq_true rfl) hl.1 dX2_isComplete_1 ⟨Nat.le_of_ble_eq_true rfl, Nat.le_of_ble_eq_true rfl⟩ ⟨Nat.le_of_ble_eq_true rfl, Nat.le_of_ble_eq_true rfl⟩ (fun u9 H locs hp9 hP hD hS => ?_)
    have hP : wP G [bBuf G u v k h] H := hP
    have hD : wD A [bBuf G u v k h] := hD
    show W p l e rmX2_isComplete s m args below meth c H locs 0 0 Q (F0 m 4 ls [.int (jz ((sc h k).1))])
    refine jv_top (fun r_2 er_2 => ?_)
    rw [e9] at er_2
    refine lv_aload_n hx hb dX2_isComplete_4 rfl (lv_at hl 0 rfl) ?_
    refine va_get (ci := 2) (v := .int (jz k)) (C := RX2) (T := TX2) (N := 2) hx hb hts wfX2 hown hK.1 hP 0 rfl rfl 1 (by decide) (hts _ wm110) (fun _ h9 => h9) rfl dX2_isComplete_5 ?_
    refine jv_icmp_ne (tgt := 26) hx hb dX2_isComplete_8 (by decide) (by omega) (by omega) (fun c_3 => ?_) (fun c_3 => ?_)
    · refine jv_iconst hx hb dX2_isComplete_26 ?_
      exact cret_i hx hb hr hlocks hS hP hD (Nat.le_of_ble_eq_true rfl) (Nat.le_of_ble_eq_true rfl) (jz_nb (show 0 = 0 ∨ 0 = 1 by omega)) dX2_isComplete_27 [0] (by decide) () rfl trivial (congrArg (fun z : Int => some (Value.int (jz z))) (show 0 = if (sc h k).1 = k ∧ 0 ≤ (sc h k).2 then 1 else 0 from by rw [e9]; first | (rw [if_pos ⟨by omega, by omega⟩]) | (rw [if_neg (fun q => by have q1 : p9 = k := q.1; have q2 : 0 ≤ b9 := q.2; omega)]))) hQ
    · refine lv_aload_n hx hb dX2_isComplete_11 rfl (lv_at hl 0 rfl) ?_
      refine kV ⟨hx, hb, hml, hown, hts⟩ hK hA hS hP hD [] [] (mX2_barPlace l G u v k h (by omega) (by omega)) lkX2_27 [0] [] (br := []) rfl rfl (by decide) 0 2 rfl rfl rfl rfl (Nat.le_of_ble_eq_true rfl) hl.1 dX2_isComplete_12 ⟨Nat.le_of_ble_eq_true rfl, Nat.le_of_ble_eq_true rfl⟩ ⟨Nat.le_of_ble_eq_true rfl, Nat.le_of_ble_eq_true rfl⟩ (fun u9 H locs hp9 hP hD hS => ?_)
      obtain ⟨u_4, rfl⟩ : ∃ z, z = u9 := ⟨_, rfl⟩
      have hc_5 : (0 ≤ u_4 ∧ u_4 < k ∧ h u_4 = 124 ∧ ∀ x : Int, 0 ≤ x → x < u_4 → h x ≠ 124) ∨ (u_4 = k ∧ ∀ x : Int, 0 ≤ x → x < k → h x ≠ 124) := hp9
      have hP : wP G [bBuf G u v k h] H := hP
      have hD : wD A [bBuf G u v k h] := hD
      show W p l e rmX2_isComplete s m args below meth c H locs 0 0 Q (F0 m 15 ls [.int (jz u_4)])
      have hb9 : p9 = k → (u_4 < k ↔ 0 ≤ b9) := fun q => bar_iff (by omega) (by omega) (by omega) (fun x q1 q2 q3 => g8 x q1 (by omega) q3) g7 hc_5
      refine lv_aload_n hx hb dX2_isComplete_15 rfl (lv_at hl 0 rfl) ?_
      refine va_get (ci := 2) (v := .int (jz k)) (C := RX2) (T := TX2) (N := 2) hx hb hts wfX2 hown hK.1 hP 0 rfl rfl 1 (by decide) (hts _ wm110) (fun _ h9 => h9) rfl dX2_isComplete_16 ?_
      refine jv_icmp_ge (tgt := 26) hx hb dX2_isComplete_19 (by decide) (by omega) (by omega) (fun c_6 => ?_) (fun c_6 => ?_)
      · refine jv_iconst hx hb dX2_isComplete_26 ?_
        exact cret_i hx hb hr hlocks hS hP hD (Nat.le_of_ble_eq_true rfl) (Nat.le_of_ble_eq_true rfl) (jz_nb (show 0 = 0 ∨ 0 = 1 by omega)) dX2_isComplete_27 [0] (by decide) () rfl trivial (congrArg (fun z : Int => some (Value.int (jz z))) (show 0 = if (sc h k).1 = k ∧ 0 ≤ (sc h k).2 then 1 else 0 from by rw [e9]; first | (rw [if_pos ⟨by omega, by omega⟩]) | (rw [if_neg (fun q => by have q1 : p9 = k := q.1; have q2 : 0 ≤ b9 := q.2; omega)]))) hQ
      · refine jv_iconst hx hb dX2_isComplete_22 ?_
        refine lv_goto (tgt := 27) hx hb dX2_isComplete_23 (by decide) ?_
        exact cret_i hx hb hr hlocks hS hP hD (Nat.le_of_ble_eq_true rfl) (Nat.le_of_ble_eq_true rfl) (jz_nb (show 1 = 0 ∨ 1 = 1 by omega)) dX2_isComplete_27 [0] (by decide) () rfl trivial (congrArg (fun z : Int => some (Value.int (jz z))) (show 1 = if (sc h k).1 = k ∧ 0 ≤ (sc h k).2 then 1 else 0 from by rw [e9]; first | (rw [if_pos ⟨by omega, by omega⟩]) | (rw [if_neg (fun q => by have q1 : p9 = k := q.1; have q2 : 0 ≤ b9 := q.2; omega)]))) hQ
  exact KH s.heap [] hP hD hS
abbrev rmX2_keepsTo : Room := { frames := 0, cells := 0, slots := 0, locals := 0 }
set_option maxHeartbeats 4000000 in
set_option maxRecDepth 100000 in
theorem mX2_keepsTo (l : Launch) (G : GG) (u : Nat) (v : Nat) (k : Int) (h : Int → Int) (al : Int) (hk : 0 ≤ k ∧ k ≤ 60) (hh : ∀ x : Int, 0 ≤ x → x < k → 33 ≤ h x ∧ h x ≤ 126) (hal : jr al) : Ct l yX2_keepsTo cX2_keepsTo 3 (some .boolean) rmX2_keepsTo G [.ref u, .int (jz al)] [bBuf G u v k h] (fun uo : Int => some (.int (jz uo))) (fun uo => ((uo = 1 ∧ ∀ x : Int, 0 ≤ x → x < k → h x ≠ 124 → h x - 97 < al) ∨ (uo = 0 ∧ ∃ x : Int, (0 ≤ x ∧ x < k) ∧ h x ≠ 124 ∧ al ≤ h x - 97))) (fun uo => [bBuf G u v k h]) := by
  refine cof (by decide) (Nat.le_of_ble_eq_true rfl) ?_
  intro p e s m args below meth c A ls hx hb hr hml hown hts hlocks hin hA hK hP hD hS hl Q hQ
  have hown : s.vm.findClass RX2 = some m.cls := hown
  have hl : lv_has ls 3 [(0, .ref u), (1, .int (jz al))] := hl
  have KH : ∀ (H : Heap) (locs : List Loc), wP G [bBuf G u v k h] H → wD A [bBuf G u v k h] → va_S A s.heap H locs → W p l e rmX2_keepsTo s m args below meth c H locs 0 0 Q (F0 m 0 ls []) := by
    intro H locs hP hD hS
    refine jv_iconst hx hb dX2_keepsTo_0 ?_
    refine lv_istore_n (lv' := [(2, .int (jz 0)), (0, .ref u), (1, .int (jz al))]) hx hb dX2_keepsTo_1 rfl hl (by decide) rfl (fun ls hl => ?_)
    have K2 : ∀ (n9 : Nat) (x : Int) , ((k - x).toNat) < n9 → (0 ≤ x ∧ x ≤ k) → (∀ y : Int, 0 ≤ y → y < x → h y ≠ 124 → h y - 97 < al) → ∀ (H : Heap) (locs : List Loc) (ls : Array Slot), wP G [bBuf G u v k h] H → wD A [bBuf G u v k h] → va_S A s.heap H locs → lv_has ls 3 [(0, .ref u), (1, .int (jz al)), (2, .int (jz x))] → W p l e rmX2_keepsTo s m args below meth c H locs 0 0 Q (F0 m 2 ls []) := by
      intro n9
      induction n9 with
      | zero => intro x hm9; exact absurd hm9 (Nat.not_lt_zero _)
      | succ n9 ih2 =>
        intro x hm9 hx9 hs H locs ls hP hD hS hl
        refine lv_iload_n hx hb dX2_keepsTo_2 rfl (lv_at hl 2 rfl) ?_
        refine lv_aload_n hx hb dX2_keepsTo_3 rfl (lv_at hl 0 rfl) ?_
        refine va_get (ci := 2) (v := .int (jz k)) (C := RX2) (T := TX2) (N := 2) hx hb hts wfX2 hown hK.1 hP 0 rfl rfl 1 (by decide) (hts _ wm110) (fun _ h9 => h9) rfl dX2_keepsTo_4 ?_
        refine jv_icmp_ge (tgt := 42) hx hb dX2_keepsTo_7 (by decide) (by omega) (by omega) (fun c_1 => ?_) (fun c_1 => ?_)
        · refine jv_iconst hx hb dX2_keepsTo_42 ?_
          exact cret_i hx hb hr hlocks hS hP hD (Nat.le_of_ble_eq_true rfl) (Nat.le_of_ble_eq_true rfl) (jz_nb (show 1 = 0 ∨ 1 = 1 by omega)) dX2_keepsTo_43 [0] (by decide) 1 rfl (by exact Or.inl ⟨rfl, fun y h1 h2 => hs y h1 (by omega)⟩) (congrArg (fun z : Int => some (Value.int (jz z))) (show 1 = 1 from by first | rfl | omega | (split <;> first | rfl | omega | (exfalso; omega)))) hQ
        · have hb9 := hh x (by omega) (by omega)
          refine lv_aload_n hx hb dX2_keepsTo_10 rfl (lv_at hl 0 rfl) ?_
          refine va_get (ci := 2) (v := .ref v) (C := RX2) (T := TX2) (N := 2) hx hb hts wfX2 hown hK.1 hP 0 rfl rfl 0 (by decide) (hts _ wm109) (fun _ h9 => h9) rfl dX2_keepsTo_11 ?_
          refine lv_iload_n hx hb dX2_keepsTo_14 rfl (lv_at hl 2 rfl) ?_
          refine jv_iald hx hb hK.1 hP 1 (g := h) rfl (by omega) (by omega) (by decide) dX2_keepsTo_15 ?_
          refine jv_bipush hx hb dX2_keepsTo_16 (by decide) ?_
          refine jv_icmp_eq (tgt := 36) hx hb dX2_keepsTo_18 (by decide) (by omega) (by omega) (fun c_2 => ?_) (fun c_2 => ?_)
          · refine jv_iinc (lv' := [(2, .int (jz (x + 1))), (0, .ref u), (1, .int (jz al))]) (k := 2) hx hb dX2_keepsTo_36 hl rfl (by decide) rfl (fun ls hl => ?_)
            refine lv_goto (tgt := 2) hx hb dX2_keepsTo_39 (by decide) ?_
            exact ih2 (x + 1) (by omega) (by omega) (by intro y h1 h2 h3; if e1 : y = x then (rw [e1] at h3 ⊢; omega) else exact hs y h1 (by omega) h3) H _ _ hP hD hS (lv_sub hl [1, 2, 0] rfl)
          · refine lv_aload_n hx hb dX2_keepsTo_21 rfl (lv_at hl 0 rfl) ?_
            refine va_get (ci := 2) (v := .ref v) (C := RX2) (T := TX2) (N := 2) hx hb hts wfX2 hown hK.1 hP 0 rfl rfl 0 (by decide) (hts _ wm109) (fun _ h9 => h9) rfl dX2_keepsTo_22 ?_
            refine lv_iload_n hx hb dX2_keepsTo_25 rfl (lv_at hl 2 rfl) ?_
            refine jv_iald hx hb hK.1 hP 1 (g := h) rfl (by omega) (by omega) (by decide) dX2_keepsTo_26 ?_
            refine jv_bipush hx hb dX2_keepsTo_27 (by decide) ?_
            refine jv_isub hx hb dX2_keepsTo_29 ?_
            refine lv_iload_n hx hb dX2_keepsTo_30 rfl (lv_at hl 1 rfl) ?_
            refine jv_icmp_lt (tgt := 36) hx hb dX2_keepsTo_31 (by decide) (by omega) (by omega) (fun c_3 => ?_) (fun c_3 => ?_)
            · refine jv_iinc (lv' := [(2, .int (jz (x + 1))), (0, .ref u), (1, .int (jz al))]) (k := 2) hx hb dX2_keepsTo_36 hl rfl (by decide) rfl (fun ls hl => ?_)
              refine lv_goto (tgt := 2) hx hb dX2_keepsTo_39 (by decide) ?_
              exact ih2 (x + 1) (by omega) (by omega) (by intro y h1 h2 h3; if e1 : y = x then (rw [e1] at h3 ⊢; omega) else exact hs y h1 (by omega) h3) H _ _ hP hD hS (lv_sub hl [1, 2, 0] rfl)
            · refine jv_iconst hx hb dX2_keepsTo_34 ?_
              exact cret_i hx hb hr hlocks hS hP hD (Nat.le_of_ble_eq_true rfl) (Nat.le_of_ble_eq_true rfl) (jz_nb (show 0 = 0 ∨ 0 = 1 by omega)) dX2_keepsTo_35 [0] (by decide) 0 rfl (by exact Or.inr ⟨rfl, x, by omega, by omega, by omega⟩) (congrArg (fun z : Int => some (Value.int (jz z))) (show 0 = 0 from by first | rfl | omega | (split <;> first | rfl | omega | (exfalso; omega)))) hQ
    exact K2 (((k - 0).toNat) + 1) 0 (Nat.lt_succ_self _) (by omega) (by intro y h1 h2; omega) H _ _ hP hD hS (lv_sub hl [1, 2, 0] rfl)
  exact KH s.heap [] hP hD hS
abbrev rmX2_moveTo : Room := { frames := 1, cells := 0, slots := 0, locals := 23 }
set_option maxHeartbeats 4000000 in
set_option maxRecDepth 100000 in
theorem mX2_moveTo (l : Launch) (G : GG) (u : Nat) (v : Nat) (k : Int) (h : Int → Int) (t : Nat) (a : Nat) (n : Int) (g : Int → Int) (t2 : Nat) (a2 : Nat) (n2 : Int) (g2 : Int → Int) (b : Int) (hk : 0 ≤ k ∧ k ≤ 60) (hh : ∀ x : Int, 0 ≤ x → x < k → 33 ≤ h x ∧ h x ≤ 126) (hs : sc h k = (k, b)) (hb0 : 0 ≤ b) : Ct l yX2_moveTo cX2_moveTo 5 none rmX2_moveTo G [.ref u, .ref t, .ref t2] [bBuf G u v k h, bText G t a n g, bText G t2 a2 n2 g2] (fun uo : (Int → Int) × (Int → Int) => none) (fun uo => (∀ x : Int, 0 ≤ x → x < b → uo.1 x = h x - 97) ∧ (∀ x : Int, 0 ≤ x → x < k - b - 1 → uo.2 x = h (b + 1 + x) - 97)) (fun uo => [bBuf G u v 0 h, bText G t a b uo.1, bText G t2 a2 (k - b - 1) uo.2]) := by
  refine cof (by decide) (Nat.le_of_ble_eq_true rfl) ?_
  intro p e s m args below meth c A ls hx hb hr hml hown hts hlocks hin hA hK hP hD hS hl Q hQ
  have hown : s.vm.findClass RX2 = some m.cls := hown
  have hl : lv_has ls 5 [(0, .ref u), (1, .ref t), (2, .ref t2)] := hl
  have KH : ∀ (H : Heap) (locs : List Loc), wP G [bBuf G u v k h, bText G t a n g, bText G t2 a2 n2 g2] H → wD A [bBuf G u v k h, bText G t a n g, bText G t2 a2 n2 g2] → va_S A s.heap H locs → W p l e rmX2_moveTo s m args below meth c H locs 0 0 Q (F0 m 0 ls []) := by
    intro H locs hP hD hS
    have hg9 := sc_good h (by omega) hs
    obtain ⟨g1, g29, g3, g4, g5, g6, g7, g8⟩ := hg9
    refine lv_aload_n hx hb dX2_moveTo_0 rfl (lv_at hl 0 rfl) ?_
    refine kV ⟨hx, hb, hml, hown, hts⟩ hK hA hS hP hD [] [] (mX2_barPlace l G u v k h (by omega) (by omega)) lkX2_27 [0] [1, 2] (br := [bText G t a n g, bText G t2 a2 n2 g2]) rfl rfl (by decide) 0 2 rfl rfl rfl rfl (Nat.le_of_ble_eq_true rfl) hl.1 dX2_moveTo_1 ⟨Nat.le_of_ble_eq_true rfl, Nat.le_of_ble_eq_true rfl⟩ ⟨Nat.le_of_ble_eq_true rfl, Nat.le_of_ble_eq_true rfl⟩ (fun u9 H locs hp9 hP hD hS => ?_)
    obtain ⟨u_1, rfl⟩ : ∃ z, z = u9 := ⟨_, rfl⟩
    have hc_2 : (0 ≤ u_1 ∧ u_1 < k ∧ h u_1 = 124 ∧ ∀ x : Int, 0 ≤ x → x < u_1 → h x ≠ 124) ∨ (u_1 = k ∧ ∀ x : Int, 0 ≤ x → x < k → h x ≠ 124) := hp9
    have hP : wP G [bText G t a n g, bText G t2 a2 n2 g2, bBuf G u v k h] H := hP
    have hD : wD A [bText G t a n g, bText G t2 a2 n2 g2, bBuf G u v k h] := hD
    show W p l e rmX2_moveTo s m args below meth c H locs 0 0 Q (F0 m 4 ls [.int (jz u_1)])
    have hb9 : u_1 = b := bar_eq hb0 g4 (fun x q1 q2 q3 => g8 x q1 (by omega) q3) (g7 hb0) hc_2
    refine jv_to (z' := b) (by exact hb9) ?_
    refine lv_istore_n (lv' := [(3, .int (jz b)), (0, .ref u), (1, .ref t), (2, .ref t2)]) hx hb dX2_moveTo_4 rfl hl (by decide) rfl (fun ls hl => ?_)
    refine lv_aload_n hx hb dX2_moveTo_5 rfl (lv_at hl 2 rfl) ?_
    refine kV ⟨hx, hb, hml, hown, hts⟩ hK hA hS hP hD [] [] (mX6_empty l G t a n g ) lkX2_30 [0] [1, 2] (br := [bText G t2 a2 n2 g2, bBuf G u v k h]) rfl rfl (by decide) 0 6 rfl rfl rfl rfl (Nat.le_of_ble_eq_true rfl) hl.1 dX2_moveTo_6 ⟨Nat.le_of_ble_eq_true rfl, Nat.le_of_ble_eq_true rfl⟩ ⟨Nat.le_of_ble_eq_true rfl, Nat.le_of_ble_eq_true rfl⟩ (fun u9 H locs hp9 hP hD hS => ?_)
    have hP : wP G [bText G t2 a2 n2 g2, bBuf G u v k h, bText G t a 0 g] H := hP
    have hD : wD A [bText G t2 a2 n2 g2, bBuf G u v k h, bText G t a 0 g] := hD
    show W p l e rmX2_moveTo s m args below meth c H locs 0 0 Q (F0 m 9 ls [])
    refine lv_aload_n hx hb dX2_moveTo_9 rfl (lv_at hl 3 rfl) ?_
    refine kV ⟨hx, hb, hml, hown, hts⟩ hK hA hS hP hD [] [] (mX6_empty l G t2 a2 n2 g2 ) lkX2_30 [0] [1, 2] (br := [bBuf G u v k h, bText G t a 0 g]) rfl rfl (by decide) 0 6 rfl rfl rfl rfl (Nat.le_of_ble_eq_true rfl) hl.1 dX2_moveTo_10 ⟨Nat.le_of_ble_eq_true rfl, Nat.le_of_ble_eq_true rfl⟩ ⟨Nat.le_of_ble_eq_true rfl, Nat.le_of_ble_eq_true rfl⟩ (fun u9 H locs hp9 hP hD hS => ?_)
    have hP : wP G [bBuf G u v k h, bText G t a 0 g, bText G t2 a2 0 g2] H := hP
    have hD : wD A [bBuf G u v k h, bText G t a 0 g, bText G t2 a2 0 g2] := hD
    show W p l e rmX2_moveTo s m args below meth c H locs 0 0 Q (F0 m 13 ls [])
    refine jv_iconst hx hb dX2_moveTo_13 ?_
    refine lv_istore (lv' := [(4, .int (jz 0)), (3, .int (jz b)), (0, .ref u), (1, .ref t), (2, .ref t2)]) hx hb dX2_moveTo_14 hl (by decide) rfl (fun ls hl => ?_)
    have K16 : ∀ (n9 : Nat) (x : Int) (f : Int → Int) , ((b - x).toNat) < n9 → (0 ≤ x ∧ x ≤ b) → (∀ y : Int, 0 ≤ y → y < x → f y = h y - 97) → ∀ (H : Heap) (locs : List Loc) (ls : Array Slot), wP G [bBuf G u v k h, bText G t a x f, bText G t2 a2 0 g2] H → wD A [bBuf G u v k h, bText G t a x f, bText G t2 a2 0 g2] → va_S A s.heap H locs → lv_has ls 5 [(0, .ref u), (1, .ref t), (2, .ref t2), (3, .int (jz b)), (4, .int (jz x))] → W p l e rmX2_moveTo s m args below meth c H locs 0 0 Q (F0 m 16 ls []) := by
      intro n9
      induction n9 with
      | zero => intro x f hm9; exact absurd hm9 (Nat.not_lt_zero _)
      | succ n9 ih16 =>
        intro x f hm9 hx9 hf H locs ls hP hD hS hl
        refine lv_iload hx hb dX2_moveTo_16 (lv_at hl 4 rfl) ?_
        refine lv_iload_n hx hb dX2_moveTo_18 rfl (lv_at hl 3 rfl) ?_
        refine jv_icmp_ge (tgt := 46) hx hb dX2_moveTo_19 (by decide) (by omega) (by omega) (fun c_5 => ?_) (fun c_5 => ?_)
        · have hf1 := hf
          have e_6 : x = b := by omega
          rw [e_6] at hP hD
          refine lv_iload_n hx hb dX2_moveTo_46 rfl (lv_at hl 3 rfl) ?_
          refine jv_iconst hx hb dX2_moveTo_47 ?_
          refine jv_iadd hx hb dX2_moveTo_48 ?_
          refine lv_istore (lv' := [(4, .int (jz (b + 1))), (0, .ref u), (1, .ref t), (2, .ref t2), (3, .int (jz b))]) hx hb dX2_moveTo_49 hl (by decide) rfl (fun ls hl => ?_)
          have K51 : ∀ (n9 : Nat) (x : Int) (y2 : Int) (f2 : Int → Int) , ((k - x).toNat) < n9 → (b + 1 ≤ x ∧ x ≤ k) → (y2 = x - b - 1) → (∀ y : Int, 0 ≤ y → y < y2 → f2 y = h (b + 1 + y) - 97) → ∀ (H : Heap) (locs : List Loc) (ls : Array Slot), wP G [bBuf G u v k h, bText G t a b f, bText G t2 a2 y2 f2] H → wD A [bBuf G u v k h, bText G t a b f, bText G t2 a2 y2 f2] → va_S A s.heap H locs → lv_has ls 5 [(0, .ref u), (1, .ref t), (2, .ref t2), (4, .int (jz x))] → W p l e rmX2_moveTo s m args below meth c H locs 0 0 Q (F0 m 51 ls []) := by
            intro n9
            induction n9 with
            | zero => intro x y2 f2 hm9; exact absurd hm9 (Nat.not_lt_zero _)
            | succ n9 ih51 =>
              intro x y2 f2 hm9 hx9 hy9 hf H locs ls hP hD hS hl
              refine lv_iload hx hb dX2_moveTo_51 (lv_at hl 3 rfl) ?_
              refine lv_aload_n hx hb dX2_moveTo_53 rfl (lv_at hl 0 rfl) ?_
              refine va_get (ci := 2) (v := .int (jz k)) (C := RX2) (T := TX2) (N := 2) hx hb hts wfX2 hown hK.1 hP 0 rfl rfl 1 (by decide) (hts _ wm110) (fun _ h9 => h9) rfl dX2_moveTo_54 ?_
              refine jv_icmp_ge (tgt := 84) hx hb dX2_moveTo_57 (by decide) (by omega) (by omega) (fun c_7 => ?_) (fun c_7 => ?_)
              · refine lv_aload_n hx hb dX2_moveTo_84 rfl (lv_at hl 0 rfl) ?_
                have e_8 : y2 = k - b - 1 := by omega
                rw [e_8] at hP hD
                refine kV ⟨hx, hb, hml, hown, hts⟩ hK hA hS hP hD [] [] (mX2_empty l G u v k h ) lkX2_41 [0] [1, 2] (br := [bText G t a b f, bText G t2 a2 (k - b - 1) f2]) rfl rfl (by decide) 0 2 rfl rfl rfl rfl (Nat.le_of_ble_eq_true rfl) hl.1 dX2_moveTo_85 ⟨Nat.le_of_ble_eq_true rfl, Nat.le_of_ble_eq_true rfl⟩ ⟨Nat.le_of_ble_eq_true rfl, Nat.le_of_ble_eq_true rfl⟩ (fun u9 H locs hp9 hP hD hS => ?_)
                have hP : wP G [bText G t a b f, bText G t2 a2 (k - b - 1) f2, bBuf G u v 0 h] H := hP
                have hD : wD A [bText G t a b f, bText G t2 a2 (k - b - 1) f2, bBuf G u v 0 h] := hD
                show W p l e rmX2_moveTo s m args below meth c H locs 0 0 Q (F0 m 88 ls [])
                exact cret_v hx hb hr hlocks hS hP hD (Nat.le_of_ble_eq_true rfl) (Nat.le_of_ble_eq_true rfl) dX2_moveTo_88 [2, 0, 1] (by decide) ⟨f, f2⟩ rfl ⟨(fun y h1 h2 => hf1 y h1 (by omega)), (fun y h1 h2 => hf y h1 (by omega))⟩ rfl hQ
              · refine lv_aload_n hx hb dX2_moveTo_60 rfl (lv_at hl 2 rfl) ?_
                refine lv_aload_n hx hb dX2_moveTo_61 rfl (lv_at hl 2 rfl) ?_
                refine kV ⟨hx, hb, hml, hown, hts⟩ hK hA hS hP hD [] [.ref t2] (mX6_size l G t2 a2 y2 f2 ) lkX2_35 [2] [0, 1] (br := [bBuf G u v k h, bText G t a b f]) rfl rfl (by decide) 0 6 rfl rfl rfl rfl (Nat.le_of_ble_eq_true rfl) hl.1 dX2_moveTo_62 ⟨Nat.le_of_ble_eq_true rfl, Nat.le_of_ble_eq_true rfl⟩ ⟨Nat.le_of_ble_eq_true rfl, Nat.le_of_ble_eq_true rfl⟩ (fun u9 H locs hp9 hP hD hS => ?_)
                have hP : wP G [bBuf G u v k h, bText G t a b f, bText G t2 a2 y2 f2] H := hP
                have hD : wD A [bBuf G u v k h, bText G t a b f, bText G t2 a2 y2 f2] := hD
                show W p l e rmX2_moveTo s m args below meth c H locs 0 0 Q (F0 m 65 ls [.int (jz y2), .ref t2])
                refine lv_aload_n hx hb dX2_moveTo_65 rfl (lv_at hl 0 rfl) ?_
                refine va_get (ci := 2) (v := .ref v) (C := RX2) (T := TX2) (N := 2) hx hb hts wfX2 hown hK.1 hP 0 rfl rfl 0 (by decide) (hts _ wm109) (fun _ h9 => h9) rfl dX2_moveTo_66 ?_
                refine lv_iload hx hb dX2_moveTo_69 (lv_at hl 3 rfl) ?_
                refine jv_iald hx hb hK.1 hP 1 (g := h) rfl (by omega) (by omega) (by decide) dX2_moveTo_71 ?_
                refine jv_bipush hx hb dX2_moveTo_72 (by decide) ?_
                refine jv_isub hx hb dX2_moveTo_74 ?_
                refine kV ⟨hx, hb, hml, hown, hts⟩ hK hA hS hP hD [.int (jz y2), .int (jz ((h x) - 97))] [] (mX6_putIn l G t2 a2 y2 f2 y2 ((h x) - 97) (by omega) (by omega)) lkX2_37 [2] [0, 1] (br := [bBuf G u v k h, bText G t a b f]) rfl rfl (by decide) 0 6 rfl rfl rfl rfl (Nat.le_of_ble_eq_true rfl) hl.1 dX2_moveTo_75 ⟨Nat.le_of_ble_eq_true rfl, Nat.le_of_ble_eq_true rfl⟩ ⟨Nat.le_of_ble_eq_true rfl, Nat.le_of_ble_eq_true rfl⟩ (fun u9 H locs hp9 hP hD hS => ?_)
                have hP : wP G [bBuf G u v k h, bText G t a b f, bText G t2 a2 (y2 + 1) (insF f2 y2 y2 ((h x) - 97))] H := hP
                have hD : wD A [bBuf G u v k h, bText G t a b f, bText G t2 a2 (y2 + 1) (insF f2 y2 y2 ((h x) - 97))] := hD
                show W p l e rmX2_moveTo s m args below meth c H locs 0 0 Q (F0 m 78 ls [])
                refine jv_iinc (lv' := [(4, .int (jz (x + 1))), (0, .ref u), (1, .ref t), (2, .ref t2)]) (k := 3) hx hb dX2_moveTo_78 hl rfl (by decide) rfl (fun ls hl => ?_)
                refine lv_goto (tgt := 51) hx hb dX2_moveTo_81 (by decide) ?_
                exact ih51 (x + 1) (y2 + 1) (insF f2 y2 y2 ((h x) - 97)) (by omega) (by omega) (by omega) (by intro y h1 h2; unfold insF; if e1 : y = y2 then (rw [if_pos e1, e1]; exact congrArg (fun q => h q - 97) (by omega)) else (rw [if_neg e1, if_neg (by omega)]; exact hf y h1 (by omega))) H _ _ hP hD hS (lv_sub hl [1, 2, 3, 0] rfl)
          exact K51 (((k - (b + 1)).toNat) + 1) (b + 1) 0 g2 (Nat.lt_succ_self _) (by omega) (by omega) (by intro y h1 h2; omega) H _ _ hP hD hS (lv_sub hl [1, 2, 3, 0] rfl)
        · refine lv_aload_n hx hb dX2_moveTo_22 rfl (lv_at hl 1 rfl) ?_
          refine lv_aload_n hx hb dX2_moveTo_23 rfl (lv_at hl 1 rfl) ?_
          refine kV ⟨hx, hb, hml, hown, hts⟩ hK hA hS hP hD [] [.ref t] (mX6_size l G t a x f ) lkX2_35 [1] [0, 2] (br := [bBuf G u v k h, bText G t2 a2 0 g2]) rfl rfl (by decide) 0 6 rfl rfl rfl rfl (Nat.le_of_ble_eq_true rfl) hl.1 dX2_moveTo_24 ⟨Nat.le_of_ble_eq_true rfl, Nat.le_of_ble_eq_true rfl⟩ ⟨Nat.le_of_ble_eq_true rfl, Nat.le_of_ble_eq_true rfl⟩ (fun u9 H locs hp9 hP hD hS => ?_)
          have hP : wP G [bBuf G u v k h, bText G t2 a2 0 g2, bText G t a x f] H := hP
          have hD : wD A [bBuf G u v k h, bText G t2 a2 0 g2, bText G t a x f] := hD
          show W p l e rmX2_moveTo s m args below meth c H locs 0 0 Q (F0 m 27 ls [.int (jz x), .ref t])
          refine lv_aload_n hx hb dX2_moveTo_27 rfl (lv_at hl 0 rfl) ?_
          refine va_get (ci := 2) (v := .ref v) (C := RX2) (T := TX2) (N := 2) hx hb hts wfX2 hown hK.1 hP 0 rfl rfl 0 (by decide) (hts _ wm109) (fun _ h9 => h9) rfl dX2_moveTo_28 ?_
          refine lv_iload hx hb dX2_moveTo_31 (lv_at hl 4 rfl) ?_
          refine jv_iald hx hb hK.1 hP 1 (g := h) rfl (by omega) (by omega) (by decide) dX2_moveTo_33 ?_
          refine jv_bipush hx hb dX2_moveTo_34 (by decide) ?_
          refine jv_isub hx hb dX2_moveTo_36 ?_
          refine kV ⟨hx, hb, hml, hown, hts⟩ hK hA hS hP hD [.int (jz x), .int (jz ((h x) - 97))] [] (mX6_putIn l G t a x f x ((h x) - 97) (by omega) (by omega)) lkX2_37 [2] [0, 1] (br := [bBuf G u v k h, bText G t2 a2 0 g2]) rfl rfl (by decide) 0 6 rfl rfl rfl rfl (Nat.le_of_ble_eq_true rfl) hl.1 dX2_moveTo_37 ⟨Nat.le_of_ble_eq_true rfl, Nat.le_of_ble_eq_true rfl⟩ ⟨Nat.le_of_ble_eq_true rfl, Nat.le_of_ble_eq_true rfl⟩ (fun u9 H locs hp9 hP hD hS => ?_)
          have hP : wP G [bBuf G u v k h, bText G t2 a2 0 g2, bText G t a (x + 1) (insF f x x ((h x) - 97))] H := hP
          have hD : wD A [bBuf G u v k h, bText G t2 a2 0 g2, bText G t a (x + 1) (insF f x x ((h x) - 97))] := hD
          show W p l e rmX2_moveTo s m args below meth c H locs 0 0 Q (F0 m 40 ls [])
          refine jv_iinc (lv' := [(4, .int (jz (x + 1))), (0, .ref u), (1, .ref t), (2, .ref t2), (3, .int (jz b))]) (k := 4) hx hb dX2_moveTo_40 hl rfl (by decide) rfl (fun ls hl => ?_)
          refine lv_goto (tgt := 16) hx hb dX2_moveTo_43 (by decide) ?_
          exact ih16 (x + 1) (insF f x x ((h x) - 97)) (by omega) (by omega) (by intro y h1 h2; unfold insF; if e1 : y = x then (rw [if_pos e1, e1]) else (rw [if_neg e1, if_neg (by omega)]; exact hf y h1 (by omega))) H _ _ (wP_sub (bc := [bBuf G u v k h, bText G t a (x + 1) (insF f x x ((h x) - 97)), bText G t2 a2 0 g2]) hP [0, 2, 1] rfl) (wD_sub (bc := [bBuf G u v k h, bText G t a (x + 1) (insF f x x ((h x) - 97)), bText G t2 a2 0 g2]) hD [0, 2, 1] (by decide) rfl) hS (lv_sub hl [1, 2, 3, 4, 0] rfl)
    exact K16 (((b - 0).toNat) + 1) 0 g (Nat.lt_succ_self _) (by omega) (by intro y h1 h2; omega) H _ _ hP hD hS (lv_sub hl [2, 3, 4, 1, 0] rfl)
  exact KH s.heap [] hP hD hS
