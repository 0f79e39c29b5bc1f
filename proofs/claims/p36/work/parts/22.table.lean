abbrev bTab (G : GG) (ta : Nat) (tm : Nat) (bs : Int) (hi : Int) (mi : Int) (si : Int) (F : Int → Int64) : va_W := [(ta, .inr (0, [.ref tm, .int (jz bs), .int (jz hi), .int (jz mi), .int (jz si)])), (tm, jl G 324 F)]
theorem keyC_bd {t n n2 i j : Int} {g g2 : Int → Int} (ht : t = 1 ∨ t = 2) (hg : ∀ j : Int, 0 ≤ j → j < n → 0 ≤ g j ∧ g j < 4) (hg2 : ∀ j : Int, 0 ≤ j → j < n2 → 0 ≤ g2 j ∧ g2 j < 4) (hi : 1 ≤ i ∧ i + t - 1 ≤ n) (hj : 1 ≤ j ∧ j + t - 1 ≤ n2) : 0 ≤ keyC t g g2 i j ∧ keyC t g g2 i j < 20736 := by
  have h0 := pk_bd (a := g) (b := g2) (i := i) (j := j) (k := 0) (by omega) (by omega) (by omega) (hg _ (by omega) (by omega)) (hg2 _ (by omega) (by omega))
  unfold keyC
  by_cases e : t = 1
  · rw [if_pos e]; omega
  · rw [if_neg e]
    have h1 := pk_bd (a := g) (b := g2) (i := i) (j := j) (k := 1) (by omega) (by omega) (by omega) (hg _ (by omega) (by omega)) (hg2 _ (by omega) (by omega))
    omega
abbrev rmX0_init : Room := { frames := 1, cells := 1, slots := 324, locals := 20 }
set_option maxHeartbeats 4000000 in
set_option maxRecDepth 100000 in
theorem mX0_init (l : Launch) (G : GG) (ta : Nat)  : Ct l yX0_init cX0_init 1 none rmX0_init G [.ref ta] [[(ta, .inr (0, [.null, .int (jz 0), .int (jz 0), .int (jz 0), .int (jz 0)]))]] (fun uo : Nat => none) (fun uo => True) (fun uo => [bTab G ta uo 2 0 0 0 (fun _ => 0)]) := by
  refine cof (by decide) (Nat.le_of_ble_eq_true rfl) ?_
  intro p e s m args below meth c A ls hx hb hr hml hown hts hlocks hin hA hK hP hD hS hl Q hQ
  have hown : s.vm.findClass RX0 = some m.cls := hown
  have hl : lv_has ls 1 [(0, .ref ta)] := hl
  have KH : ∀ (H : Heap) (locs : List Loc), wP G [[(ta, .inr (0, [.null, .int (jz 0), .int (jz 0), .int (jz 0), .int (jz 0)]))]] H → wD A [[(ta, .inr (0, [.null, .int (jz 0), .int (jz 0), .int (jz 0), .int (jz 0)]))]] → va_S A s.heap H locs → W p l e rmX0_init s m args below meth c H locs 0 0 Q (F0 m 0 ls []) := by
    intro H locs hP hD hS
    refine lv_aload_n hx hb dX0_init_0 rfl (lv_at hl 0 rfl) ?_
    refine W.objInit hx hb hown (hts _ wm125) (hts _ wm34) (hts _ wm35) rfl (by rw [hml]; exact hl.1) rfl dX0_init_1 (Nat.le_of_ble_eq_true rfl) (Nat.le_of_ble_eq_true rfl) ?_
    refine W.eq (g2 := F0 m 4 ls []) rfl ?_
    refine lv_aload_n hx hb dX0_init_4 rfl (lv_at hl 0 rfl) ?_
    refine jv_sipush hx hb dX0_init_5 (by decide) ?_
    refine jv_newl hx hb hts hK.1 hP hD hS hA 324 rfl (by decide) (Nat.le_of_ble_eq_true rfl) (Nat.le_of_ble_eq_true rfl) wm142 dX0_init_8 (fun q_1 H hP hD hS => ?_)
    have hP : wP G [[(ta, .inr (0, [.null, .int (jz 0), .int (jz 0), .int (jz 0), .int (jz 0)]))], [(q_1, jl G 324 ((fun _ => 0)))]] H := hP
    have hD : wD A [[(ta, .inr (0, [.null, .int (jz 0), .int (jz 0), .int (jz 0), .int (jz 0)]))], [(q_1, jl G 324 ((fun _ => 0)))]] := hD
    show W p l e rmX0_init s m args below meth c H locs 1 324 Q (F0 m 10 ls [.ref q_1, .ref ta])
    refine va_putF (ci := 0) (v := .ref q_1) (ty := (.array .long)) (C := RX0) (T := TX0) (N := 5) hx hb hts wfX0 tyX0 tyX0_ok nmX0 hown hK.1 hP hD hS 0 rfl rfl 0 (by decide) (hts _ wm126) (fun _ h9 => h9) rfl hin rfl (by decide +kernel) rfl rfl (Nat.le_of_ble_eq_true rfl) dX0_init_10 (fun H locs hP hD hS => ?_)
    have hP : wP G [[(ta, .inr (0, [.ref q_1, .int (jz 0), .int (jz 0), .int (jz 0), .int (jz 0)]))], [(q_1, jl G 324 ((fun _ => 0)))]] H := hP
    have hD : wD A [[(ta, .inr (0, [.ref q_1, .int (jz 0), .int (jz 0), .int (jz 0), .int (jz 0)]))], [(q_1, jl G 324 ((fun _ => 0)))]] := hD
    refine lv_aload_n hx hb dX0_init_13 rfl (lv_at hl 0 rfl) ?_
    refine jv_iconst hx hb dX0_init_14 ?_
    refine va_put (ci := 0) (v := .int (jz 2)) (ty := .int) (C := RX0) (T := TX0) (N := 5) hx hb hts wfX0 tyX0 tyX0_ok nmX0 hown hK.1 hP hD hS 0 rfl rfl 1 (by decide) (hts _ wm127) (fun _ h9 => h9) rfl (by decide +kernel) rfl rfl (Nat.le_of_ble_eq_true rfl) dX0_init_15 (fun H locs hP hD hS => ?_)
    have hP : wP G [[(ta, .inr (0, [.ref q_1, .int (jz 2), .int (jz 0), .int (jz 0), .int (jz 0)]))], [(q_1, jl G 324 ((fun _ => 0)))]] H := hP
    have hD : wD A [[(ta, .inr (0, [.ref q_1, .int (jz 2), .int (jz 0), .int (jz 0), .int (jz 0)]))], [(q_1, jl G 324 ((fun _ => 0)))]] := hD
    refine lv_aload_n hx hb dX0_init_18 rfl (lv_at hl 0 rfl) ?_
    refine jv_iconst hx hb dX0_init_19 ?_
    refine va_put (ci := 0) (v := .int (jz 0)) (ty := .int) (C := RX0) (T := TX0) (N := 5) hx hb hts wfX0 tyX0 tyX0_ok nmX0 hown hK.1 hP hD hS 0 rfl rfl 2 (by decide) (hts _ wm128) (fun _ h9 => h9) rfl (by decide +kernel) rfl rfl (Nat.le_of_ble_eq_true rfl) dX0_init_20 (fun H locs hP hD hS => ?_)
    have hP : wP G [[(ta, .inr (0, [.ref q_1, .int (jz 2), .int (jz 0), .int (jz 0), .int (jz 0)]))], [(q_1, jl G 324 ((fun _ => 0)))]] H := hP
    have hD : wD A [[(ta, .inr (0, [.ref q_1, .int (jz 2), .int (jz 0), .int (jz 0), .int (jz 0)]))], [(q_1, jl G 324 ((fun _ => 0)))]] := hD
    refine lv_aload_n hx hb dX0_init_23 rfl (lv_at hl 0 rfl) ?_
    refine jv_iconst hx hb dX0_init_24 ?_
    refine va_put (ci := 0) (v := .int (jz 0)) (ty := .int) (C := RX0) (T := TX0) (N := 5) hx hb hts wfX0 tyX0 tyX0_ok nmX0 hown hK.1 hP hD hS 0 rfl rfl 3 (by decide) (hts _ wm129) (fun _ h9 => h9) rfl (by decide +kernel) rfl rfl (Nat.le_of_ble_eq_true rfl) dX0_init_25 (fun H locs hP hD hS => ?_)
    have hP : wP G [[(ta, .inr (0, [.ref q_1, .int (jz 2), .int (jz 0), .int (jz 0), .int (jz 0)]))], [(q_1, jl G 324 ((fun _ => 0)))]] H := hP
    have hD : wD A [[(ta, .inr (0, [.ref q_1, .int (jz 2), .int (jz 0), .int (jz 0), .int (jz 0)]))], [(q_1, jl G 324 ((fun _ => 0)))]] := hD
    refine lv_aload_n hx hb dX0_init_28 rfl (lv_at hl 0 rfl) ?_
    refine jv_iconst hx hb dX0_init_29 ?_
    refine va_put (ci := 0) (v := .int (jz 0)) (ty := .int) (C := RX0) (T := TX0) (N := 5) hx hb hts wfX0 tyX0 tyX0_ok nmX0 hown hK.1 hP hD hS 0 rfl rfl 4 (by decide) (hts _ wm130) (fun _ h9 => h9) rfl (by decide +kernel) rfl rfl (Nat.le_of_ble_eq_true rfl) dX0_init_30 (fun H locs hP hD hS => ?_)
    have hP : wP G [[(ta, .inr (0, [.ref q_1, .int (jz 2), .int (jz 0), .int (jz 0), .int (jz 0)]))], [(q_1, jl G 324 ((fun _ => 0)))]] H := hP
    have hD : wD A [[(ta, .inr (0, [.ref q_1, .int (jz 2), .int (jz 0), .int (jz 0), .int (jz 0)]))], [(q_1, jl G 324 ((fun _ => 0)))]] := hD
    have hP : wP G [bTab G ta q_1 2 0 0 0 (fun _ => 0)] H := hP
    have hD : wD A [bTab G ta q_1 2 0 0 0 (fun _ => 0)] := hD
    exact cret_v hx hb hr hlocks hS hP hD (Nat.le_of_ble_eq_true rfl) (Nat.le_of_ble_eq_true rfl) dX0_init_33 [0] (by decide) q_1 rfl trivial rfl hQ
  exact KH s.heap [] hP hD hS
abbrev rmX0_blockSize : Room := { frames := 0, cells := 0, slots := 0, locals := 0 }
set_option maxHeartbeats 4000000 in
set_option maxRecDepth 100000 in
theorem mX0_blockSize (l : Launch) (G : GG) (ta : Nat) (tm : Nat) (bs : Int) (hi : Int) (mi : Int) (si : Int) (F : Int → Int64)  : Ct l yX0_blockSize cX0_blockSize 1 (some .int) rmX0_blockSize G [.ref ta] [bTab G ta tm bs hi mi si F] (fun uo : Unit => some (.int (jz bs))) (fun uo => True) (fun uo => [bTab G ta tm bs hi mi si F]) := by
  refine cof (by decide) (Nat.le_of_ble_eq_true rfl) ?_
  intro p e s m args below meth c A ls hx hb hr hml hown hts hlocks hin hA hK hP hD hS hl Q hQ
  have hown : s.vm.findClass RX0 = some m.cls := hown
  have hl : lv_has ls 1 [(0, .ref ta)] := hl
  have KH : ∀ (H : Heap) (locs : List Loc), wP G [bTab G ta tm bs hi mi si F] H → wD A [bTab G ta tm bs hi mi si F] → va_S A s.heap H locs → W p l e rmX0_blockSize s m args below meth c H locs 0 0 Q (F0 m 0 ls []) := by
    intro H locs hP hD hS
    refine lv_aload_n hx hb dX0_blockSize_0 rfl (lv_at hl 0 rfl) ?_
    refine va_get (ci := 0) (v := .int (jz bs)) (C := RX0) (T := TX0) (N := 5) hx hb hts wfX0 hown hK.1 hP 0 rfl rfl 1 (by decide) (hts _ wm127) (fun _ h9 => h9) rfl dX0_blockSize_1 ?_
    exact cret_i hx hb hr hlocks hS hP hD (Nat.le_of_ble_eq_true rfl) (Nat.le_of_ble_eq_true rfl) rfl dX0_blockSize_4 [0] (by decide) () rfl trivial (congrArg (fun z : Int => some (Value.int (jz z))) (show bs = bs from by first | rfl | omega | (split <;> first | rfl | omega | (exfalso; omega)))) hQ
  exact KH s.heap [] hP hD hS
abbrev rmX0_hitCount : Room := { frames := 0, cells := 0, slots := 0, locals := 0 }
set_option maxHeartbeats 4000000 in
set_option maxRecDepth 100000 in
theorem mX0_hitCount (l : Launch) (G : GG) (ta : Nat) (tm : Nat) (bs : Int) (hi : Int) (mi : Int) (si : Int) (F : Int → Int64)  : Ct l yX0_hitCount cX0_hitCount 1 (some .int) rmX0_hitCount G [.ref ta] [bTab G ta tm bs hi mi si F] (fun uo : Unit => some (.int (jz hi))) (fun uo => True) (fun uo => [bTab G ta tm bs hi mi si F]) := by
  refine cof (by decide) (Nat.le_of_ble_eq_true rfl) ?_
  intro p e s m args below meth c A ls hx hb hr hml hown hts hlocks hin hA hK hP hD hS hl Q hQ
  have hown : s.vm.findClass RX0 = some m.cls := hown
  have hl : lv_has ls 1 [(0, .ref ta)] := hl
  have KH : ∀ (H : Heap) (locs : List Loc), wP G [bTab G ta tm bs hi mi si F] H → wD A [bTab G ta tm bs hi mi si F] → va_S A s.heap H locs → W p l e rmX0_hitCount s m args below meth c H locs 0 0 Q (F0 m 0 ls []) := by
    intro H locs hP hD hS
    refine lv_aload_n hx hb dX0_hitCount_0 rfl (lv_at hl 0 rfl) ?_
    refine va_get (ci := 0) (v := .int (jz hi)) (C := RX0) (T := TX0) (N := 5) hx hb hts wfX0 hown hK.1 hP 0 rfl rfl 2 (by decide) (hts _ wm128) (fun _ h9 => h9) rfl dX0_hitCount_1 ?_
    exact cret_i hx hb hr hlocks hS hP hD (Nat.le_of_ble_eq_true rfl) (Nat.le_of_ble_eq_true rfl) rfl dX0_hitCount_4 [0] (by decide) () rfl trivial (congrArg (fun z : Int => some (Value.int (jz z))) (show hi = hi from by first | rfl | omega | (split <;> first | rfl | omega | (exfalso; omega)))) hQ
  exact KH s.heap [] hP hD hS
abbrev rmX0_missCount : Room := { frames := 0, cells := 0, slots := 0, locals := 0 }
set_option maxHeartbeats 4000000 in
set_option maxRecDepth 100000 in
theorem mX0_missCount (l : Launch) (G : GG) (ta : Nat) (tm : Nat) (bs : Int) (hi : Int) (mi : Int) (si : Int) (F : Int → Int64)  : Ct l yX0_missCount cX0_missCount 1 (some .int) rmX0_missCount G [.ref ta] [bTab G ta tm bs hi mi si F] (fun uo : Unit => some (.int (jz mi))) (fun uo => True) (fun uo => [bTab G ta tm bs hi mi si F]) := by
  refine cof (by decide) (Nat.le_of_ble_eq_true rfl) ?_
  intro p e s m args below meth c A ls hx hb hr hml hown hts hlocks hin hA hK hP hD hS hl Q hQ
  have hown : s.vm.findClass RX0 = some m.cls := hown
  have hl : lv_has ls 1 [(0, .ref ta)] := hl
  have KH : ∀ (H : Heap) (locs : List Loc), wP G [bTab G ta tm bs hi mi si F] H → wD A [bTab G ta tm bs hi mi si F] → va_S A s.heap H locs → W p l e rmX0_missCount s m args below meth c H locs 0 0 Q (F0 m 0 ls []) := by
    intro H locs hP hD hS
    refine lv_aload_n hx hb dX0_missCount_0 rfl (lv_at hl 0 rfl) ?_
    refine va_get (ci := 0) (v := .int (jz mi)) (C := RX0) (T := TX0) (N := 5) hx hb hts wfX0 hown hK.1 hP 0 rfl rfl 3 (by decide) (hts _ wm129) (fun _ h9 => h9) rfl dX0_missCount_1 ?_
    exact cret_i hx hb hr hlocks hS hP hD (Nat.le_of_ble_eq_true rfl) (Nat.le_of_ble_eq_true rfl) rfl dX0_missCount_4 [0] (by decide) () rfl trivial (congrArg (fun z : Int => some (Value.int (jz z))) (show mi = mi from by first | rfl | omega | (split <;> first | rfl | omega | (exfalso; omega)))) hQ
  exact KH s.heap [] hP hD hS
abbrev rmX0_singleCount : Room := { frames := 0, cells := 0, slots := 0, locals := 0 }
set_option maxHeartbeats 4000000 in
set_option maxRecDepth 100000 in
theorem mX0_singleCount (l : Launch) (G : GG) (ta : Nat) (tm : Nat) (bs : Int) (hi : Int) (mi : Int) (si : Int) (F : Int → Int64)  : Ct l yX0_singleCount cX0_singleCount 1 (some .int) rmX0_singleCount G [.ref ta] [bTab G ta tm bs hi mi si F] (fun uo : Unit => some (.int (jz si))) (fun uo => True) (fun uo => [bTab G ta tm bs hi mi si F]) := by
  refine cof (by decide) (Nat.le_of_ble_eq_true rfl) ?_
  intro p e s m args below meth c A ls hx hb hr hml hown hts hlocks hin hA hK hP hD hS hl Q hQ
  have hown : s.vm.findClass RX0 = some m.cls := hown
  have hl : lv_has ls 1 [(0, .ref ta)] := hl
  have KH : ∀ (H : Heap) (locs : List Loc), wP G [bTab G ta tm bs hi mi si F] H → wD A [bTab G ta tm bs hi mi si F] → va_S A s.heap H locs → W p l e rmX0_singleCount s m args below meth c H locs 0 0 Q (F0 m 0 ls []) := by
    intro H locs hP hD hS
    refine lv_aload_n hx hb dX0_singleCount_0 rfl (lv_at hl 0 rfl) ?_
    refine va_get (ci := 0) (v := .int (jz si)) (C := RX0) (T := TX0) (N := 5) hx hb hts wfX0 hown hK.1 hP 0 rfl rfl 4 (by decide) (hts _ wm130) (fun _ h9 => h9) rfl dX0_singleCount_1 ?_
    exact cret_i hx hb hr hlocks hS hP hD (Nat.le_of_ble_eq_true rfl) (Nat.le_of_ble_eq_true rfl) rfl dX0_singleCount_4 [0] (by decide) () rfl trivial (congrArg (fun z : Int => some (Value.int (jz z))) (show si = si from by first | rfl | omega | (split <;> first | rfl | omega | (exfalso; omega)))) hQ
  exact KH s.heap [] hP hD hS
abbrev rmX0_startAnew : Room := { frames := 0, cells := 0, slots := 0, locals := 0 }
set_option maxHeartbeats 4000000 in
set_option maxRecDepth 100000 in
theorem mX0_startAnew (l : Launch) (G : GG) (ta : Nat) (tm : Nat) (bs : Int) (hi : Int) (mi : Int) (si : Int) (F : Int → Int64) (z : Int)  : Ct l yX0_startAnew cX0_startAnew 3 none rmX0_startAnew G [.ref ta, .int (jz z)] [bTab G ta tm bs hi mi si F] (fun uo : (Int → Int64) => none) (fun uo => (∀ w : Int, 0 ≤ w → w < 324 → uo w = 0)) (fun uo => [bTab G ta tm z 0 0 0 uo]) := by
  refine cof (by decide) (Nat.le_of_ble_eq_true rfl) ?_
  intro p e s m args below meth c A ls hx hb hr hml hown hts hlocks hin hA hK hP hD hS hl Q hQ
  have hown : s.vm.findClass RX0 = some m.cls := hown
  have hl : lv_has ls 3 [(0, .ref ta), (1, .int (jz z))] := hl
  have KH : ∀ (H : Heap) (locs : List Loc), wP G [bTab G ta tm bs hi mi si F] H → wD A [bTab G ta tm bs hi mi si F] → va_S A s.heap H locs → W p l e rmX0_startAnew s m args below meth c H locs 0 0 Q (F0 m 0 ls []) := by
    intro H locs hP hD hS
    refine jv_iconst hx hb dX0_startAnew_0 ?_
    refine lv_istore_n (lv' := [(2, .int (jz 0)), (0, .ref ta), (1, .int (jz z))]) hx hb dX0_startAnew_1 rfl hl (by decide) rfl (fun ls hl => ?_)
    have K2 : ∀ (n9 : Nat) (k : Int) (F2 : Int → Int64) , (((324 : Int) - k).toNat) < n9 → (0 ≤ k ∧ k ≤ 324) → (∀ w : Int, 0 ≤ w → w < k → F2 w = 0) → ∀ (H : Heap) (locs : List Loc) (ls : Array Slot), wP G [bTab G ta tm bs hi mi si F2] H → wD A [bTab G ta tm bs hi mi si F2] → va_S A s.heap H locs → lv_has ls 3 [(0, .ref ta), (1, .int (jz z)), (2, .int (jz k))] → W p l e rmX0_startAnew s m args below meth c H locs 0 0 Q (F0 m 2 ls []) := by
      intro n9
      induction n9 with
      | zero => intro k F2 hm9; exact absurd hm9 (Nat.not_lt_zero _)
      | succ n9 ih2 =>
        intro k F2 hm9 hk hF H locs ls hP hD hS hl
        refine lv_iload_n hx hb dX0_startAnew_2 rfl (lv_at hl 2 rfl) ?_
        refine jv_sipush hx hb dX0_startAnew_3 (by decide) ?_
        refine jv_icmp_ge (tgt := 22) hx hb dX0_startAnew_6 (by decide) (by omega) (by omega) (fun c_1 => ?_) (fun c_1 => ?_)
        · refine lv_aload_n hx hb dX0_startAnew_22 rfl (lv_at hl 0 rfl) ?_
          refine lv_iload_n hx hb dX0_startAnew_23 rfl (lv_at hl 1 rfl) ?_
          refine va_put (ci := 0) (v := .int (jz z)) (ty := .int) (C := RX0) (T := TX0) (N := 5) hx hb hts wfX0 tyX0 tyX0_ok nmX0 hown hK.1 hP hD hS 0 rfl rfl 1 (by decide) (hts _ wm127) (fun _ h9 => h9) rfl (by decide +kernel) rfl rfl (Nat.le_of_ble_eq_true rfl) dX0_startAnew_24 (fun H locs hP hD hS => ?_)
          have hP : wP G [bTab G ta tm z hi mi si F2] H := hP
          have hD : wD A [bTab G ta tm z hi mi si F2] := hD
          refine lv_aload_n hx hb dX0_startAnew_27 rfl (lv_at hl 0 rfl) ?_
          refine jv_iconst hx hb dX0_startAnew_28 ?_
          refine va_put (ci := 0) (v := .int (jz 0)) (ty := .int) (C := RX0) (T := TX0) (N := 5) hx hb hts wfX0 tyX0 tyX0_ok nmX0 hown hK.1 hP hD hS 0 rfl rfl 2 (by decide) (hts _ wm128) (fun _ h9 => h9) rfl (by decide +kernel) rfl rfl (Nat.le_of_ble_eq_true rfl) dX0_startAnew_29 (fun H locs hP hD hS => ?_)
          have hP : wP G [bTab G ta tm z 0 mi si F2] H := hP
          have hD : wD A [bTab G ta tm z 0 mi si F2] := hD
          refine lv_aload_n hx hb dX0_startAnew_32 rfl (lv_at hl 0 rfl) ?_
          refine jv_iconst hx hb dX0_startAnew_33 ?_
          refine va_put (ci := 0) (v := .int (jz 0)) (ty := .int) (C := RX0) (T := TX0) (N := 5) hx hb hts wfX0 tyX0 tyX0_ok nmX0 hown hK.1 hP hD hS 0 rfl rfl 3 (by decide) (hts _ wm129) (fun _ h9 => h9) rfl (by decide +kernel) rfl rfl (Nat.le_of_ble_eq_true rfl) dX0_startAnew_34 (fun H locs hP hD hS => ?_)
          have hP : wP G [bTab G ta tm z 0 0 si F2] H := hP
          have hD : wD A [bTab G ta tm z 0 0 si F2] := hD
          refine lv_aload_n hx hb dX0_startAnew_37 rfl (lv_at hl 0 rfl) ?_
          refine jv_iconst hx hb dX0_startAnew_38 ?_
          refine va_put (ci := 0) (v := .int (jz 0)) (ty := .int) (C := RX0) (T := TX0) (N := 5) hx hb hts wfX0 tyX0 tyX0_ok nmX0 hown hK.1 hP hD hS 0 rfl rfl 4 (by decide) (hts _ wm130) (fun _ h9 => h9) rfl (by decide +kernel) rfl rfl (Nat.le_of_ble_eq_true rfl) dX0_startAnew_39 (fun H locs hP hD hS => ?_)
          have hP : wP G [bTab G ta tm z 0 0 0 F2] H := hP
          have hD : wD A [bTab G ta tm z 0 0 0 F2] := hD
          exact cret_v hx hb hr hlocks hS hP hD (Nat.le_of_ble_eq_true rfl) (Nat.le_of_ble_eq_true rfl) dX0_startAnew_42 [0] (by decide) F2 rfl (show ∀ w : Int, 0 ≤ w → w < 324 → F2 w = 0 from by exact fun w p1 p2 => hF w p1 (by omega)) rfl hQ
        · refine lv_aload_n hx hb dX0_startAnew_9 rfl (lv_at hl 0 rfl) ?_
          refine va_get (ci := 0) (v := .ref tm) (C := RX0) (T := TX0) (N := 5) hx hb hts wfX0 hown hK.1 hP 0 rfl rfl 0 (by decide) (hts _ wm126) (fun _ h9 => h9) rfl dX0_startAnew_10 ?_
          refine lv_iload_n hx hb dX0_startAnew_13 rfl (lv_at hl 2 rfl) ?_
          refine lv_lconst (v := 0) hx hb dX0_startAnew_14 (by decide) ?_
          refine jv_last hx hb hK.1 hP hD hS 1 (g := F2) rfl (by omega) (by omega) (by decide) dX0_startAnew_15 (fun H locs hP hD hS => ?_)
          have hP : wP G [bTab G ta tm bs hi mi si (up F2 k 0)] H := hP
          have hD : wD A [bTab G ta tm bs hi mi si (up F2 k 0)] := hD
          refine jv_iinc (lv' := [(2, .int (jz (k + 1))), (0, .ref ta), (1, .int (jz z))]) (k := 2) hx hb dX0_startAnew_16 hl rfl (by decide) rfl (fun ls hl => ?_)
          refine lv_goto (tgt := 2) hx hb dX0_startAnew_19 (by decide) ?_
          exact ih2 (k + 1) (up F2 k 0) (by omega) (by omega) (by intro w p1 p2; unfold up; if e1 : w = k then (rw [if_pos e1]) else (rw [if_neg e1]; exact hF w p1 (by omega))) H _ _ hP hD hS (lv_sub hl [1, 2, 0] rfl)
    exact K2 ((((324 : Int) - 0).toNat) + 1) 0 F (Nat.lt_succ_self _) (by omega) (by intro w p1 p2; omega) H _ _ hP hD hS (lv_sub hl [1, 2, 0] rfl)
  exact KH s.heap [] hP hD hS
abbrev rmX0_copyFrom : Room := { frames := 1, cells := 0, slots := 0, locals := 40 }
set_option maxHeartbeats 4000000 in
set_option maxRecDepth 100000 in
theorem mX0_copyFrom (l : Launch) (G : GG) (ta : Nat) (tm : Nat) (bs : Int) (hi : Int) (mi : Int) (si : Int) (F : Int → Int64) (tb : Nat) (tn : Nat) (bs2 : Int) (hi2 : Int) (mi2 : Int) (si2 : Int) (F9 : Int → Int64)  : Ct l yX0_copyFrom cX0_copyFrom 2 none rmX0_copyFrom G [.ref ta, .ref tb] [bTab G ta tm bs hi mi si F, bTab G tb tn bs2 hi2 mi2 si2 F9] (fun uo : (Int → Int64) => none) (fun uo => (∀ w : Int, 0 ≤ w → w < 324 → uo w = F9 w)) (fun uo => [bTab G ta tm bs2 hi2 mi2 si2 uo, bTab G tb tn bs2 hi2 mi2 si2 F9]) := by
  refine cof (by decide) (Nat.le_of_ble_eq_true rfl) ?_
  intro p e s m args below meth c A ls hx hb hr hml hown hts hlocks hin hA hK hP hD hS hl Q hQ
  have hown : s.vm.findClass RX0 = some m.cls := hown
  have hl : lv_has ls 2 [(0, .ref ta), (1, .ref tb)] := hl
  have KH : ∀ (H : Heap) (locs : List Loc), wP G [bTab G ta tm bs hi mi si F, bTab G tb tn bs2 hi2 mi2 si2 F9] H → wD A [bTab G ta tm bs hi mi si F, bTab G tb tn bs2 hi2 mi2 si2 F9] → va_S A s.heap H locs → W p l e rmX0_copyFrom s m args below meth c H locs 0 0 Q (F0 m 0 ls []) := by
    intro H locs hP hD hS
    refine lv_aload_n hx hb dX0_copyFrom_0 rfl (lv_at hl 1 rfl) ?_
    refine va_get (ci := 0) (v := .ref tn) (C := RX0) (T := TX0) (N := 5) hx hb hts wfX0 hown hK.1 hP 2 rfl rfl 0 (by decide) (hts _ wm126) (fun _ h9 => h9) rfl dX0_copyFrom_1 ?_
    refine jv_iconst hx hb dX0_copyFrom_4 ?_
    refine lv_aload_n hx hb dX0_copyFrom_5 rfl (lv_at hl 0 rfl) ?_
    refine va_get (ci := 0) (v := .ref tm) (C := RX0) (T := TX0) (N := 5) hx hb hts wfX0 hown hK.1 hP 0 rfl rfl 0 (by decide) (hts _ wm126) (fun _ h9 => h9) rfl dX0_copyFrom_6 ?_
    refine jv_iconst hx hb dX0_copyFrom_9 ?_
    refine jv_sipush hx hb dX0_copyFrom_10 (by decide) ?_
    refine jv_copyl hx hb (hml.trans hl.1.symm) hown (hts _ wm614) (hts _ wm616) (hts _ wm615) (hts _ wm27) hK.1 hP hD hS 3 1 rfl rfl (Nat.le_of_ble_eq_true rfl) (by decide +kernel) dX0_copyFrom_13 (fun F_1 H locs hcp hP hD hS => ?_)
    have hP : wP G [bTab G ta tm bs hi mi si F_1, bTab G tb tn bs2 hi2 mi2 si2 F9] H := hP
    have hD : wD A [bTab G ta tm bs hi mi si F_1, bTab G tb tn bs2 hi2 mi2 si2 F9] := hD
    refine lv_aload_n hx hb dX0_copyFrom_16 rfl (lv_at hl 0 rfl) ?_
    refine lv_aload_n hx hb dX0_copyFrom_17 rfl (lv_at hl 1 rfl) ?_
    refine va_get (ci := 0) (v := .int (jz bs2)) (C := RX0) (T := TX0) (N := 5) hx hb hts wfX0 hown hK.1 hP 2 rfl rfl 1 (by decide) (hts _ wm127) (fun _ h9 => h9) rfl dX0_copyFrom_18 ?_
    refine va_put (ci := 0) (v := .int (jz bs2)) (ty := .int) (C := RX0) (T := TX0) (N := 5) hx hb hts wfX0 tyX0 tyX0_ok nmX0 hown hK.1 hP hD hS 0 rfl rfl 1 (by decide) (hts _ wm127) (fun _ h9 => h9) rfl (by decide +kernel) rfl rfl (Nat.le_of_ble_eq_true rfl) dX0_copyFrom_21 (fun H locs hP hD hS => ?_)
    have hP : wP G [bTab G ta tm bs2 hi mi si F_1, bTab G tb tn bs2 hi2 mi2 si2 F9] H := hP
    have hD : wD A [bTab G ta tm bs2 hi mi si F_1, bTab G tb tn bs2 hi2 mi2 si2 F9] := hD
    refine lv_aload_n hx hb dX0_copyFrom_24 rfl (lv_at hl 0 rfl) ?_
    refine lv_aload_n hx hb dX0_copyFrom_25 rfl (lv_at hl 1 rfl) ?_
    refine va_get (ci := 0) (v := .int (jz hi2)) (C := RX0) (T := TX0) (N := 5) hx hb hts wfX0 hown hK.1 hP 2 rfl rfl 2 (by decide) (hts _ wm128) (fun _ h9 => h9) rfl dX0_copyFrom_26 ?_
    refine va_put (ci := 0) (v := .int (jz hi2)) (ty := .int) (C := RX0) (T := TX0) (N := 5) hx hb hts wfX0 tyX0 tyX0_ok nmX0 hown hK.1 hP hD hS 0 rfl rfl 2 (by decide) (hts _ wm128) (fun _ h9 => h9) rfl (by decide +kernel) rfl rfl (Nat.le_of_ble_eq_true rfl) dX0_copyFrom_29 (fun H locs hP hD hS => ?_)
    have hP : wP G [bTab G ta tm bs2 hi2 mi si F_1, bTab G tb tn bs2 hi2 mi2 si2 F9] H := hP
    have hD : wD A [bTab G ta tm bs2 hi2 mi si F_1, bTab G tb tn bs2 hi2 mi2 si2 F9] := hD
    refine lv_aload_n hx hb dX0_copyFrom_32 rfl (lv_at hl 0 rfl) ?_
    refine lv_aload_n hx hb dX0_copyFrom_33 rfl (lv_at hl 1 rfl) ?_
    refine va_get (ci := 0) (v := .int (jz mi2)) (C := RX0) (T := TX0) (N := 5) hx hb hts wfX0 hown hK.1 hP 2 rfl rfl 3 (by decide) (hts _ wm129) (fun _ h9 => h9) rfl dX0_copyFrom_34 ?_
    refine va_put (ci := 0) (v := .int (jz mi2)) (ty := .int) (C := RX0) (T := TX0) (N := 5) hx hb hts wfX0 tyX0 tyX0_ok nmX0 hown hK.1 hP hD hS 0 rfl rfl 3 (by decide) (hts _ wm129) (fun _ h9 => h9) rfl (by decide +kernel) rfl rfl (Nat.le_of_ble_eq_true rfl) dX0_copyFrom_37 (fun H locs hP hD hS => ?_)
    have hP : wP G [bTab G ta tm bs2 hi2 mi2 si F_1, bTab G tb tn bs2 hi2 mi2 si2 F9] H := hP
    have hD : wD A [bTab G ta tm bs2 hi2 mi2 si F_1, bTab G tb tn bs2 hi2 mi2 si2 F9] := hD
    refine lv_aload_n hx hb dX0_copyFrom_40 rfl (lv_at hl 0 rfl) ?_
    refine lv_aload_n hx hb dX0_copyFrom_41 rfl (lv_at hl 1 rfl) ?_
    refine va_get (ci := 0) (v := .int (jz si2)) (C := RX0) (T := TX0) (N := 5) hx hb hts wfX0 hown hK.1 hP 2 rfl rfl 4 (by decide) (hts _ wm130) (fun _ h9 => h9) rfl dX0_copyFrom_42 ?_
    refine va_put (ci := 0) (v := .int (jz si2)) (ty := .int) (C := RX0) (T := TX0) (N := 5) hx hb hts wfX0 tyX0 tyX0_ok nmX0 hown hK.1 hP hD hS 0 rfl rfl 4 (by decide) (hts _ wm130) (fun _ h9 => h9) rfl (by decide +kernel) rfl rfl (Nat.le_of_ble_eq_true rfl) dX0_copyFrom_45 (fun H locs hP hD hS => ?_)
    have hP : wP G [bTab G ta tm bs2 hi2 mi2 si2 F_1, bTab G tb tn bs2 hi2 mi2 si2 F9] H := hP
    have hD : wD A [bTab G ta tm bs2 hi2 mi2 si2 F_1, bTab G tb tn bs2 hi2 mi2 si2 F9] := hD
    exact cret_v hx hb hr hlocks hS hP hD (Nat.le_of_ble_eq_true rfl) (Nat.le_of_ble_eq_true rfl) dX0_copyFrom_48 [0, 1] (by decide) F_1 rfl (show ∀ w : Int, 0 ≤ w → w < 324 → F_1 w = F9 w from hcp) rfl hQ
  exact KH s.heap [] hP hD hS
abbrev rmX0_keyOf : Room := { frames := 3, cells := 0, slots := 0, locals := 65 }
set_option maxHeartbeats 4000000 in
set_option maxRecDepth 100000 in
theorem mX0_keyOf (l : Launch) (G : GG) (ta : Nat) (tm : Nat) (bs : Int) (hi : Int) (mi : Int) (si : Int) (F : Int → Int64) (q : Nat) (b : Nat) (h : Int → Int) (t : Nat) (a : Nat) (n : Int) (g : Int → Int) (t2 : Nat) (a2 : Nat) (n2 : Int) (g2 : Int → Int) (i : Int) (j : Int) (hn : 0 ≤ n ∧ n ≤ 20) (hn2 : 0 ≤ n2 ∧ n2 ≤ 20) (hg : ∀ j : Int, 0 ≤ j → j < n → 0 ≤ g j ∧ g j < 4) (hg2 : ∀ j : Int, 0 ≤ j → j < n2 → 0 ≤ g2 j ∧ g2 j < 4) (hbs : bs = 1 ∨ bs = 2) (hi9 : 1 ≤ i ∧ i + bs - 1 ≤ n) (hj9 : 1 ≤ j ∧ j + bs - 1 ≤ n2) (hh : ∀ x y : Int, 0 ≤ x → x ≤ n → 0 ≤ y → y ≤ n2 → h (x * 21 + y) = D 1 g g2 x y) : Ct l yX0_keyOf cX0_keyOf 11 (some .int) rmX0_keyOf G [.ref ta, .ref q, .ref t, .ref t2, .int (jz i), .int (jz j)] [bTab G ta tm bs hi mi si F, bGrid G q b h, bText G t a n g, bText G t2 a2 n2 g2] (fun uo : Unit => some (.int (jz (keyC bs g g2 i j)))) (fun uo => True) (fun uo => [bTab G ta tm bs hi mi si F, bGrid G q b h, bText G t a n g, bText G t2 a2 n2 g2]) := by
  refine cof (by decide) (Nat.le_of_ble_eq_true rfl) ?_
  intro p e s m args below meth c A ls hx hb hr hml hown hts hlocks hin hA hK hP hD hS hl Q hQ
  have hown : s.vm.findClass RX0 = some m.cls := hown
  have hl : lv_has ls 11 [(0, .ref ta), (1, .ref q), (2, .ref t), (3, .ref t2), (4, .int (jz i)), (5, .int (jz j))] := hl
  have KH : ∀ (H : Heap) (locs : List Loc), wP G [bTab G ta tm bs hi mi si F, bGrid G q b h, bText G t a n g, bText G t2 a2 n2 g2] H → wD A [bTab G ta tm bs hi mi si F, bGrid G q b h, bText G t a n g, bText G t2 a2 n2 g2] → va_S A s.heap H locs → W p l e rmX0_keyOf s m args below meth c H locs 0 0 Q (F0 m 0 ls []) := by
    intro H locs hP hD hS
    refine jv_iconst hx hb dX0_keyOf_0 ?_
    refine lv_istore (lv' := [(6, .int (jz 0)), (0, .ref ta), (1, .ref q), (2, .ref t), (3, .ref t2), (4, .int (jz i)), (5, .int (jz j))]) hx hb dX0_keyOf_1 hl (by decide) rfl (fun ls hl => ?_)
    refine jv_iconst hx hb dX0_keyOf_3 ?_
    refine lv_istore (lv' := [(7, .int (jz 0)), (6, .int (jz 0)), (0, .ref ta), (1, .ref q), (2, .ref t), (3, .ref t2), (4, .int (jz i)), (5, .int (jz j))]) hx hb dX0_keyOf_4 hl (by decide) rfl (fun ls hl => ?_)
    have K6 : ∀ (n9 : Nat) (key : Int) (k : Int) , ((bs - k).toNat) < n9 → (0 ≤ k ∧ k ≤ bs) → ((k = 0 → key = 0) ∧ (k = 1 → key = pk g g2 i j 0) ∧ (k = 2 → key = pk g g2 i j 0 * 144 + pk g g2 i j 1)) → ∀ (H : Heap) (locs : List Loc) (ls : Array Slot), wP G [bTab G ta tm bs hi mi si F, bGrid G q b h, bText G t a n g, bText G t2 a2 n2 g2] H → wD A [bTab G ta tm bs hi mi si F, bGrid G q b h, bText G t a n g, bText G t2 a2 n2 g2] → va_S A s.heap H locs → lv_has ls 11 [(0, .ref ta), (1, .ref q), (2, .ref t), (3, .ref t2), (4, .int (jz i)), (5, .int (jz j)), (6, .int (jz key)), (7, .int (jz k))] → W p l e rmX0_keyOf s m args below meth c H locs 0 0 Q (F0 m 6 ls []) := by
      intro n9
      induction n9 with
      | zero => intro key k hm9; exact absurd hm9 (Nat.not_lt_zero _)
      | succ n9 ih6 =>
        intro key k hm9 hk hkey H locs ls hP hD hS hl
        refine lv_iload hx hb dX0_keyOf_6 (lv_at hl 7 rfl) ?_
        refine lv_aload_n hx hb dX0_keyOf_8 rfl (lv_at hl 0 rfl) ?_
        refine va_get (ci := 0) (v := .int (jz bs)) (C := RX0) (T := TX0) (N := 5) hx hb hts wfX0 hown hK.1 hP 0 rfl rfl 1 (by decide) (hts _ wm127) (fun _ h9 => h9) rfl dX0_keyOf_9 ?_
        refine jv_icmp_ge (tgt := 103) hx hb dX0_keyOf_12 (by decide) (by omega) (by omega) (fun c_1 => ?_) (fun c_1 => ?_)
        · refine lv_iload hx hb dX0_keyOf_103 (lv_at hl 6 rfl) ?_
          exact cret_i hx hb hr hlocks hS hP hD (Nat.le_of_ble_eq_true rfl) (Nat.le_of_ble_eq_true rfl) rfl dX0_keyOf_105 [0, 1, 2, 3] (by decide) () rfl trivial (congrArg (fun z : Int => some (Value.int (jz z))) (show key = keyC bs g g2 i j from by unfold keyC; rcases hbs with e1 | e1; (rw [if_pos e1]; omega); (rw [if_neg (by omega)]; omega))) hQ
        · have la := hg (i + k - 1) (by omega) (by omega)
          have lb := hg2 (j + k - 1) (by omega) (by omega)
          have hpk := pk_bd (a := g) (b := g2) (i := i) (j := j) (k := k) (by omega) (by omega) (by omega) la lb
          refine lv_aload_n hx hb dX0_keyOf_15 rfl (lv_at hl 2 rfl) ?_
          refine lv_iload hx hb dX0_keyOf_16 (lv_at hl 4 rfl) ?_
          refine lv_iload hx hb dX0_keyOf_18 (lv_at hl 7 rfl) ?_
          refine jv_iadd hx hb dX0_keyOf_20 ?_
          refine jv_iconst hx hb dX0_keyOf_21 ?_
          refine jv_isub hx hb dX0_keyOf_22 ?_
          refine kV ⟨hx, hb, hml, hown, hts⟩ hK hA hS hP hD [.int (jz ((i + k) - 1))] [] (mX6_at_in l G t a n g ((i + k) - 1) (by omega) (by omega)) lkX0_57 [2] [0, 1, 3] (br := [bTab G ta tm bs hi mi si F, bGrid G q b h, bText G t2 a2 n2 g2]) rfl rfl (by decide) 0 6 rfl rfl rfl rfl (Nat.le_of_ble_eq_true rfl) hl.1 dX0_keyOf_23 ⟨Nat.le_of_ble_eq_true rfl, Nat.le_of_ble_eq_true rfl⟩ ⟨Nat.le_of_ble_eq_true rfl, Nat.le_of_ble_eq_true rfl⟩ (fun u9 H locs hp9 hP hD hS => ?_)
          have hP : wP G [bTab G ta tm bs hi mi si F, bGrid G q b h, bText G t2 a2 n2 g2, bText G t a n g] H := hP
          have hD : wD A [bTab G ta tm bs hi mi si F, bGrid G q b h, bText G t2 a2 n2 g2, bText G t a n g] := hD
          show W p l e rmX0_keyOf s m args below meth c H locs 0 0 Q (F0 m 26 ls [.int (jz (g ((i + k) - 1)))])
          refine jv_iconst hx hb dX0_keyOf_26 ?_
          refine jv_imul hx hb dX0_keyOf_27 ?_
          refine lv_aload_n hx hb dX0_keyOf_28 rfl (lv_at hl 3 rfl) ?_
          refine lv_iload hx hb dX0_keyOf_29 (lv_at hl 5 rfl) ?_
          refine lv_iload hx hb dX0_keyOf_31 (lv_at hl 7 rfl) ?_
          refine jv_iadd hx hb dX0_keyOf_33 ?_
          refine jv_iconst hx hb dX0_keyOf_34 ?_
          refine jv_isub hx hb dX0_keyOf_35 ?_
          refine kV ⟨hx, hb, hml, hown, hts⟩ hK hA hS hP hD [.int (jz ((j + k) - 1))] [.int (jz ((g ((i + k) - 1)) * 4))] (mX6_at_in l G t2 a2 n2 g2 ((j + k) - 1) (by omega) (by omega)) lkX0_57 [2] [0, 1, 3] (br := [bTab G ta tm bs hi mi si F, bGrid G q b h, bText G t a n g]) rfl rfl (by decide) 0 6 rfl rfl rfl rfl (Nat.le_of_ble_eq_true rfl) hl.1 dX0_keyOf_36 ⟨Nat.le_of_ble_eq_true rfl, Nat.le_of_ble_eq_true rfl⟩ ⟨Nat.le_of_ble_eq_true rfl, Nat.le_of_ble_eq_true rfl⟩ (fun u9 H locs hp9 hP hD hS => ?_)
          have hP : wP G [bTab G ta tm bs hi mi si F, bGrid G q b h, bText G t a n g, bText G t2 a2 n2 g2] H := hP
          have hD : wD A [bTab G ta tm bs hi mi si F, bGrid G q b h, bText G t a n g, bText G t2 a2 n2 g2] := hD
          show W p l e rmX0_keyOf s m args below meth c H locs 0 0 Q (F0 m 39 ls [.int (jz (g2 ((j + k) - 1))), .int (jz ((g ((i + k) - 1)) * 4))])
          refine jv_iadd hx hb dX0_keyOf_39 ?_
          refine lv_istore (lv' := [(8, .int (jz (((g ((i + k) - 1)) * 4) + (g2 ((j + k) - 1))))), (0, .ref ta), (1, .ref q), (2, .ref t), (3, .ref t2), (4, .int (jz i)), (5, .int (jz j)), (6, .int (jz key)), (7, .int (jz k))]) hx hb dX0_keyOf_40 hl (by decide) rfl (fun ls hl => ?_)
          refine lv_aload_n hx hb dX0_keyOf_42 rfl (lv_at hl 2 rfl) ?_
          refine lv_iload hx hb dX0_keyOf_43 (lv_at hl 5 rfl) ?_
          refine jv_iconst hx hb dX0_keyOf_45 ?_
          refine jv_isub hx hb dX0_keyOf_46 ?_
          refine lv_iload hx hb dX0_keyOf_47 (lv_at hl 6 rfl) ?_
          refine lv_iload hx hb dX0_keyOf_49 (lv_at hl 8 rfl) ?_
          refine jv_iadd hx hb dX0_keyOf_51 ?_
          refine kV ⟨hx, hb, hml, hown, hts⟩ hK hA hS hP hD [.int (jz (i - 1)), .int (jz (j + k))] [] (mX1_stepAcross l G q b h (i - 1) (j + k) (by omega) (by omega)) lkX0_61 [1] [0, 2, 3] (br := [bTab G ta tm bs hi mi si F, bText G t a n g, bText G t2 a2 n2 g2]) rfl rfl (by decide) 0 1 rfl rfl rfl rfl (Nat.le_of_ble_eq_true rfl) hl.1 dX0_keyOf_52 ⟨Nat.le_of_ble_eq_true rfl, Nat.le_of_ble_eq_true rfl⟩ ⟨Nat.le_of_ble_eq_true rfl, Nat.le_of_ble_eq_true rfl⟩ (fun u9 H locs hp9 hP hD hS => ?_)
          have hP : wP G [bTab G ta tm bs hi mi si F, bText G t a n g, bText G t2 a2 n2 g2, bGrid G q b h] H := hP
          have hD : wD A [bTab G ta tm bs hi mi si F, bText G t a n g, bText G t2 a2 n2 g2, bGrid G q b h] := hD
          show W p l e rmX0_keyOf s m args below meth c H locs 0 0 Q (F0 m 55 ls [.int (jz (h ((i - 1) * 21 + (j + k)) - h ((i - 1) * 21 + ((j + k) - 1))))])
          have s1 := hh (i - 1) (j + k) (by omega) (by omega) (by omega) (by omega)
          have s2 := hh (i - 1) (j + k - 1) (by omega) (by omega) (by omega) (by omega)
          refine jv_iconst hx hb dX0_keyOf_55 ?_
          refine jv_iadd hx hb dX0_keyOf_56 ?_
          refine lv_istore (lv' := [(9, .int (jz ((h ((i - 1) * 21 + (j + k)) - h ((i - 1) * 21 + ((j + k) - 1))) + 1))), (8, .int (jz (((g ((i + k) - 1)) * 4) + (g2 ((j + k) - 1))))), (0, .ref ta), (1, .ref q), (2, .ref t), (3, .ref t2), (4, .int (jz i)), (5, .int (jz j)), (6, .int (jz key)), (7, .int (jz k))]) hx hb dX0_keyOf_57 hl (by decide) rfl (fun ls hl => ?_)
          refine lv_aload_n hx hb dX0_keyOf_59 rfl (lv_at hl 3 rfl) ?_
          refine lv_iload hx hb dX0_keyOf_60 (lv_at hl 6 rfl) ?_
          refine lv_iload hx hb dX0_keyOf_62 (lv_at hl 9 rfl) ?_
          refine jv_iadd hx hb dX0_keyOf_64 ?_
          refine lv_iload hx hb dX0_keyOf_65 (lv_at hl 7 rfl) ?_
          refine jv_iconst hx hb dX0_keyOf_67 ?_
          refine jv_isub hx hb dX0_keyOf_68 ?_
          refine kV ⟨hx, hb, hml, hown, hts⟩ hK hA hS hP hD [.int (jz (i + k)), .int (jz (j - 1))] [] (mX1_stepDown l G q b h (i + k) (j - 1) (by omega) (by omega)) lkX0_66 [3] [0, 1, 2] (br := [bTab G ta tm bs hi mi si F, bText G t a n g, bText G t2 a2 n2 g2]) rfl rfl (by decide) 0 1 rfl rfl rfl rfl (Nat.le_of_ble_eq_true rfl) hl.1 dX0_keyOf_69 ⟨Nat.le_of_ble_eq_true rfl, Nat.le_of_ble_eq_true rfl⟩ ⟨Nat.le_of_ble_eq_true rfl, Nat.le_of_ble_eq_true rfl⟩ (fun u9 H locs hp9 hP hD hS => ?_)
          have hP : wP G [bTab G ta tm bs hi mi si F, bText G t a n g, bText G t2 a2 n2 g2, bGrid G q b h] H := hP
          have hD : wD A [bTab G ta tm bs hi mi si F, bText G t a n g, bText G t2 a2 n2 g2, bGrid G q b h] := hD
          show W p l e rmX0_keyOf s m args below meth c H locs 0 0 Q (F0 m 72 ls [.int (jz (h ((i + k) * 21 + (j - 1)) - h (((i + k) - 1) * 21 + (j - 1))))])
          have s3 := hh (i + k) (j - 1) (by omega) (by omega) (by omega) (by omega)
          have s4 := hh (i + k - 1) (j - 1) (by omega) (by omega) (by omega) (by omega)
          refine jv_iconst hx hb dX0_keyOf_72 ?_
          refine jv_iadd hx hb dX0_keyOf_73 ?_
          refine lv_istore (lv' := [(10, .int (jz ((h ((i + k) * 21 + (j - 1)) - h (((i + k) - 1) * 21 + (j - 1))) + 1))), (9, .int (jz ((h ((i - 1) * 21 + (j + k)) - h ((i - 1) * 21 + ((j + k) - 1))) + 1))), (8, .int (jz (((g ((i + k) - 1)) * 4) + (g2 ((j + k) - 1))))), (0, .ref ta), (1, .ref q), (2, .ref t), (3, .ref t2), (4, .int (jz i)), (5, .int (jz j)), (6, .int (jz key)), (7, .int (jz k))]) hx hb dX0_keyOf_74 hl (by decide) rfl (fun ls hl => ?_)
          refine lv_iload hx hb dX0_keyOf_76 (lv_at hl 9 rfl) ?_
          refine jv_sipush hx hb dX0_keyOf_78 (by decide) ?_
          refine jv_imul hx hb dX0_keyOf_81 ?_
          refine lv_iload hx hb dX0_keyOf_82 (lv_at hl 2 rfl) ?_
          refine jv_iconst hx hb dX0_keyOf_84 ?_
          refine jv_imul hx hb dX0_keyOf_85 ?_
          refine lv_iload hx hb dX0_keyOf_86 (lv_at hl 1 rfl) ?_
          refine jv_iadd hx hb dX0_keyOf_88 ?_
          refine jv_iconst hx hb dX0_keyOf_89 ?_
          refine jv_imul hx hb dX0_keyOf_90 ?_
          refine jv_iadd hx hb dX0_keyOf_91 ?_
          refine lv_iload hx hb dX0_keyOf_92 (lv_at hl 0 rfl) ?_
          refine jv_iadd hx hb dX0_keyOf_94 ?_
          refine jv_top (fun w_6 ew_6 => ?_)
          refine lv_istore (lv' := [(6, .int (jz w_6)), (10, .int (jz ((h ((i + k) * 21 + (j - 1)) - h (((i + k) - 1) * 21 + (j - 1))) + 1))), (9, .int (jz ((h ((i - 1) * 21 + (j + k)) - h ((i - 1) * 21 + ((j + k) - 1))) + 1))), (8, .int (jz (((g ((i + k) - 1)) * 4) + (g2 ((j + k) - 1))))), (0, .ref ta), (1, .ref q), (2, .ref t), (3, .ref t2), (4, .int (jz i)), (5, .int (jz j)), (7, .int (jz k))]) hx hb dX0_keyOf_95 hl (by decide) rfl (fun ls hl => ?_)
          have hpe : w_6 = key * 144 + pk g g2 i j k := by unfold pk; rw [ew_6, s1, s2, s3, s4]; omega
          have hkey2 : (k + 1 = 0 → w_6 = 0) ∧ (k + 1 = 1 → w_6 = pk g g2 i j 0) ∧ (k + 1 = 2 → w_6 = pk g g2 i j 0 * 144 + pk g g2 i j 1) := by rcases (show k = 0 ∨ k = 1 by omega) with e1 | e1 <;> rw [e1] at hpe ⊢ <;> omega
          refine jv_iinc (lv' := [(7, .int (jz (k + 1))), (6, .int (jz w_6)), (10, .int (jz ((h ((i + k) * 21 + (j - 1)) - h (((i + k) - 1) * 21 + (j - 1))) + 1))), (9, .int (jz ((h ((i - 1) * 21 + (j + k)) - h ((i - 1) * 21 + ((j + k) - 1))) + 1))), (8, .int (jz (((g ((i + k) - 1)) * 4) + (g2 ((j + k) - 1))))), (0, .ref ta), (1, .ref q), (2, .ref t), (3, .ref t2), (4, .int (jz i)), (5, .int (jz j))]) (k := 10) hx hb dX0_keyOf_97 hl rfl (by decide) rfl (fun ls hl => ?_)
          refine lv_goto (tgt := 6) hx hb dX0_keyOf_100 (by decide) ?_
          exact ih6 w_6 (k + 1) (by omega) (by omega) (by exact hkey2) H _ _ (wP_sub (bc := [bTab G ta tm bs hi mi si F, bGrid G q b h, bText G t a n g, bText G t2 a2 n2 g2]) hP [0, 3, 1, 2] rfl) (wD_sub (bc := [bTab G ta tm bs hi mi si F, bGrid G q b h, bText G t a n g, bText G t2 a2 n2 g2]) hD [0, 3, 1, 2] (by decide) rfl) hS (lv_sub hl [5, 6, 7, 8, 9, 10, 1, 0] rfl)
    exact K6 (((bs - 0).toNat) + 1) 0 0 (Nat.lt_succ_self _) (by omega) (by omega) H _ _ hP hD hS (lv_sub hl [2, 3, 4, 5, 6, 7, 1, 0] rfl)
  exact KH s.heap [] hP hD hS
abbrev rmX0_meet : Room := { frames := 0, cells := 0, slots := 0, locals := 0 }
set_option maxHeartbeats 4000000 in
set_option maxRecDepth 100000 in
theorem mX0_meet (l : Launch) (G : GG) (ta : Nat) (tm : Nat) (bs : Int) (hi : Int) (mi : Int) (si : Int) (F : Int → Int64) (key : Int) (M : Int → Bool) (hk : 0 ≤ key ∧ key < 20736) (hM : rM F M) : Ct l yX0_meet cX0_meet 5 none rmX0_meet G [.ref ta, .int (jz key)] [bTab G ta tm bs hi mi si F] (fun uo : Int × Int × (Int → Int64) × (Int → Bool) => none) (fun uo => ((uo.2.2.2, uo.1, uo.2.1, si) = tKey key (M, hi, mi, si)) ∧ (rM uo.2.2.1 uo.2.2.2)) (fun uo => [bTab G ta tm bs uo.1 uo.2.1 si uo.2.2.1]) := by
  refine cof (by decide) (Nat.le_of_ble_eq_true rfl) ?_
  intro p e s m args below meth c A ls hx hb hr hml hown hts hlocks hin hA hK hP hD hS hl Q hQ
  have hown : s.vm.findClass RX0 = some m.cls := hown
  have hl : lv_has ls 5 [(0, .ref ta), (1, .int (jz key))] := hl
  have KH : ∀ (H : Heap) (locs : List Loc), wP G [bTab G ta tm bs hi mi si F] H → wD A [bTab G ta tm bs hi mi si F] → va_S A s.heap H locs → W p l e rmX0_meet s m args below meth c H locs 0 0 Q (F0 m 0 ls []) := by
    intro H locs hP hD hS
    refine lv_iload_n hx hb dX0_meet_0 rfl (lv_at hl 1 rfl) ?_
    refine jv_bipush hx hb dX0_meet_1 (by decide) ?_
    refine jv_idiv hx hb dX0_meet_3 (by omega) (by omega) (by omega) (by omega) ?_
    refine lv_istore_n (lv' := [(2, .int (jz (key / 64))), (0, .ref ta), (1, .int (jz key))]) hx hb dX0_meet_4 rfl hl (by decide) rfl (fun ls hl => ?_)
    refine lv_iload_n hx hb dX0_meet_5 rfl (lv_at hl 2 rfl) ?_
    refine jv_if_lt (tgt := 16) hx hb dX0_meet_6 (by decide) (by omega) (fun c_1 => ?_) (fun c_1 => ?_)
    · exfalso; omega
    · refine lv_iload_n hx hb dX0_meet_9 rfl (lv_at hl 0 rfl) ?_
      refine jv_sipush hx hb dX0_meet_10 (by decide) ?_
      refine jv_icmp_lt (tgt := 17) hx hb dX0_meet_13 (by decide) (by omega) (by omega) (fun c_2 => ?_) (fun c_2 => ?_)
      · refine lv_lconst (v := 1) hx hb dX0_meet_17 (by decide) ?_
        refine lv_iload_n hx hb dX0_meet_18 rfl (lv_at hl 2 rfl) ?_
        refine jv_bipush hx hb dX0_meet_19 (by decide) ?_
        refine jv_irem hx hb dX0_meet_21 (by omega) (by omega) (by omega) (by omega) ?_
        refine lv_lshl (v := 1 <<< ((jz (key % 64)).toInt64 &&& 63)) hx hb dX0_meet_22 rfl ?_
        refine lv_lstore_n (lv' := [(3, .long (1 <<< ((jz (key % 64)).toInt64 &&& 63))), (2, .int (jz (key / 64))), (0, .ref ta), (1, .int (jz key))]) hx hb dX0_meet_23 rfl hl (by decide) rfl (fun ls hl => ?_)
        refine lv_aload_n hx hb dX0_meet_24 rfl (lv_at hl 2 rfl) ?_
        refine va_get (ci := 0) (v := .ref tm) (C := RX0) (T := TX0) (N := 5) hx hb hts wfX0 hown hK.1 hP 0 rfl rfl 0 (by decide) (hts _ wm126) (fun _ h9 => h9) rfl dX0_meet_25 ?_
        refine lv_iload_n hx hb dX0_meet_28 rfl (lv_at hl 1 rfl) ?_
        refine jv_lald hx hb hK.1 hP 1 (g := F) rfl (by omega) (by omega) (by decide) dX0_meet_29 ?_
        refine lv_lload_n hx hb dX0_meet_30 rfl (lv_at hl 0 rfl) ?_
        refine lv_land hx hb dX0_meet_31 ?_
        refine lv_lconst (v := 0) hx hb dX0_meet_32 (by decide) ?_
        refine jv_lcmp_eq (tgt := 50) hx hb dX0_meet_33 dX0_meet_34 (by decide) (fun c_3 => ?_) (fun c_3 => ?_)
        · have hm9 : M key = false := (rM_hit hM (by omega) (by omega)).mp c_3
          refine lv_aload_n hx hb dX0_meet_50 rfl (lv_at hl 2 rfl) ?_
          refine va_get (ci := 0) (v := .ref tm) (C := RX0) (T := TX0) (N := 5) hx hb hts wfX0 hown hK.1 hP 0 rfl rfl 0 (by decide) (hts _ wm126) (fun _ h9 => h9) rfl dX0_meet_51 ?_
          refine lv_iload_n hx hb dX0_meet_54 rfl (lv_at hl 1 rfl) ?_
          refine lv_aload_n hx hb dX0_meet_55 rfl (lv_at hl 2 rfl) ?_
          refine va_get (ci := 0) (v := .ref tm) (C := RX0) (T := TX0) (N := 5) hx hb hts wfX0 hown hK.1 hP 0 rfl rfl 0 (by decide) (hts _ wm126) (fun _ h9 => h9) rfl dX0_meet_56 ?_
          refine lv_iload_n hx hb dX0_meet_59 rfl (lv_at hl 1 rfl) ?_
          refine jv_lald hx hb hK.1 hP 1 (g := F) rfl (by omega) (by omega) (by decide) dX0_meet_60 ?_
          refine lv_lload_n hx hb dX0_meet_61 rfl (lv_at hl 0 rfl) ?_
          refine lv_lor hx hb dX0_meet_62 ?_
          refine jv_last hx hb hK.1 hP hD hS 1 (g := F) rfl (by omega) (by omega) (by decide) dX0_meet_63 (fun H locs hP hD hS => ?_)
          have hP : wP G [bTab G ta tm bs hi mi si (up F (key / 64) ((F (key / 64)) ||| (1 <<< ((jz (key % 64)).toInt64 &&& 63))))] H := hP
          have hD : wD A [bTab G ta tm bs hi mi si (up F (key / 64) ((F (key / 64)) ||| (1 <<< ((jz (key % 64)).toInt64 &&& 63))))] := hD
          refine lv_aload_n hx hb dX0_meet_64 rfl (lv_at hl 2 rfl) ?_
          refine lv_dup hx hb dX0_meet_65 rfl ?_
          refine va_get (ci := 0) (v := .int (jz mi)) (C := RX0) (T := TX0) (N := 5) hx hb hts wfX0 hown hK.1 hP 0 rfl rfl 3 (by decide) (hts _ wm129) (fun _ h9 => h9) rfl dX0_meet_66 ?_
          refine jv_iconst hx hb dX0_meet_69 ?_
          refine jv_iadd hx hb dX0_meet_70 ?_
          refine va_put (ci := 0) (v := .int (jz (mi + 1))) (ty := .int) (C := RX0) (T := TX0) (N := 5) hx hb hts wfX0 tyX0 tyX0_ok nmX0 hown hK.1 hP hD hS 0 rfl rfl 3 (by decide) (hts _ wm129) (fun _ h9 => h9) rfl (by decide +kernel) rfl rfl (Nat.le_of_ble_eq_true rfl) dX0_meet_71 (fun H locs hP hD hS => ?_)
          have hP : wP G [bTab G ta tm bs hi (mi + 1) si (up F (key / 64) ((F (key / 64)) ||| (1 <<< ((jz (key % 64)).toInt64 &&& 63))))] H := hP
          have hD : wD A [bTab G ta tm bs hi (mi + 1) si (up F (key / 64) ((F (key / 64)) ||| (1 <<< ((jz (key % 64)).toInt64 &&& 63))))] := hD
          exact cret_v hx hb hr hlocks hS hP hD (Nat.le_of_ble_eq_true rfl) (Nat.le_of_ble_eq_true rfl) dX0_meet_74 [0] (by decide) ⟨hi, mi + 1, up F (key / 64) ((F (key / 64)) ||| (1 <<< ((jz (key % 64)).toInt64 &&& 63))), (upB M key)⟩ rfl ⟨(show (((upB M key)), hi, (mi + 1), si) = tKey key (M, hi, mi, si) from by unfold tKey; rw [if_neg (by show ¬ M key = true; rw [hm9]; decide)]), (show rM (up F (key / 64) ((F (key / 64)) ||| (1 <<< ((jz (key % 64)).toInt64 &&& 63)))) ((upB M key)) from by exact rM_up hM (by omega) (by omega))⟩ rfl hQ
        · have hm9 : M key = true := by cases hb9 : M key with | true => rfl | false => exact absurd ((rM_hit hM (by omega) (by omega)).mpr hb9) c_3
          refine lv_aload_n hx hb dX0_meet_37 rfl (lv_at hl 2 rfl) ?_
          refine lv_dup hx hb dX0_meet_38 rfl ?_
          refine va_get (ci := 0) (v := .int (jz hi)) (C := RX0) (T := TX0) (N := 5) hx hb hts wfX0 hown hK.1 hP 0 rfl rfl 2 (by decide) (hts _ wm128) (fun _ h9 => h9) rfl dX0_meet_39 ?_
          refine jv_iconst hx hb dX0_meet_42 ?_
          refine jv_iadd hx hb dX0_meet_43 ?_
          refine va_put (ci := 0) (v := .int (jz (hi + 1))) (ty := .int) (C := RX0) (T := TX0) (N := 5) hx hb hts wfX0 tyX0 tyX0_ok nmX0 hown hK.1 hP hD hS 0 rfl rfl 2 (by decide) (hts _ wm128) (fun _ h9 => h9) rfl (by decide +kernel) rfl rfl (Nat.le_of_ble_eq_true rfl) dX0_meet_44 (fun H locs hP hD hS => ?_)
          have hP : wP G [bTab G ta tm bs (hi + 1) mi si F] H := hP
          have hD : wD A [bTab G ta tm bs (hi + 1) mi si F] := hD
          refine lv_goto (tgt := 74) hx hb dX0_meet_47 (by decide) ?_
          exact cret_v hx hb hr hlocks hS hP hD (Nat.le_of_ble_eq_true rfl) (Nat.le_of_ble_eq_true rfl) dX0_meet_74 [0] (by decide) ⟨hi + 1, mi, F, M⟩ rfl ⟨(show (M, (hi + 1), mi, si) = tKey key (M, hi, mi, si) from by unfold tKey; rw [if_pos hm9]), (show rM F M from by exact hM)⟩ rfl hQ
      · exfalso; omega
  exact KH s.heap [] hP hD hS
abbrev rmX0_meetBlocks : Room := { frames := 4, cells := 0, slots := 0, locals := 95 }
set_option maxHeartbeats 4000000 in
set_option maxRecDepth 100000 in
theorem mX0_meetBlocks (l : Launch) (G : GG) (ta : Nat) (tm : Nat) (bs : Int) (hi : Int) (mi : Int) (si : Int) (F : Int → Int64) (q : Nat) (b : Nat) (h : Int → Int) (t : Nat) (a : Nat) (n : Int) (g : Int → Int) (t2 : Nat) (a2 : Nat) (n2 : Int) (g2 : Int → Int) (M : Int → Bool) (hn : 0 ≤ n ∧ n ≤ 20) (hn2 : 0 ≤ n2 ∧ n2 ≤ 20) (hg : ∀ j : Int, 0 ≤ j → j < n → 0 ≤ g j ∧ g j < 4) (hg2 : ∀ j : Int, 0 ≤ j → j < n2 → 0 ≤ g2 j ∧ g2 j < 4) (hbs : bs = 1 ∨ bs = 2) (hh : ∀ x y : Int, 0 ≤ x → x ≤ n → 0 ≤ y → y ≤ n2 → h (x * 21 + y) = D 1 g g2 x y) (hM : rM F M) : Ct l yX0_meetBlocks cX0_meetBlocks 9 none rmX0_meetBlocks G [.ref ta, .ref q, .ref t, .ref t2] [bTab G ta tm bs hi mi si F, bGrid G q b h, bText G t a n g, bText G t2 a2 n2 g2] (fun uo : Int × Int × Int × (Int → Int64) × (Int → Bool) => none) (fun uo => ((uo.2.2.2.2, uo.1, uo.2.1, uo.2.2.1) = tGo bs g g2 n n2 (M, hi, mi, si)) ∧ (rM uo.2.2.2.1 uo.2.2.2.2)) (fun uo => [bTab G ta tm bs uo.1 uo.2.1 uo.2.2.1 uo.2.2.2.1, bGrid G q b h, bText G t a n g, bText G t2 a2 n2 g2]) := by
  refine cof (by decide) (Nat.le_of_ble_eq_true rfl) ?_
  intro p e s m args below meth c A ls hx hb hr hml hown hts hlocks hin hA hK hP hD hS hl Q hQ
  have hown : s.vm.findClass RX0 = some m.cls := hown
  have hl : lv_has ls 9 [(0, .ref ta), (1, .ref q), (2, .ref t), (3, .ref t2)] := hl
  have KH : ∀ (H : Heap) (locs : List Loc), wP G [bTab G ta tm bs hi mi si F, bGrid G q b h, bText G t a n g, bText G t2 a2 n2 g2] H → wD A [bTab G ta tm bs hi mi si F, bGrid G q b h, bText G t a n g, bText G t2 a2 n2 g2] → va_S A s.heap H locs → W p l e rmX0_meetBlocks s m args below meth c H locs 0 0 Q (F0 m 0 ls []) := by
    intro H locs hP hD hS
    refine jv_iconst hx hb dX0_meetBlocks_0 ?_
    refine lv_aload_n hx hb dX0_meetBlocks_1 rfl (lv_at hl 0 rfl) ?_
    refine va_get (ci := 0) (v := .int (jz bs)) (C := RX0) (T := TX0) (N := 5) hx hb hts wfX0 hown hK.1 hP 0 rfl rfl 1 (by decide) (hts _ wm127) (fun _ h9 => h9) rfl dX0_meetBlocks_2 ?_
    refine jv_max hx hb (hml.trans hl.1.symm) hown (hts _ wm473) (hts _ wm474) (hts _ wm26) (hts _ wm475) (Nat.le_of_ble_eq_true rfl) (Nat.le_of_ble_eq_true rfl) (Nat.le_of_ble_eq_true rfl) (Nat.le_of_ble_eq_true rfl) (by omega) (by omega) dX0_meetBlocks_5 ?_
    refine jv_to (z' := bs) (by omega) ?_
    refine lv_istore (lv' := [(4, .int (jz bs)), (0, .ref ta), (1, .ref q), (2, .ref t), (3, .ref t2)]) hx hb dX0_meetBlocks_8 hl (by decide) rfl (fun ls hl => ?_)
    refine jv_iconst hx hb dX0_meetBlocks_10 ?_
    refine lv_istore (lv' := [(5, .int (jz 1)), (4, .int (jz bs)), (0, .ref ta), (1, .ref q), (2, .ref t), (3, .ref t2)]) hx hb dX0_meetBlocks_11 hl (by decide) rfl (fun ls hl => ?_)
    have K13 : ∀ (n9 : Nat) (i : Int) (h9 : Int) (m9 : Int) (s9 : Int) (F9 : Int → Int64) (M9 : Int → Bool) (f : Nat) , ((n + 2 - i).toNat) < n9 → (1 ≤ i ∧ i ≤ n + 2) → (tAll bs g g2 n n2 f i (M9, h9, m9, s9) = tGo bs g g2 n n2 (M, hi, mi, si)) → ((n + 1 - i).toNat ≤ f) → (rM F9 M9) → ∀ (H : Heap) (locs : List Loc) (ls : Array Slot), wP G [bTab G ta tm bs h9 m9 s9 F9, bGrid G q b h, bText G t a n g, bText G t2 a2 n2 g2] H → wD A [bTab G ta tm bs h9 m9 s9 F9, bGrid G q b h, bText G t a n g, bText G t2 a2 n2 g2] → va_S A s.heap H locs → lv_has ls 9 [(0, .ref ta), (1, .ref q), (2, .ref t), (3, .ref t2), (4, .int (jz bs)), (5, .int (jz i))] → W p l e rmX0_meetBlocks s m args below meth c H locs 0 0 Q (F0 m 13 ls []) := by
      intro n9
      induction n9 with
      | zero => intro i h9 m9 s9 F9 M9 f hm9; exact absurd hm9 (Nat.not_lt_zero _)
      | succ n9 ih13 =>
        intro i h9 m9 s9 F9 M9 f hm9 hi1 hall hf hM9 H locs ls hP hD hS hl
        refine lv_iload hx hb dX0_meetBlocks_13 (lv_at hl 5 rfl) ?_
        refine lv_aload_n hx hb dX0_meetBlocks_15 rfl (lv_at hl 2 rfl) ?_
        refine kV ⟨hx, hb, hml, hown, hts⟩ hK hA hS hP hD [] [.int (jz i)] (mX6_size l G t a n g ) lkX0_40 [2] [0, 1, 3] (br := [bTab G ta tm bs h9 m9 s9 F9, bGrid G q b h, bText G t2 a2 n2 g2]) rfl rfl (by decide) 0 6 rfl rfl rfl rfl (Nat.le_of_ble_eq_true rfl) hl.1 dX0_meetBlocks_16 ⟨Nat.le_of_ble_eq_true rfl, Nat.le_of_ble_eq_true rfl⟩ ⟨Nat.le_of_ble_eq_true rfl, Nat.le_of_ble_eq_true rfl⟩ (fun u9 H locs hp9 hP hD hS => ?_)
        have hP : wP G [bTab G ta tm bs h9 m9 s9 F9, bGrid G q b h, bText G t2 a2 n2 g2, bText G t a n g] H := hP
        have hD : wD A [bTab G ta tm bs h9 m9 s9 F9, bGrid G q b h, bText G t2 a2 n2 g2, bText G t a n g] := hD
        show W p l e rmX0_meetBlocks s m args below meth c H locs 0 0 Q (F0 m 19 ls [.int (jz n), .int (jz i)])
        refine jv_icmp_gt (tgt := 132) hx hb dX0_meetBlocks_19 (by decide) (by omega) (by omega) (fun c_2 => ?_) (fun c_2 => ?_)
        · exact cret_v hx hb hr hlocks hS hP hD (Nat.le_of_ble_eq_true rfl) (Nat.le_of_ble_eq_true rfl) dX0_meetBlocks_132 [0, 1, 3, 2] (by decide) ⟨h9, m9, s9, F9, M9⟩ rfl ⟨(show (M9, h9, m9, s9) = tGo bs g g2 n n2 (M, hi, mi, si) from by have q9 := tAll_e hall (by omega); exact q9), (show rM F9 M9 from by exact hM9)⟩ rfl hQ
        · refine lv_iload hx hb dX0_meetBlocks_22 (lv_at hl 4 rfl) ?_
          refine lv_aload_n hx hb dX0_meetBlocks_24 rfl (lv_at hl 2 rfl) ?_
          obtain ⟨f2, hAl, hf2⟩ := tAll_s hall (by omega) hf (by omega)
          obtain ⟨R9, hR9⟩ : ∃ z, z = tRow bs g g2 n n2 i 21 1 (M9, h9, m9, s9) := ⟨_, rfl⟩
          rw [← hR9] at hAl
          refine kV ⟨hx, hb, hml, hown, hts⟩ hK hA hS hP hD [] [.int (jz bs)] (mX6_size l G t a n g ) lkX0_40 [3] [0, 1, 2] (br := [bTab G ta tm bs h9 m9 s9 F9, bGrid G q b h, bText G t2 a2 n2 g2]) rfl rfl (by decide) 0 6 rfl rfl rfl rfl (Nat.le_of_ble_eq_true rfl) hl.1 dX0_meetBlocks_25 ⟨Nat.le_of_ble_eq_true rfl, Nat.le_of_ble_eq_true rfl⟩ ⟨Nat.le_of_ble_eq_true rfl, Nat.le_of_ble_eq_true rfl⟩ (fun u9 H locs hp9 hP hD hS => ?_)
          have hP : wP G [bTab G ta tm bs h9 m9 s9 F9, bGrid G q b h, bText G t2 a2 n2 g2, bText G t a n g] H := hP
          have hD : wD A [bTab G ta tm bs h9 m9 s9 F9, bGrid G q b h, bText G t2 a2 n2 g2, bText G t a n g] := hD
          show W p l e rmX0_meetBlocks s m args below meth c H locs 0 0 Q (F0 m 28 ls [.int (jz n), .int (jz bs)])
          refine lv_iload hx hb dX0_meetBlocks_28 (lv_at hl 5 rfl) ?_
          refine jv_isub hx hb dX0_meetBlocks_30 ?_
          refine jv_iconst hx hb dX0_meetBlocks_31 ?_
          refine jv_iadd hx hb dX0_meetBlocks_32 ?_
          refine jv_min hx hb (hml.trans hl.1.symm) hown (hts _ wm477) (hts _ wm467) (hts _ wm26) (hts _ wm468) (Nat.le_of_ble_eq_true rfl) (Nat.le_of_ble_eq_true rfl) (Nat.le_of_ble_eq_true rfl) (Nat.le_of_ble_eq_true rfl) (by omega) (by omega) dX0_meetBlocks_33 ?_
          refine lv_istore (lv' := [(6, .int (jz (min bs ((n - i) + 1)))), (0, .ref ta), (1, .ref q), (2, .ref t), (3, .ref t2), (4, .int (jz bs)), (5, .int (jz i))]) hx hb dX0_meetBlocks_36 hl (by decide) rfl (fun ls hl => ?_)
          refine jv_iconst hx hb dX0_meetBlocks_38 ?_
          refine lv_istore (lv' := [(7, .int (jz 1)), (6, .int (jz (min bs ((n - i) + 1)))), (0, .ref ta), (1, .ref q), (2, .ref t), (3, .ref t2), (4, .int (jz bs)), (5, .int (jz i))]) hx hb dX0_meetBlocks_39 hl (by decide) rfl (fun ls hl => ?_)
          have K41 : ∀ (n9 : Nat) (j : Int) (h9 : Int) (m9 : Int) (s9 : Int) (F9 : Int → Int64) (M9 : Int → Bool) (fr : Nat) , ((n2 + 2 - j).toNat) < n9 → (1 ≤ j ∧ j ≤ n2 + 2) → (tRow bs g g2 n n2 i fr j (M9, h9, m9, s9) = R9) → ((n2 + 1 - j).toNat ≤ fr) → (rM F9 M9) → ∀ (H : Heap) (locs : List Loc) (ls : Array Slot), wP G [bTab G ta tm bs h9 m9 s9 F9, bGrid G q b h, bText G t a n g, bText G t2 a2 n2 g2] H → wD A [bTab G ta tm bs h9 m9 s9 F9, bGrid G q b h, bText G t a n g, bText G t2 a2 n2 g2] → va_S A s.heap H locs → lv_has ls 9 [(0, .ref ta), (1, .ref q), (2, .ref t), (3, .ref t2), (4, .int (jz bs)), (5, .int (jz i)), (6, .int (jz (min bs (n - i + 1)))), (7, .int (jz j))] → W p l e rmX0_meetBlocks s m args below meth c H locs 0 0 Q (F0 m 41 ls []) := by
            intro n9
            induction n9 with
            | zero => intro j h9 m9 s9 F9 M9 fr hm9; exact absurd hm9 (Nat.not_lt_zero _)
            | succ n9 ih41 =>
              intro j h9 m9 s9 F9 M9 fr hm9 hj1 hrow hfr hM9 H locs ls hP hD hS hl
              refine lv_iload hx hb dX0_meetBlocks_41 (lv_at hl 7 rfl) ?_
              refine lv_aload_n hx hb dX0_meetBlocks_43 rfl (lv_at hl 3 rfl) ?_
              refine kV ⟨hx, hb, hml, hown, hts⟩ hK hA hS hP hD [] [.int (jz j)] (mX6_size l G t2 a2 n2 g2 ) lkX0_40 [3] [0, 1, 2] (br := [bTab G ta tm bs h9 m9 s9 F9, bGrid G q b h, bText G t a n g]) rfl rfl (by decide) 0 6 rfl rfl rfl rfl (Nat.le_of_ble_eq_true rfl) hl.1 dX0_meetBlocks_44 ⟨Nat.le_of_ble_eq_true rfl, Nat.le_of_ble_eq_true rfl⟩ ⟨Nat.le_of_ble_eq_true rfl, Nat.le_of_ble_eq_true rfl⟩ (fun u9 H locs hp9 hP hD hS => ?_)
              have hP : wP G [bTab G ta tm bs h9 m9 s9 F9, bGrid G q b h, bText G t a n g, bText G t2 a2 n2 g2] H := hP
              have hD : wD A [bTab G ta tm bs h9 m9 s9 F9, bGrid G q b h, bText G t a n g, bText G t2 a2 n2 g2] := hD
              show W p l e rmX0_meetBlocks s m args below meth c H locs 0 0 Q (F0 m 47 ls [.int (jz n2), .int (jz j)])
              refine jv_icmp_gt (tgt := 122) hx hb dX0_meetBlocks_47 (by decide) (by omega) (by omega) (fun c_5 => ?_) (fun c_5 => ?_)
              · refine lv_iload hx hb dX0_meetBlocks_122 (lv_at hl 5 rfl) ?_
                refine lv_iload hx hb dX0_meetBlocks_124 (lv_at hl 4 rfl) ?_
                refine jv_iadd hx hb dX0_meetBlocks_126 ?_
                refine lv_istore (lv' := [(5, .int (jz (i + bs))), (0, .ref ta), (1, .ref q), (2, .ref t), (3, .ref t2), (4, .int (jz bs)), (6, .int (jz (min bs (n - i + 1)))), (7, .int (jz j))]) hx hb dX0_meetBlocks_127 hl (by decide) rfl (fun ls hl => ?_)
                refine lv_goto (tgt := 13) hx hb dX0_meetBlocks_129 (by decide) ?_
                exact ih13 (i + bs) h9 m9 s9 F9 M9 f2 (by omega) (by omega) (by rw [tRow_e hrow (by omega)]; exact hAl) (by exact hf2) (by exact hM9) H _ _ hP hD hS (lv_sub hl [1, 2, 3, 4, 5, 0] rfl)
              · refine lv_iload hx hb dX0_meetBlocks_50 (lv_at hl 4 rfl) ?_
                refine lv_aload_n hx hb dX0_meetBlocks_52 rfl (lv_at hl 3 rfl) ?_
                obtain ⟨fr2, hrow2, hfr2⟩ := tRow_s hrow (by omega) hfr (by omega)
                refine kV ⟨hx, hb, hml, hown, hts⟩ hK hA hS hP hD [] [.int (jz bs)] (mX6_size l G t2 a2 n2 g2 ) lkX0_40 [3] [0, 1, 2] (br := [bTab G ta tm bs h9 m9 s9 F9, bGrid G q b h, bText G t a n g]) rfl rfl (by decide) 0 6 rfl rfl rfl rfl (Nat.le_of_ble_eq_true rfl) hl.1 dX0_meetBlocks_53 ⟨Nat.le_of_ble_eq_true rfl, Nat.le_of_ble_eq_true rfl⟩ ⟨Nat.le_of_ble_eq_true rfl, Nat.le_of_ble_eq_true rfl⟩ (fun u9 H locs hp9 hP hD hS => ?_)
                have hP : wP G [bTab G ta tm bs h9 m9 s9 F9, bGrid G q b h, bText G t a n g, bText G t2 a2 n2 g2] H := hP
                have hD : wD A [bTab G ta tm bs h9 m9 s9 F9, bGrid G q b h, bText G t a n g, bText G t2 a2 n2 g2] := hD
                show W p l e rmX0_meetBlocks s m args below meth c H locs 0 0 Q (F0 m 56 ls [.int (jz n2), .int (jz bs)])
                refine lv_iload hx hb dX0_meetBlocks_56 (lv_at hl 7 rfl) ?_
                refine jv_isub hx hb dX0_meetBlocks_58 ?_
                refine jv_iconst hx hb dX0_meetBlocks_59 ?_
                refine jv_iadd hx hb dX0_meetBlocks_60 ?_
                refine jv_min hx hb (hml.trans hl.1.symm) hown (hts _ wm477) (hts _ wm467) (hts _ wm26) (hts _ wm468) (Nat.le_of_ble_eq_true rfl) (Nat.le_of_ble_eq_true rfl) (Nat.le_of_ble_eq_true rfl) (Nat.le_of_ble_eq_true rfl) (by omega) (by omega) dX0_meetBlocks_61 ?_
                refine lv_istore (lv' := [(8, .int (jz (min bs ((n2 - j) + 1)))), (0, .ref ta), (1, .ref q), (2, .ref t), (3, .ref t2), (4, .int (jz bs)), (5, .int (jz i)), (6, .int (jz (min bs (n - i + 1)))), (7, .int (jz j))]) hx hb dX0_meetBlocks_64 hl (by decide) rfl (fun ls hl => ?_)
                refine lv_iload hx hb dX0_meetBlocks_66 (lv_at hl 7 rfl) ?_
                refine lv_iload hx hb dX0_meetBlocks_68 (lv_at hl 5 rfl) ?_
                refine jv_icmp_ne (tgt := 98) hx hb dX0_meetBlocks_70 (by decide) (by omega) (by omega) (fun c_7 => ?_) (fun c_7 => ?_)
                · refine lv_aload_n hx hb dX0_meetBlocks_98 rfl (lv_at hl 1 rfl) ?_
                  refine lv_dup hx hb dX0_meetBlocks_99 rfl ?_
                  refine va_get (ci := 0) (v := .int (jz s9)) (C := RX0) (T := TX0) (N := 5) hx hb hts wfX0 hown hK.1 hP 0 rfl rfl 4 (by decide) (hts _ wm130) (fun _ h9 => h9) rfl dX0_meetBlocks_100 ?_
                  refine lv_iload hx hb dX0_meetBlocks_103 (lv_at hl 7 rfl) ?_
                  refine lv_iload hx hb dX0_meetBlocks_105 (lv_at hl 0 rfl) ?_
                  refine jv_imul hx hb dX0_meetBlocks_107 ?_
                  refine jv_iadd hx hb dX0_meetBlocks_108 ?_
                  refine va_put (ci := 0) (v := .int (jz (s9 + ((min bs (n - i + 1)) * (min bs ((n2 - j) + 1)))))) (ty := .int) (C := RX0) (T := TX0) (N := 5) hx hb hts wfX0 tyX0 tyX0_ok nmX0 hown hK.1 hP hD hS 0 rfl rfl 4 (by decide) (hts _ wm130) (fun _ h9 => h9) rfl (by decide +kernel) rfl rfl (Nat.le_of_ble_eq_true rfl) dX0_meetBlocks_109 (fun H locs hP hD hS => ?_)
                  have hP : wP G [bTab G ta tm bs h9 m9 (s9 + ((min bs (n - i + 1)) * (min bs ((n2 - j) + 1)))) F9, bGrid G q b h, bText G t a n g, bText G t2 a2 n2 g2] H := hP
                  have hD : wD A [bTab G ta tm bs h9 m9 (s9 + ((min bs (n - i + 1)) * (min bs ((n2 - j) + 1)))) F9, bGrid G q b h, bText G t a n g, bText G t2 a2 n2 g2] := hD
                  refine lv_iload hx hb dX0_meetBlocks_112 (lv_at hl 8 rfl) ?_
                  refine lv_iload hx hb dX0_meetBlocks_114 (lv_at hl 5 rfl) ?_
                  refine jv_iadd hx hb dX0_meetBlocks_116 ?_
                  refine lv_istore (lv' := [(7, .int (jz (j + bs))), (8, .int (jz (min bs ((n2 - j) + 1)))), (0, .ref ta), (1, .ref q), (2, .ref t), (3, .ref t2), (4, .int (jz bs)), (5, .int (jz i)), (6, .int (jz (min bs (n - i + 1))))]) hx hb dX0_meetBlocks_117 hl (by decide) rfl (fun ls hl => ?_)
                  refine lv_goto (tgt := 41) hx hb dX0_meetBlocks_119 (by decide) ?_
                  exact ih41 (j + bs) h9 m9 (s9 + ((min bs (n - i + 1)) * (min bs ((n2 - j) + 1)))) F9 M9 fr2 (by omega) (by omega) (by have q9 := hrow2; rw [tBlk, if_neg (by omega)] at q9; exact q9) (by exact hfr2) (by exact hM9) H _ _ hP hD hS (lv_sub hl [2, 3, 4, 5, 6, 7, 8, 0] rfl)
                · refine lv_iload hx hb dX0_meetBlocks_73 (lv_at hl 0 rfl) ?_
                  refine lv_iload hx hb dX0_meetBlocks_75 (lv_at hl 5 rfl) ?_
                  refine jv_icmp_ne (tgt := 98) hx hb dX0_meetBlocks_77 (by decide) (by omega) (by omega) (fun c_8 => ?_) (fun c_8 => ?_)
                  · refine lv_aload_n hx hb dX0_meetBlocks_98 rfl (lv_at hl 1 rfl) ?_
                    refine lv_dup hx hb dX0_meetBlocks_99 rfl ?_
                    refine va_get (ci := 0) (v := .int (jz s9)) (C := RX0) (T := TX0) (N := 5) hx hb hts wfX0 hown hK.1 hP 0 rfl rfl 4 (by decide) (hts _ wm130) (fun _ h9 => h9) rfl dX0_meetBlocks_100 ?_
                    refine lv_iload hx hb dX0_meetBlocks_103 (lv_at hl 7 rfl) ?_
                    refine lv_iload hx hb dX0_meetBlocks_105 (lv_at hl 0 rfl) ?_
                    refine jv_imul hx hb dX0_meetBlocks_107 ?_
                    refine jv_iadd hx hb dX0_meetBlocks_108 ?_
                    refine va_put (ci := 0) (v := .int (jz (s9 + ((min bs (n - i + 1)) * (min bs ((n2 - j) + 1)))))) (ty := .int) (C := RX0) (T := TX0) (N := 5) hx hb hts wfX0 tyX0 tyX0_ok nmX0 hown hK.1 hP hD hS 0 rfl rfl 4 (by decide) (hts _ wm130) (fun _ h9 => h9) rfl (by decide +kernel) rfl rfl (Nat.le_of_ble_eq_true rfl) dX0_meetBlocks_109 (fun H locs hP hD hS => ?_)
                    have hP : wP G [bTab G ta tm bs h9 m9 (s9 + ((min bs (n - i + 1)) * (min bs ((n2 - j) + 1)))) F9, bGrid G q b h, bText G t a n g, bText G t2 a2 n2 g2] H := hP
                    have hD : wD A [bTab G ta tm bs h9 m9 (s9 + ((min bs (n - i + 1)) * (min bs ((n2 - j) + 1)))) F9, bGrid G q b h, bText G t a n g, bText G t2 a2 n2 g2] := hD
                    refine lv_iload hx hb dX0_meetBlocks_112 (lv_at hl 8 rfl) ?_
                    refine lv_iload hx hb dX0_meetBlocks_114 (lv_at hl 5 rfl) ?_
                    refine jv_iadd hx hb dX0_meetBlocks_116 ?_
                    refine lv_istore (lv' := [(7, .int (jz (j + bs))), (8, .int (jz (min bs ((n2 - j) + 1)))), (0, .ref ta), (1, .ref q), (2, .ref t), (3, .ref t2), (4, .int (jz bs)), (5, .int (jz i)), (6, .int (jz (min bs (n - i + 1))))]) hx hb dX0_meetBlocks_117 hl (by decide) rfl (fun ls hl => ?_)
                    refine lv_goto (tgt := 41) hx hb dX0_meetBlocks_119 (by decide) ?_
                    exact ih41 (j + bs) h9 m9 (s9 + ((min bs (n - i + 1)) * (min bs ((n2 - j) + 1)))) F9 M9 fr2 (by omega) (by omega) (by have q9 := hrow2; rw [tBlk, if_neg (by omega)] at q9; exact q9) (by exact hfr2) (by exact hM9) H _ _ hP hD hS (lv_sub hl [2, 3, 4, 5, 6, 7, 8, 0] rfl)
                  · refine lv_aload_n hx hb dX0_meetBlocks_80 rfl (lv_at hl 1 rfl) ?_
                    refine lv_aload_n hx hb dX0_meetBlocks_81 rfl (lv_at hl 1 rfl) ?_
                    refine lv_aload_n hx hb dX0_meetBlocks_82 rfl (lv_at hl 2 rfl) ?_
                    refine lv_aload_n hx hb dX0_meetBlocks_83 rfl (lv_at hl 3 rfl) ?_
                    refine lv_aload_n hx hb dX0_meetBlocks_84 rfl (lv_at hl 4 rfl) ?_
                    refine lv_iload hx hb dX0_meetBlocks_85 (lv_at hl 6 rfl) ?_
                    refine lv_iload hx hb dX0_meetBlocks_87 (lv_at hl 8 rfl) ?_
                    refine kV ⟨hx, hb, hml, hown, hts⟩ hK hA hS hP hD [.ref q, .ref t, .ref t2, .int (jz i), .int (jz j)] [.ref ta] (mX0_keyOf l G ta tm bs h9 m9 s9 F9 q b h t a n g t2 a2 n2 g2 i j (by omega) (by omega) (by exact hg) (by exact hg2) (by omega) (by omega) (by omega) (by exact hh)) lkX0_49 [0, 1, 2, 3] [] (br := []) rfl rfl (by decide) 0 0 rfl rfl rfl rfl (Nat.le_of_ble_eq_true rfl) hl.1 dX0_meetBlocks_89 ⟨Nat.le_of_ble_eq_true rfl, Nat.le_of_ble_eq_true rfl⟩ ⟨Nat.le_of_ble_eq_true rfl, Nat.le_of_ble_eq_true rfl⟩ (fun u9 H locs hp9 hP hD hS => ?_)
                    have hP : wP G [bTab G ta tm bs h9 m9 s9 F9, bGrid G q b h, bText G t a n g, bText G t2 a2 n2 g2] H := hP
                    have hD : wD A [bTab G ta tm bs h9 m9 s9 F9, bGrid G q b h, bText G t a n g, bText G t2 a2 n2 g2] := hD
                    show W p l e rmX0_meetBlocks s m args below meth c H locs 0 0 Q (F0 m 92 ls [.int (jz (keyC bs g g2 i j)), .ref ta])
                    refine jv_top (fun r_10 er_10 => ?_)
                    have hkb := keyC_bd hbs hg hg2 (i := i) (j := j) (by omega) (by omega)
                    rw [← er_10] at hkb
                    refine kV ⟨hx, hb, hml, hown, hts⟩ hK hA hS hP hD [.int (jz r_10)] [] (mX0_meet l G ta tm bs h9 m9 s9 F9 r_10 M9 (by omega) (by exact hM9)) lkX0_53 [0] [1, 2, 3] (br := [bGrid G q b h, bText G t a n g, bText G t2 a2 n2 g2]) rfl rfl (by decide) 0 0 rfl rfl rfl rfl (Nat.le_of_ble_eq_true rfl) hl.1 dX0_meetBlocks_92 ⟨Nat.le_of_ble_eq_true rfl, Nat.le_of_ble_eq_true rfl⟩ ⟨Nat.le_of_ble_eq_true rfl, Nat.le_of_ble_eq_true rfl⟩ (fun u9 H locs hp9 hP hD hS => ?_)
                    obtain ⟨u_11, u_12, u_13, u_14⟩ := u9
                    have hc_15 : (u_14, u_11, u_12, s9) = tKey r_10 (M9, h9, m9, s9) := hp9.1
                    have hd_16 : rM u_13 u_14 := hp9.2
                    have hP : wP G [bGrid G q b h, bText G t a n g, bText G t2 a2 n2 g2, bTab G ta tm bs u_11 u_12 s9 u_13] H := hP
                    have hD : wD A [bGrid G q b h, bText G t a n g, bText G t2 a2 n2 g2, bTab G ta tm bs u_11 u_12 s9 u_13] := hD
                    show W p l e rmX0_meetBlocks s m args below meth c H locs 0 0 Q (F0 m 95 ls [])
                    have hpc := hc_15
                    have hpd := hd_16
                    refine lv_goto (tgt := 112) hx hb dX0_meetBlocks_95 (by decide) ?_
                    refine lv_iload hx hb dX0_meetBlocks_112 (lv_at hl 8 rfl) ?_
                    refine lv_iload hx hb dX0_meetBlocks_114 (lv_at hl 5 rfl) ?_
                    refine jv_iadd hx hb dX0_meetBlocks_116 ?_
                    refine lv_istore (lv' := [(7, .int (jz (j + bs))), (8, .int (jz (min bs ((n2 - j) + 1)))), (0, .ref ta), (1, .ref q), (2, .ref t), (3, .ref t2), (4, .int (jz bs)), (5, .int (jz i)), (6, .int (jz (min bs (n - i + 1))))]) hx hb dX0_meetBlocks_117 hl (by decide) rfl (fun ls hl => ?_)
                    refine lv_goto (tgt := 41) hx hb dX0_meetBlocks_119 (by decide) ?_
                    exact ih41 (j + bs) u_11 u_12 s9 u_13 u_14 fr2 (by omega) (by omega) (by have q9 := hrow2; rw [tBlk, if_pos ⟨by omega, by omega⟩, ← er_10, ← hpc] at q9; exact q9) (by exact hfr2) (by exact hpd) H _ _ (wP_sub (bc := [bTab G ta tm bs u_11 u_12 s9 u_13, bGrid G q b h, bText G t a n g, bText G t2 a2 n2 g2]) hP [3, 0, 1, 2] rfl) (wD_sub (bc := [bTab G ta tm bs u_11 u_12 s9 u_13, bGrid G q b h, bText G t a n g, bText G t2 a2 n2 g2]) hD [3, 0, 1, 2] (by decide) rfl) hS (lv_sub hl [2, 3, 4, 5, 6, 7, 8, 0] rfl)
          exact K41 (((n2 + 2 - 1).toNat) + 1) 1 h9 m9 s9 F9 M9 21 (Nat.lt_succ_self _) (by omega) (by exact hR9.symm) (by omega) (by exact hM9) H _ _ (wP_sub (bc := [bTab G ta tm bs h9 m9 s9 F9, bGrid G q b h, bText G t a n g, bText G t2 a2 n2 g2]) hP [0, 1, 3, 2] rfl) (wD_sub (bc := [bTab G ta tm bs h9 m9 s9 F9, bGrid G q b h, bText G t a n g, bText G t2 a2 n2 g2]) hD [0, 1, 3, 2] (by decide) rfl) hS (lv_sub hl [2, 3, 4, 5, 6, 7, 1, 0] rfl)
    exact K13 (((n + 2 - 1).toNat) + 1) 1 hi mi si F M 21 (Nat.lt_succ_self _) (by omega) (by rfl) (by omega) (by exact hM) H _ _ hP hD hS (lv_sub hl [2, 3, 4, 5, 1, 0] rfl)
  exact KH s.heap [] hP hD hS
