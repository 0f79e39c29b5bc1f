abbrev bSaved (G : GG) (sv : Nat) (sa : Nat) (od : Int) (sz : Int) (f : Int → Option Nat) : va_W := [(sv, .inr (4, [.ref sa, .int (jz od), .int (jz sz)])), (sa, jq G 6 f)]
abbrev rmX5_init : Room := { frames := 2, cells := 4, slots := 44, locals := 40 }
set_option maxHeartbeats 4000000 in
set_option maxRecDepth 100000 in
theorem mX5_init (l : Launch) (G : GG) (st : Nat)  : Ct l yX5_init cX5_init 1 none rmX5_init G [.ref st] [[(st, .inr (5, [.null, .null, .int (jz 0)]))]] (fun uo : Nat × Nat × Nat × Nat => none) (fun uo => True) (fun uo => [bState G st uo.1 uo.2.2.1 4, bText G uo.1 uo.2.1 0 (fun _ => 0), bText G uo.2.2.1 uo.2.2.2 0 (fun _ => 0)]) := by
  refine cof (by decide) (Nat.le_of_ble_eq_true rfl) ?_
  intro p e s m args below meth c A ls hx hb hr hml hown hts hlocks hin hA hK hP hD hS hl Q hQ
  have hown : s.vm.findClass RX5 = some m.cls := hown
  have hl : lv_has ls 1 [(0, .ref st)] := hl
  have KH : ∀ (H : Heap) (locs : List Loc), wP G [[(st, .inr (5, [.null, .null, .int (jz 0)]))]] H → wD A [[(st, .inr (5, [.null, .null, .int (jz 0)]))]] → va_S A s.heap H locs → W p l e rmX5_init s m args below meth c H locs 0 0 Q (F0 m 0 ls []) := by
    intro H locs hP hD hS
    refine lv_aload_n hx hb dX5_init_0 rfl (lv_at hl 0 rfl) ?_
    refine W.objInit hx hb hown (hts _ wm41) (hts _ wm34) (hts _ wm35) rfl (by rw [hml]; exact hl.1) rfl dX5_init_1 (Nat.le_of_ble_eq_true rfl) (Nat.le_of_ble_eq_true rfl) ?_
    refine W.eq (g2 := F0 m 4 ls []) rfl ?_
    refine lv_aload_n hx hb dX5_init_4 rfl (lv_at hl 0 rfl) ?_
    refine va_new (ci := 6) (fs := [.null, .int (jz 0)]) (C := RX6) (T := TX6) (N := 2) hx hb hts wfX6 tyX6 tyX6_ok hown (hts _ wm42) (hts _ wm43) (hts _ wm13) hK.1 hP hD hS hA rfl (fun j hj => by rcases (show j = 0 ∨ j = 1 by omega) with rfl | rfl <;> rfl) (Nat.le_of_ble_eq_true rfl) (Nat.le_of_ble_eq_true rfl) dX5_init_5 (fun q_1 H hP hD hS => ?_)
    have hP : wP G [[(st, .inr (5, [.null, .null, .int (jz 0)]))], [(q_1, .inr (6, [.null, .int (jz 0)]))]] H := hP
    have hD : wD A [[(st, .inr (5, [.null, .null, .int (jz 0)]))], [(q_1, .inr (6, [.null, .int (jz 0)]))]] := hD
    show W p l e rmX5_init s m args below meth c H locs 1 2 Q (F0 m 8 ls [.ref q_1, .ref st])
    refine lv_dup hx hb dX5_init_8 rfl ?_
    refine kIN ⟨hx, hb, hml, hown, hts⟩ hK hA hS hP hD [] [.ref q_1, .ref st] (mX6_init l G q_1 ) lkX5_11 [1] [0] (br := [[(st, .inr (5, [.null, .null, .int (jz 0)]))]]) rfl rfl (by decide) rfl rfl (Nat.le_of_ble_eq_true rfl) hl.1 dX5_init_9 ⟨Nat.le_of_ble_eq_true rfl, Nat.le_of_ble_eq_true rfl⟩ ⟨Nat.le_of_ble_eq_true rfl, Nat.le_of_ble_eq_true rfl⟩ (fun u9 H locs hp9 hP hD hS => ?_)
    obtain ⟨u_2, rfl⟩ : ∃ z, z = u9 := ⟨_, rfl⟩
    have hP : wP G [[(st, .inr (5, [.null, .null, .int (jz 0)]))], bText G q_1 u_2 0 (fun _ => 0)] H := hP
    have hD : wD A [[(st, .inr (5, [.null, .null, .int (jz 0)]))], bText G q_1 u_2 0 (fun _ => 0)] := hD
    show W p l e rmX5_init s m args below meth c H locs 2 22 Q (F0 m 12 ls [.ref q_1, .ref st])
    refine va_put (ci := 5) (v := .ref q_1) (ty := (.object "BlockDistance$Text")) (C := RX5) (T := TX5) (N := 3) hx hb hts wfX5 tyX5 tyX5_ok nmX5 hown hK.1 hP hD hS 0 rfl rfl 0 (by decide) (hts _ wm56) (fun _ h9 => h9) rfl (by decide +kernel) rfl rfl (Nat.le_of_ble_eq_true rfl) dX5_init_12 (fun H locs hP hD hS => ?_)
    have hP : wP G [[(st, .inr (5, [.ref q_1, .null, .int (jz 0)]))], bText G q_1 u_2 0 (fun _ => 0)] H := hP
    have hD : wD A [[(st, .inr (5, [.ref q_1, .null, .int (jz 0)]))], bText G q_1 u_2 0 (fun _ => 0)] := hD
    refine lv_aload_n hx hb dX5_init_15 rfl (lv_at hl 0 rfl) ?_
    refine va_new (ci := 6) (fs := [.null, .int (jz 0)]) (C := RX6) (T := TX6) (N := 2) hx hb hts wfX6 tyX6 tyX6_ok hown (hts _ wm42) (hts _ wm43) (hts _ wm13) hK.1 hP hD hS hA rfl (fun j hj => by rcases (show j = 0 ∨ j = 1 by omega) with rfl | rfl <;> rfl) (Nat.le_of_ble_eq_true rfl) (Nat.le_of_ble_eq_true rfl) dX5_init_16 (fun q_3 H hP hD hS => ?_)
    have hP : wP G [[(st, .inr (5, [.ref q_1, .null, .int (jz 0)]))], bText G q_1 u_2 0 (fun _ => 0), [(q_3, .inr (6, [.null, .int (jz 0)]))]] H := hP
    have hD : wD A [[(st, .inr (5, [.ref q_1, .null, .int (jz 0)]))], bText G q_1 u_2 0 (fun _ => 0), [(q_3, .inr (6, [.null, .int (jz 0)]))]] := hD
    show W p l e rmX5_init s m args below meth c H locs 3 24 Q (F0 m 19 ls [.ref q_3, .ref st])
    refine lv_dup hx hb dX5_init_19 rfl ?_
    refine kIN ⟨hx, hb, hml, hown, hts⟩ hK hA hS hP hD [] [.ref q_3, .ref st] (mX6_init l G q_3 ) lkX5_11 [2] [0, 1] (br := [[(st, .inr (5, [.ref q_1, .null, .int (jz 0)]))], bText G q_1 u_2 0 (fun _ => 0)]) rfl rfl (by decide) rfl rfl (Nat.le_of_ble_eq_true rfl) hl.1 dX5_init_20 ⟨Nat.le_of_ble_eq_true rfl, Nat.le_of_ble_eq_true rfl⟩ ⟨Nat.le_of_ble_eq_true rfl, Nat.le_of_ble_eq_true rfl⟩ (fun u9 H locs hp9 hP hD hS => ?_)
    obtain ⟨u_4, rfl⟩ : ∃ z, z = u9 := ⟨_, rfl⟩
    have hP : wP G [[(st, .inr (5, [.ref q_1, .null, .int (jz 0)]))], bText G q_1 u_2 0 (fun _ => 0), bText G q_3 u_4 0 (fun _ => 0)] H := hP
    have hD : wD A [[(st, .inr (5, [.ref q_1, .null, .int (jz 0)]))], bText G q_1 u_2 0 (fun _ => 0), bText G q_3 u_4 0 (fun _ => 0)] := hD
    show W p l e rmX5_init s m args below meth c H locs 4 44 Q (F0 m 23 ls [.ref q_3, .ref st])
    refine va_put (ci := 5) (v := .ref q_3) (ty := (.object "BlockDistance$Text")) (C := RX5) (T := TX5) (N := 3) hx hb hts wfX5 tyX5 tyX5_ok nmX5 hown hK.1 hP hD hS 0 rfl rfl 1 (by decide) (hts _ wm57) (fun _ h9 => h9) rfl (by decide +kernel) rfl rfl (Nat.le_of_ble_eq_true rfl) dX5_init_23 (fun H locs hP hD hS => ?_)
    have hP : wP G [[(st, .inr (5, [.ref q_1, .ref q_3, .int (jz 0)]))], bText G q_1 u_2 0 (fun _ => 0), bText G q_3 u_4 0 (fun _ => 0)] H := hP
    have hD : wD A [[(st, .inr (5, [.ref q_1, .ref q_3, .int (jz 0)]))], bText G q_1 u_2 0 (fun _ => 0), bText G q_3 u_4 0 (fun _ => 0)] := hD
    refine lv_aload_n hx hb dX5_init_26 rfl (lv_at hl 0 rfl) ?_
    refine jv_iconst hx hb dX5_init_27 ?_
    refine va_put (ci := 5) (v := .int (jz 4)) (ty := .int) (C := RX5) (T := TX5) (N := 3) hx hb hts wfX5 tyX5 tyX5_ok nmX5 hown hK.1 hP hD hS 0 rfl rfl 2 (by decide) (hts _ wm58) (fun _ h9 => h9) rfl (by decide +kernel) rfl rfl (Nat.le_of_ble_eq_true rfl) dX5_init_28 (fun H locs hP hD hS => ?_)
    have hP : wP G [[(st, .inr (5, [.ref q_1, .ref q_3, .int (jz 4)]))], bText G q_1 u_2 0 (fun _ => 0), bText G q_3 u_4 0 (fun _ => 0)] H := hP
    have hD : wD A [[(st, .inr (5, [.ref q_1, .ref q_3, .int (jz 4)]))], bText G q_1 u_2 0 (fun _ => 0), bText G q_3 u_4 0 (fun _ => 0)] := hD
    have hP : wP G [bState G st q_1 q_3 4, bText G q_1 u_2 0 (fun _ => 0), bText G q_3 u_4 0 (fun _ => 0)] H := hP
    have hD : wD A [bState G st q_1 q_3 4, bText G q_1 u_2 0 (fun _ => 0), bText G q_3 u_4 0 (fun _ => 0)] := hD
    exact cret_v hx hb hr hlocks hS hP hD (Nat.le_of_ble_eq_true rfl) (Nat.le_of_ble_eq_true rfl) dX5_init_31 [0, 1, 2] (by decide) ⟨q_1, u_2, q_3, u_4⟩ rfl trivial rfl hQ
  exact KH s.heap [] hP hD hS
abbrev rmX5_alphabet : Room := { frames := 0, cells := 0, slots := 0, locals := 0 }
set_option maxHeartbeats 4000000 in
set_option maxRecDepth 100000 in
theorem mX5_alphabet (l : Launch) (G : GG) (st : Nat) (t0 : Nat) (t1 : Nat) (al : Int)  : Ct l yX5_alphabet cX5_alphabet 1 (some .int) rmX5_alphabet G [.ref st] [bState G st t0 t1 al] (fun uo : Unit => some (.int (jz al))) (fun uo => True) (fun uo => [bState G st t0 t1 al]) := by
  refine cof (by decide) (Nat.le_of_ble_eq_true rfl) ?_
  intro p e s m args below meth c A ls hx hb hr hml hown hts hlocks hin hA hK hP hD hS hl Q hQ
  have hown : s.vm.findClass RX5 = some m.cls := hown
  have hl : lv_has ls 1 [(0, .ref st)] := hl
  have KH : ∀ (H : Heap) (locs : List Loc), wP G [bState G st t0 t1 al] H → wD A [bState G st t0 t1 al] → va_S A s.heap H locs → W p l e rmX5_alphabet s m args below meth c H locs 0 0 Q (F0 m 0 ls []) := by
    intro H locs hP hD hS
    refine lv_aload_n hx hb dX5_alphabet_0 rfl (lv_at hl 0 rfl) ?_
    refine va_get (ci := 5) (v := .int (jz al)) (C := RX5) (T := TX5) (N := 3) hx hb hts wfX5 hown hK.1 hP 0 rfl rfl 2 (by decide) (hts _ wm58) (fun _ h9 => h9) rfl dX5_alphabet_1 ?_
    exact cret_i hx hb hr hlocks hS hP hD (Nat.le_of_ble_eq_true rfl) (Nat.le_of_ble_eq_true rfl) rfl dX5_alphabet_4 [0] (by decide) () rfl trivial (congrArg (fun z : Int => some (Value.int (jz z))) (show al = al from by first | rfl | omega | (split <;> first | rfl | omega | (exfalso; omega)))) hQ
  exact KH s.heap [] hP hD hS
abbrev rmX5_setLetters : Room := { frames := 0, cells := 0, slots := 0, locals := 0 }
set_option maxHeartbeats 4000000 in
set_option maxRecDepth 100000 in
theorem mX5_setLetters (l : Launch) (G : GG) (st : Nat) (t0 : Nat) (t1 : Nat) (al : Int) (v9 : Int)  : Ct l yX5_setLetters cX5_setLetters 2 none rmX5_setLetters G [.ref st, .int (jz v9)] [bState G st t0 t1 al] (fun uo : Unit => none) (fun uo => True) (fun uo => [bState G st t0 t1 v9]) := by
  refine cof (by decide) (Nat.le_of_ble_eq_true rfl) ?_
  intro p e s m args below meth c A ls hx hb hr hml hown hts hlocks hin hA hK hP hD hS hl Q hQ
  have hown : s.vm.findClass RX5 = some m.cls := hown
  have hl : lv_has ls 2 [(0, .ref st), (1, .int (jz v9))] := hl
  have KH : ∀ (H : Heap) (locs : List Loc), wP G [bState G st t0 t1 al] H → wD A [bState G st t0 t1 al] → va_S A s.heap H locs → W p l e rmX5_setLetters s m args below meth c H locs 0 0 Q (F0 m 0 ls []) := by
    intro H locs hP hD hS
    refine lv_aload_n hx hb dX5_setLetters_0 rfl (lv_at hl 0 rfl) ?_
    refine lv_iload_n hx hb dX5_setLetters_1 rfl (lv_at hl 1 rfl) ?_
    refine va_put (ci := 5) (v := .int (jz v9)) (ty := .int) (C := RX5) (T := TX5) (N := 3) hx hb hts wfX5 tyX5 tyX5_ok nmX5 hown hK.1 hP hD hS 0 rfl rfl 2 (by decide) (hts _ wm58) (fun _ h9 => h9) rfl (by decide +kernel) rfl rfl (Nat.le_of_ble_eq_true rfl) dX5_setLetters_2 (fun H locs hP hD hS => ?_)
    have hP : wP G [bState G st t0 t1 v9] H := hP
    have hD : wD A [bState G st t0 t1 v9] := hD
    exact cret_v hx hb hr hlocks hS hP hD (Nat.le_of_ble_eq_true rfl) (Nat.le_of_ble_eq_true rfl) dX5_setLetters_5 [0] (by decide) () rfl trivial rfl hQ
  exact KH s.heap [] hP hD hS
abbrev rmX5_swapTexts : Room := { frames := 0, cells := 0, slots := 0, locals := 0 }
set_option maxHeartbeats 4000000 in
set_option maxRecDepth 100000 in
theorem mX5_swapTexts (l : Launch) (G : GG) (st : Nat) (t0 : Nat) (t1 : Nat) (al : Int)  : Ct l yX5_swapTexts cX5_swapTexts 2 none rmX5_swapTexts G [.ref st] [bState G st t0 t1 al] (fun uo : Unit => none) (fun uo => True) (fun uo => [bState G st t1 t0 al]) := by
  refine cof (by decide) (Nat.le_of_ble_eq_true rfl) ?_
  intro p e s m args below meth c A ls hx hb hr hml hown hts hlocks hin hA hK hP hD hS hl Q hQ
  have hown : s.vm.findClass RX5 = some m.cls := hown
  have hl : lv_has ls 2 [(0, .ref st)] := hl
  have KH : ∀ (H : Heap) (locs : List Loc), wP G [bState G st t0 t1 al] H → wD A [bState G st t0 t1 al] → va_S A s.heap H locs → W p l e rmX5_swapTexts s m args below meth c H locs 0 0 Q (F0 m 0 ls []) := by
    intro H locs hP hD hS
    refine lv_aload_n hx hb dX5_swapTexts_0 rfl (lv_at hl 0 rfl) ?_
    refine va_get (ci := 5) (v := .ref t0) (C := RX5) (T := TX5) (N := 3) hx hb hts wfX5 hown hK.1 hP 0 rfl rfl 0 (by decide) (hts _ wm56) (fun _ h9 => h9) rfl dX5_swapTexts_1 ?_
    refine lv_astore_n (lv' := [(1, .ref t0), (0, .ref st)]) hx hb dX5_swapTexts_4 rfl hl (by decide) rfl (fun ls hl => ?_)
    refine lv_aload_n hx hb dX5_swapTexts_5 rfl (lv_at hl 1 rfl) ?_
    refine lv_aload_n hx hb dX5_swapTexts_6 rfl (lv_at hl 1 rfl) ?_
    refine va_get (ci := 5) (v := .ref t1) (C := RX5) (T := TX5) (N := 3) hx hb hts wfX5 hown hK.1 hP 0 rfl rfl 1 (by decide) (hts _ wm57) (fun _ h9 => h9) rfl dX5_swapTexts_7 ?_
    refine va_put (ci := 5) (v := .ref t1) (ty := (.object "BlockDistance$Text")) (C := RX5) (T := TX5) (N := 3) hx hb hts wfX5 tyX5 tyX5_ok nmX5 hown hK.1 hP hD hS 0 rfl rfl 0 (by decide) (hts _ wm56) (fun _ h9 => h9) rfl (by decide +kernel) rfl rfl (Nat.le_of_ble_eq_true rfl) dX5_swapTexts_10 (fun H locs hP hD hS => ?_)
    have hP : wP G [bState G st t1 t1 al] H := hP
    have hD : wD A [bState G st t1 t1 al] := hD
    refine lv_aload_n hx hb dX5_swapTexts_13 rfl (lv_at hl 1 rfl) ?_
    refine lv_aload_n hx hb dX5_swapTexts_14 rfl (lv_at hl 0 rfl) ?_
    refine va_put (ci := 5) (v := .ref t0) (ty := (.object "BlockDistance$Text")) (C := RX5) (T := TX5) (N := 3) hx hb hts wfX5 tyX5 tyX5_ok nmX5 hown hK.1 hP hD hS 0 rfl rfl 1 (by decide) (hts _ wm57) (fun _ h9 => h9) rfl (by decide +kernel) rfl rfl (Nat.le_of_ble_eq_true rfl) dX5_swapTexts_15 (fun H locs hP hD hS => ?_)
    have hP : wP G [bState G st t1 t0 al] H := hP
    have hD : wD A [bState G st t1 t0 al] := hD
    exact cret_v hx hb hr hlocks hS hP hD (Nat.le_of_ble_eq_true rfl) (Nat.le_of_ble_eq_true rfl) dX5_swapTexts_18 [0] (by decide) () rfl trivial rfl hQ
  exact KH s.heap [] hP hD hS
abbrev rmX5_text_0 : Room := { frames := 0, cells := 0, slots := 0, locals := 0 }
set_option maxHeartbeats 4000000 in
set_option maxRecDepth 100000 in
theorem mX5_text_0 (l : Launch) (G : GG) (st : Nat) (t0 : Nat) (t1 : Nat) (al : Int) (z : Int) (hz : z = 0) (hz2 : jr z) : Ct l yX5_text cX5_text 2 (some (.object "BlockDistance$Text")) rmX5_text_0 G [.ref st, .int (jz z)] [bState G st t0 t1 al] (fun uo : Unit => some (.ref t0)) (fun uo => True) (fun uo => [bState G st t0 t1 al]) := by
  refine cof (by decide) (Nat.le_of_ble_eq_true rfl) ?_
  intro p e s m args below meth c A ls hx hb hr hml hown hts hlocks hin hA hK hP hD hS hl Q hQ
  have hown : s.vm.findClass RX5 = some m.cls := hown
  have hl : lv_has ls 2 [(0, .ref st), (1, .int (jz z))] := hl
  have KH : ∀ (H : Heap) (locs : List Loc), wP G [bState G st t0 t1 al] H → wD A [bState G st t0 t1 al] → va_S A s.heap H locs → W p l e rmX5_text_0 s m args below meth c H locs 0 0 Q (F0 m 0 ls []) := by
    intro H locs hP hD hS
    refine lv_iload_n hx hb dX5_text_0 rfl (lv_at hl 1 rfl) ?_
    refine jv_if_ne (tgt := 11) hx hb dX5_text_1 (by decide) (by omega) (fun c_1 => ?_) (fun c_1 => ?_)
    · exfalso; omega
    · refine lv_aload_n hx hb dX5_text_4 rfl (lv_at hl 0 rfl) ?_
      refine va_get (ci := 5) (v := .ref t0) (C := RX5) (T := TX5) (N := 3) hx hb hts wfX5 hown hK.1 hP 0 rfl rfl 0 (by decide) (hts _ wm56) (fun _ h9 => h9) rfl dX5_text_5 ?_
      refine lv_goto (tgt := 15) hx hb dX5_text_8 (by decide) ?_
      exact cret_r hx hb hr hlocks hS hP hD (Nat.le_of_ble_eq_true rfl) (Nat.le_of_ble_eq_true rfl) dX5_text_15 [0] (by decide) () rfl trivial (congrArg (fun z : Nat => some (Value.ref z)) (show t0 = t0 from by rfl)) hQ
  exact KH s.heap [] hP hD hS
abbrev rmX5_text_1 : Room := { frames := 0, cells := 0, slots := 0, locals := 0 }
set_option maxHeartbeats 4000000 in
set_option maxRecDepth 100000 in
theorem mX5_text_1 (l : Launch) (G : GG) (st : Nat) (t0 : Nat) (t1 : Nat) (al : Int) (z : Int) (hz : z ≠ 0) (hz2 : jr z) : Ct l yX5_text cX5_text 2 (some (.object "BlockDistance$Text")) rmX5_text_1 G [.ref st, .int (jz z)] [bState G st t0 t1 al] (fun uo : Unit => some (.ref t1)) (fun uo => True) (fun uo => [bState G st t0 t1 al]) := by
  refine cof (by decide) (Nat.le_of_ble_eq_true rfl) ?_
  intro p e s m args below meth c A ls hx hb hr hml hown hts hlocks hin hA hK hP hD hS hl Q hQ
  have hown : s.vm.findClass RX5 = some m.cls := hown
  have hl : lv_has ls 2 [(0, .ref st), (1, .int (jz z))] := hl
  have KH : ∀ (H : Heap) (locs : List Loc), wP G [bState G st t0 t1 al] H → wD A [bState G st t0 t1 al] → va_S A s.heap H locs → W p l e rmX5_text_1 s m args below meth c H locs 0 0 Q (F0 m 0 ls []) := by
    intro H locs hP hD hS
    refine lv_iload_n hx hb dX5_text_0 rfl (lv_at hl 1 rfl) ?_
    refine jv_if_ne (tgt := 11) hx hb dX5_text_1 (by decide) (by omega) (fun c_1 => ?_) (fun c_1 => ?_)
    · refine lv_aload_n hx hb dX5_text_11 rfl (lv_at hl 0 rfl) ?_
      refine va_get (ci := 5) (v := .ref t1) (C := RX5) (T := TX5) (N := 3) hx hb hts wfX5 hown hK.1 hP 0 rfl rfl 1 (by decide) (hts _ wm57) (fun _ h9 => h9) rfl dX5_text_12 ?_
      exact cret_r hx hb hr hlocks hS hP hD (Nat.le_of_ble_eq_true rfl) (Nat.le_of_ble_eq_true rfl) dX5_text_15 [0] (by decide) () rfl trivial (congrArg (fun z : Nat => some (Value.ref z)) (show t1 = t1 from by rfl)) hQ
    · exfalso; omega
  exact KH s.heap [] hP hD hS
abbrev rmX5_copyFrom : Room := { frames := 2, cells := 0, slots := 0, locals := 45 }
set_option maxHeartbeats 4000000 in
set_option maxRecDepth 100000 in
theorem mX5_copyFrom (l : Launch) (G : GG) (st : Nat) (t0 : Nat) (t1 : Nat) (al : Int) (a0 : Nat) (n0 : Int) (g0 : Int → Int) (a1 : Nat) (n1 : Int) (g1 : Int → Int) (so : Nat) (p0 : Nat) (p1 : Nat) (al2 : Int) (b0 : Nat) (m0 : Int) (f0 : Int → Int) (b1 : Nat) (m1 : Int) (f1 : Int → Int) (hm0 : 0 ≤ m0 ∧ m0 ≤ 20) (hm1 : 0 ≤ m1 ∧ m1 ≤ 20) : Ct l yX5_copyFrom cX5_copyFrom 2 none rmX5_copyFrom G [.ref st, .ref so] [bState G st t0 t1 al, bText G t0 a0 n0 g0, bText G t1 a1 n1 g1, bState G so p0 p1 al2, bText G p0 b0 m0 f0, bText G p1 b1 m1 f1] (fun uo : (Int → Int) × (Int → Int) => none) (fun uo => (∀ j : Int, 0 ≤ j → j < m0 → uo.1 j = f0 j) ∧ (∀ j : Int, 0 ≤ j → j < m1 → uo.2 j = f1 j)) (fun uo => [bState G st t0 t1 al2, bText G t0 a0 m0 uo.1, bText G t1 a1 m1 uo.2, bState G so p0 p1 al2, bText G p0 b0 m0 f0, bText G p1 b1 m1 f1]) := by
  refine cof (by decide) (Nat.le_of_ble_eq_true rfl) ?_
  intro p e s m args below meth c A ls hx hb hr hml hown hts hlocks hin hA hK hP hD hS hl Q hQ
  have hown : s.vm.findClass RX5 = some m.cls := hown
  have hl : lv_has ls 2 [(0, .ref st), (1, .ref so)] := hl
  have KH : ∀ (H : Heap) (locs : List Loc), wP G [bState G st t0 t1 al, bText G t0 a0 n0 g0, bText G t1 a1 n1 g1, bState G so p0 p1 al2, bText G p0 b0 m0 f0, bText G p1 b1 m1 f1] H → wD A [bState G st t0 t1 al, bText G t0 a0 n0 g0, bText G t1 a1 n1 g1, bState G so p0 p1 al2, bText G p0 b0 m0 f0, bText G p1 b1 m1 f1] → va_S A s.heap H locs → W p l e rmX5_copyFrom s m args below meth c H locs 0 0 Q (F0 m 0 ls []) := by
    intro H locs hP hD hS
    refine lv_aload_n hx hb dX5_copyFrom_0 rfl (lv_at hl 0 rfl) ?_
    refine va_get (ci := 5) (v := .ref t0) (C := RX5) (T := TX5) (N := 3) hx hb hts wfX5 hown hK.1 hP 0 rfl rfl 0 (by decide) (hts _ wm56) (fun _ h9 => h9) rfl dX5_copyFrom_1 ?_
    refine lv_aload_n hx hb dX5_copyFrom_4 rfl (lv_at hl 1 rfl) ?_
    refine jv_iconst hx hb dX5_copyFrom_5 ?_
    refine kV ⟨hx, hb, hml, hown, hts⟩ hK hA hS hP hD [.int (jz 0)] [.ref t0] (mX5_text_0 l G so p0 p1 al2 0 (by omega) (by omega)) lkX5_25 [3] [0, 1, 2, 4, 5] (br := [bState G st t0 t1 al, bText G t0 a0 n0 g0, bText G t1 a1 n1 g1, bText G p0 b0 m0 f0, bText G p1 b1 m1 f1]) rfl rfl (by decide) 0 5 rfl rfl rfl rfl (Nat.le_of_ble_eq_true rfl) hl.1 dX5_copyFrom_6 ⟨Nat.le_of_ble_eq_true rfl, Nat.le_of_ble_eq_true rfl⟩ ⟨Nat.le_of_ble_eq_true rfl, Nat.le_of_ble_eq_true rfl⟩ (fun u9 H locs hp9 hP hD hS => ?_)
    have hP : wP G [bState G st t0 t1 al, bText G t0 a0 n0 g0, bText G t1 a1 n1 g1, bText G p0 b0 m0 f0, bText G p1 b1 m1 f1, bState G so p0 p1 al2] H := hP
    have hD : wD A [bState G st t0 t1 al, bText G t0 a0 n0 g0, bText G t1 a1 n1 g1, bText G p0 b0 m0 f0, bText G p1 b1 m1 f1, bState G so p0 p1 al2] := hD
    show W p l e rmX5_copyFrom s m args below meth c H locs 0 0 Q (F0 m 9 ls [.ref p0, .ref t0])
    refine kV ⟨hx, hb, hml, hown, hts⟩ hK hA hS hP hD [.ref p0] [] (mX6_copyFrom l G t0 a0 n0 g0 p0 b0 m0 f0 (by omega)) lkX5_29 [1, 3] [0, 2, 4, 5] (br := [bState G st t0 t1 al, bText G t1 a1 n1 g1, bText G p1 b1 m1 f1, bState G so p0 p1 al2]) rfl rfl (by decide) 0 6 rfl rfl rfl rfl (Nat.le_of_ble_eq_true rfl) hl.1 dX5_copyFrom_9 ⟨Nat.le_of_ble_eq_true rfl, Nat.le_of_ble_eq_true rfl⟩ ⟨Nat.le_of_ble_eq_true rfl, Nat.le_of_ble_eq_true rfl⟩ (fun u9 H locs hp9 hP hD hS => ?_)
    obtain ⟨u_2, rfl⟩ : ∃ z, z = u9 := ⟨_, rfl⟩
    have hc_3 : ∀ j : Int, 0 ≤ j → j < m0 → u_2 j = f0 (j) := hp9
    have hP : wP G [bState G st t0 t1 al, bText G t1 a1 n1 g1, bText G p1 b1 m1 f1, bState G so p0 p1 al2, bText G t0 a0 m0 u_2, bText G p0 b0 m0 f0] H := hP
    have hD : wD A [bState G st t0 t1 al, bText G t1 a1 n1 g1, bText G p1 b1 m1 f1, bState G so p0 p1 al2, bText G t0 a0 m0 u_2, bText G p0 b0 m0 f0] := hD
    show W p l e rmX5_copyFrom s m args below meth c H locs 0 0 Q (F0 m 12 ls [])
    have hc0 := hc_3
    refine lv_aload_n hx hb dX5_copyFrom_12 rfl (lv_at hl 0 rfl) ?_
    refine va_get (ci := 5) (v := .ref t1) (C := RX5) (T := TX5) (N := 3) hx hb hts wfX5 hown hK.1 hP 0 rfl rfl 1 (by decide) (hts _ wm57) (fun _ h9 => h9) rfl dX5_copyFrom_13 ?_
    refine lv_aload_n hx hb dX5_copyFrom_16 rfl (lv_at hl 1 rfl) ?_
    refine jv_iconst hx hb dX5_copyFrom_17 ?_
    refine kV ⟨hx, hb, hml, hown, hts⟩ hK hA hS hP hD [.int (jz 1)] [.ref t1] (mX5_text_1 l G so p0 p1 al2 1 (by omega) (by omega)) lkX5_25 [3] [0, 1, 2, 4, 5] (br := [bState G st t0 t1 al, bText G t1 a1 n1 g1, bText G p1 b1 m1 f1, bText G t0 a0 m0 u_2, bText G p0 b0 m0 f0]) rfl rfl (by decide) 0 5 rfl rfl rfl rfl (Nat.le_of_ble_eq_true rfl) hl.1 dX5_copyFrom_18 ⟨Nat.le_of_ble_eq_true rfl, Nat.le_of_ble_eq_true rfl⟩ ⟨Nat.le_of_ble_eq_true rfl, Nat.le_of_ble_eq_true rfl⟩ (fun u9 H locs hp9 hP hD hS => ?_)
    have hP : wP G [bState G st t0 t1 al, bText G t1 a1 n1 g1, bText G p1 b1 m1 f1, bText G t0 a0 m0 u_2, bText G p0 b0 m0 f0, bState G so p0 p1 al2] H := hP
    have hD : wD A [bState G st t0 t1 al, bText G t1 a1 n1 g1, bText G p1 b1 m1 f1, bText G t0 a0 m0 u_2, bText G p0 b0 m0 f0, bState G so p0 p1 al2] := hD
    show W p l e rmX5_copyFrom s m args below meth c H locs 0 0 Q (F0 m 21 ls [.ref p1, .ref t1])
    refine kV ⟨hx, hb, hml, hown, hts⟩ hK hA hS hP hD [.ref p1] [] (mX6_copyFrom l G t1 a1 n1 g1 p1 b1 m1 f1 (by omega)) lkX5_29 [1, 2] [0, 3, 4, 5] (br := [bState G st t0 t1 al, bText G t0 a0 m0 u_2, bText G p0 b0 m0 f0, bState G so p0 p1 al2]) rfl rfl (by decide) 0 6 rfl rfl rfl rfl (Nat.le_of_ble_eq_true rfl) hl.1 dX5_copyFrom_21 ⟨Nat.le_of_ble_eq_true rfl, Nat.le_of_ble_eq_true rfl⟩ ⟨Nat.le_of_ble_eq_true rfl, Nat.le_of_ble_eq_true rfl⟩ (fun u9 H locs hp9 hP hD hS => ?_)
    obtain ⟨u_5, rfl⟩ : ∃ z, z = u9 := ⟨_, rfl⟩
    have hc_6 : ∀ j : Int, 0 ≤ j → j < m1 → u_5 j = f1 (j) := hp9
    have hP : wP G [bState G st t0 t1 al, bText G t0 a0 m0 u_2, bText G p0 b0 m0 f0, bState G so p0 p1 al2, bText G t1 a1 m1 u_5, bText G p1 b1 m1 f1] H := hP
    have hD : wD A [bState G st t0 t1 al, bText G t0 a0 m0 u_2, bText G p0 b0 m0 f0, bState G so p0 p1 al2, bText G t1 a1 m1 u_5, bText G p1 b1 m1 f1] := hD
    show W p l e rmX5_copyFrom s m args below meth c H locs 0 0 Q (F0 m 24 ls [])
    have hc1 := hc_6
    refine lv_aload_n hx hb dX5_copyFrom_24 rfl (lv_at hl 0 rfl) ?_
    refine lv_aload_n hx hb dX5_copyFrom_25 rfl (lv_at hl 1 rfl) ?_
    refine kV ⟨hx, hb, hml, hown, hts⟩ hK hA hS hP hD [] [.ref st] (mX5_alphabet l G so p0 p1 al2 ) lkX5_33 [3] [0, 1, 2, 4, 5] (br := [bState G st t0 t1 al, bText G t0 a0 m0 u_2, bText G p0 b0 m0 f0, bText G t1 a1 m1 u_5, bText G p1 b1 m1 f1]) rfl rfl (by decide) 0 5 rfl rfl rfl rfl (Nat.le_of_ble_eq_true rfl) hl.1 dX5_copyFrom_26 ⟨Nat.le_of_ble_eq_true rfl, Nat.le_of_ble_eq_true rfl⟩ ⟨Nat.le_of_ble_eq_true rfl, Nat.le_of_ble_eq_true rfl⟩ (fun u9 H locs hp9 hP hD hS => ?_)
    have hP : wP G [bState G st t0 t1 al, bText G t0 a0 m0 u_2, bText G p0 b0 m0 f0, bText G t1 a1 m1 u_5, bText G p1 b1 m1 f1, bState G so p0 p1 al2] H := hP
    have hD : wD A [bState G st t0 t1 al, bText G t0 a0 m0 u_2, bText G p0 b0 m0 f0, bText G t1 a1 m1 u_5, bText G p1 b1 m1 f1, bState G so p0 p1 al2] := hD
    show W p l e rmX5_copyFrom s m args below meth c H locs 0 0 Q (F0 m 29 ls [.int (jz al2), .ref st])
    refine va_put (ci := 5) (v := .int (jz al2)) (ty := .int) (C := RX5) (T := TX5) (N := 3) hx hb hts wfX5 tyX5 tyX5_ok nmX5 hown hK.1 hP hD hS 0 rfl rfl 2 (by decide) (hts _ wm58) (fun _ h9 => h9) rfl (by decide +kernel) rfl rfl (Nat.le_of_ble_eq_true rfl) dX5_copyFrom_29 (fun H locs hP hD hS => ?_)
    have hP : wP G [bState G st t0 t1 al2, bText G t0 a0 m0 u_2, bText G p0 b0 m0 f0, bText G t1 a1 m1 u_5, bText G p1 b1 m1 f1, bState G so p0 p1 al2] H := hP
    have hD : wD A [bState G st t0 t1 al2, bText G t0 a0 m0 u_2, bText G p0 b0 m0 f0, bText G t1 a1 m1 u_5, bText G p1 b1 m1 f1, bState G so p0 p1 al2] := hD
    exact cret_v hx hb hr hlocks hS hP hD (Nat.le_of_ble_eq_true rfl) (Nat.le_of_ble_eq_true rfl) dX5_copyFrom_32 [0, 1, 3, 5, 2, 4] (by decide) ⟨u_2, u_5⟩ rfl ⟨(show ∀ j : Int, 0 ≤ j → j < m0 → u_2 j = f0 j from hc0), (show ∀ j : Int, 0 ≤ j → j < m1 → u_5 j = f1 j from hc1)⟩ rfl hQ
  exact KH s.heap [] hP hD hS
abbrev rmX4_init : Room := { frames := 1, cells := 1, slots := 6, locals := 20 }
set_option maxHeartbeats 4000000 in
set_option maxRecDepth 100000 in
theorem mX4_init (l : Launch) (G : GG) (sv : Nat)  : Ct l yX4_init cX4_init 1 none rmX4_init G [.ref sv] [[(sv, .inr (4, [.null, .int (jz 0), .int (jz 0)]))]] (fun uo : Nat => none) (fun uo => True) (fun uo => [bSaved G sv uo 0 0 (fun _ => none)]) := by
  refine cof (by decide) (Nat.le_of_ble_eq_true rfl) ?_
  intro p e s m args below meth c A ls hx hb hr hml hown hts hlocks hin hA hK hP hD hS hl Q hQ
  have hown : s.vm.findClass RX4 = some m.cls := hown
  have hl : lv_has ls 1 [(0, .ref sv)] := hl
  have KH : ∀ (H : Heap) (locs : List Loc), wP G [[(sv, .inr (4, [.null, .int (jz 0), .int (jz 0)]))]] H → wD A [[(sv, .inr (4, [.null, .int (jz 0), .int (jz 0)]))]] → va_S A s.heap H locs → W p l e rmX4_init s m args below meth c H locs 0 0 Q (F0 m 0 ls []) := by
    intro H locs hP hD hS
    refine lv_aload_n hx hb dX4_init_0 rfl (lv_at hl 0 rfl) ?_
    refine W.objInit hx hb hown (hts _ wm71) (hts _ wm34) (hts _ wm35) rfl (by rw [hml]; exact hl.1) rfl dX4_init_1 (Nat.le_of_ble_eq_true rfl) (Nat.le_of_ble_eq_true rfl) ?_
    refine W.eq (g2 := F0 m 4 ls []) rfl ?_
    refine lv_aload_n hx hb dX4_init_4 rfl (lv_at hl 0 rfl) ?_
    refine jv_bipush hx hb dX4_init_5 (by decide) ?_
    refine jv_newq hx hb hown (hts _ wm72) hK.2.2.2.2.2 hK.1 hP hD hS hA 6 rfl (by decide) (Nat.le_of_ble_eq_true rfl) (Nat.le_of_ble_eq_true rfl) dX4_init_7 (fun q_1 H hP hD hS => ?_)
    have hP : wP G [[(sv, .inr (4, [.null, .int (jz 0), .int (jz 0)]))], [(q_1, jq G 6 ((fun _ => none)))]] H := hP
    have hD : wD A [[(sv, .inr (4, [.null, .int (jz 0), .int (jz 0)]))], [(q_1, jq G 6 ((fun _ => none)))]] := hD
    show W p l e rmX4_init s m args below meth c H locs 1 6 Q (F0 m 10 ls [.ref q_1, .ref sv])
    refine va_putF (ci := 4) (v := .ref q_1) (ty := (.array (.object "BlockDistance$State"))) (C := RX4) (T := TX4) (N := 3) hx hb hts wfX4 tyX4 tyX4_ok nmX4 hown hK.1 hP hD hS 0 rfl rfl 0 (by decide) (hts _ wm74) (fun _ h9 => h9) rfl hin rfl (by decide +kernel) rfl rfl (Nat.le_of_ble_eq_true rfl) dX4_init_10 (fun H locs hP hD hS => ?_)
    have hP : wP G [[(sv, .inr (4, [.ref q_1, .int (jz 0), .int (jz 0)]))], [(q_1, jq G 6 ((fun _ => none)))]] H := hP
    have hD : wD A [[(sv, .inr (4, [.ref q_1, .int (jz 0), .int (jz 0)]))], [(q_1, jq G 6 ((fun _ => none)))]] := hD
    refine lv_aload_n hx hb dX4_init_13 rfl (lv_at hl 0 rfl) ?_
    refine jv_iconst hx hb dX4_init_14 ?_
    refine va_put (ci := 4) (v := .int (jz 0)) (ty := .int) (C := RX4) (T := TX4) (N := 3) hx hb hts wfX4 tyX4 tyX4_ok nmX4 hown hK.1 hP hD hS 0 rfl rfl 1 (by decide) (hts _ wm75) (fun _ h9 => h9) rfl (by decide +kernel) rfl rfl (Nat.le_of_ble_eq_true rfl) dX4_init_15 (fun H locs hP hD hS => ?_)
    have hP : wP G [[(sv, .inr (4, [.ref q_1, .int (jz 0), .int (jz 0)]))], [(q_1, jq G 6 ((fun _ => none)))]] H := hP
    have hD : wD A [[(sv, .inr (4, [.ref q_1, .int (jz 0), .int (jz 0)]))], [(q_1, jq G 6 ((fun _ => none)))]] := hD
    refine lv_aload_n hx hb dX4_init_18 rfl (lv_at hl 0 rfl) ?_
    refine jv_iconst hx hb dX4_init_19 ?_
    refine va_put (ci := 4) (v := .int (jz 0)) (ty := .int) (C := RX4) (T := TX4) (N := 3) hx hb hts wfX4 tyX4 tyX4_ok nmX4 hown hK.1 hP hD hS 0 rfl rfl 2 (by decide) (hts _ wm76) (fun _ h9 => h9) rfl (by decide +kernel) rfl rfl (Nat.le_of_ble_eq_true rfl) dX4_init_20 (fun H locs hP hD hS => ?_)
    have hP : wP G [[(sv, .inr (4, [.ref q_1, .int (jz 0), .int (jz 0)]))], [(q_1, jq G 6 ((fun _ => none)))]] H := hP
    have hD : wD A [[(sv, .inr (4, [.ref q_1, .int (jz 0), .int (jz 0)]))], [(q_1, jq G 6 ((fun _ => none)))]] := hD
    have hP : wP G [bSaved G sv q_1 0 0 (fun _ => none)] H := hP
    have hD : wD A [bSaved G sv q_1 0 0 (fun _ => none)] := hD
    exact cret_v hx hb hr hlocks hS hP hD (Nat.le_of_ble_eq_true rfl) (Nat.le_of_ble_eq_true rfl) dX4_init_23 [0] (by decide) q_1 rfl trivial rfl hQ
  exact KH s.heap [] hP hD hS
abbrev rmX4_size : Room := { frames := 0, cells := 0, slots := 0, locals := 0 }
set_option maxHeartbeats 4000000 in
set_option maxRecDepth 100000 in
theorem mX4_size (l : Launch) (G : GG) (sv : Nat) (sa : Nat) (od : Int) (sz : Int) (f : Int → Option Nat)  : Ct l yX4_size cX4_size 1 (some .int) rmX4_size G [.ref sv] [bSaved G sv sa od sz f] (fun uo : Unit => some (.int (jz sz))) (fun uo => True) (fun uo => [bSaved G sv sa od sz f]) := by
  refine cof (by decide) (Nat.le_of_ble_eq_true rfl) ?_
  intro p e s m args below meth c A ls hx hb hr hml hown hts hlocks hin hA hK hP hD hS hl Q hQ
  have hown : s.vm.findClass RX4 = some m.cls := hown
  have hl : lv_has ls 1 [(0, .ref sv)] := hl
  have KH : ∀ (H : Heap) (locs : List Loc), wP G [bSaved G sv sa od sz f] H → wD A [bSaved G sv sa od sz f] → va_S A s.heap H locs → W p l e rmX4_size s m args below meth c H locs 0 0 Q (F0 m 0 ls []) := by
    intro H locs hP hD hS
    refine lv_aload_n hx hb dX4_size_0 rfl (lv_at hl 0 rfl) ?_
    refine va_get (ci := 4) (v := .int (jz sz)) (C := RX4) (T := TX4) (N := 3) hx hb hts wfX4 hown hK.1 hP 0 rfl rfl 2 (by decide) (hts _ wm76) (fun _ h9 => h9) rfl dX4_size_1 ?_
    exact cret_i hx hb hr hlocks hS hP hD (Nat.le_of_ble_eq_true rfl) (Nat.le_of_ble_eq_true rfl) rfl dX4_size_4 [0] (by decide) () rfl trivial (congrArg (fun z : Int => some (Value.int (jz z))) (show sz = sz from by first | rfl | omega | (split <;> first | rfl | omega | (exfalso; omega)))) hQ
  exact KH s.heap [] hP hD hS
abbrev rmX4_save : Room := { frames := 3, cells := 5, slots := 47, locals := 66 }
set_option maxHeartbeats 4000000 in
set_option maxRecDepth 100000 in
theorem mX4_save (l : Launch) (G : GG) (sv : Nat) (sa : Nat) (od : Int) (sz : Int) (f : Int → Option Nat) (ph : Nat → SG) (kp : Nat) (so : Nat) (p0 : Nat) (p1 : Nat) (al2 : Int) (b0 : Nat) (m0 : Int) (f0 : Int → Int) (b1 : Nat) (m1 : Int) (f1 : Int → Int) (hm0 : 0 ≤ m0 ∧ m0 ≤ 20) (hm1 : 0 ≤ m1 ∧ m1 ≤ 20) (hs : 0 ≤ sz ∧ sz ≤ 6) (ho : 0 ≤ od ∧ od < 6) (hk : kp ≤ 6 ∧ sz ≤ kp) (hk2 : od = 0 ∨ kp = 6) (hf : ∀ z : Int, 0 ≤ z → z < 6 → f z = if z < kp then some (ph z.toNat).1.1 else none) : Ct l yX4_save cX4_save 3 none rmX4_save G [.ref sv, .ref so] [bSaved G sv sa od sz f, bState G so p0 p1 al2, bText G p0 b0 m0 f0, bText G p1 b1 m1 f1, bPool G ph kp] (fun uo : Int × Int × (Int → Option Nat) × (Nat → SG) × Nat => none) (fun uo => ((sz < 6 → uo.1 = od ∧ uo.2.1 = sz + 1) ∧ (sz = 6 → uo.1 = (od + 1) % 6 ∧ uo.2.1 = 6)) ∧ ((uo.2.2.2.2 = kp ∨ uo.2.2.2.2 = kp + 1) ∧ (uo.2.2.2.2 : Int) ≤ 6 ∧ uo.2.1 ≤ uo.2.2.2.2 ∧ (uo.1 = 0 ∨ uo.2.2.2.2 = 6)) ∧ (∀ z : Int, 0 ≤ z → z < 6 → uo.2.2.1 z = if z < uo.2.2.2.2 then some (uo.2.2.2.1 z.toNat).1.1 else none) ∧ (∀ i : Nat, (i : Int) ≠ (uo.1 + (uo.2.1 - 1)) % 6 → i < kp → uo.2.2.2.1 i = ph i) ∧ ((uo.2.2.2.1 ((uo.1 + (uo.2.1 - 1)) % 6).toNat).2.1 = (al2, m0, m1)) ∧ (∀ j : Int, 0 ≤ j → j < m0 → (uo.2.2.2.1 ((uo.1 + (uo.2.1 - 1)) % 6).toNat).2.2.1 j = f0 j) ∧ (∀ j : Int, 0 ≤ j → j < m1 → (uo.2.2.2.1 ((uo.1 + (uo.2.1 - 1)) % 6).toNat).2.2.2 j = f1 j)) (fun uo => [bSaved G sv sa uo.1 uo.2.1 uo.2.2.1, bState G so p0 p1 al2, bText G p0 b0 m0 f0, bText G p1 b1 m1 f1, bPool G uo.2.2.2.1 uo.2.2.2.2]) := by
  refine cof (by decide) (Nat.le_of_ble_eq_true rfl) ?_
  intro p e s m args below meth c A ls hx hb hr hml hown hts hlocks hin hA hK hP hD hS hl Q hQ
  have hown : s.vm.findClass RX4 = some m.cls := hown
  have hl : lv_has ls 3 [(0, .ref sv), (1, .ref so)] := hl
  have KH : ∀ (H : Heap) (locs : List Loc), wP G [bSaved G sv sa od sz f, bState G so p0 p1 al2, bText G p0 b0 m0 f0, bText G p1 b1 m1 f1, bPool G ph kp] H → wD A [bSaved G sv sa od sz f, bState G so p0 p1 al2, bText G p0 b0 m0 f0, bText G p1 b1 m1 f1, bPool G ph kp] → va_S A s.heap H locs → W p l e rmX4_save s m args below meth c H locs 0 0 Q (F0 m 0 ls []) := by
    intro H locs hP hD hS
    refine lv_aload_n hx hb dX4_save_0 rfl (lv_at hl 0 rfl) ?_
    have K32 : ∀ (od2 : Int) (sz2 : Int) , (0 ≤ od2 ∧ od2 < 6 ∧ 0 ≤ sz2 ∧ sz2 < 6 ∧ sz2 ≤ kp) → ((sz < 6 → od2 = od ∧ sz2 = sz) ∧ (sz = 6 → od2 = (od + 1) % 6 ∧ sz2 = 5)) → (od2 = 0 ∨ kp = 6) → ∀ (H : Heap) (locs : List Loc) (ls : Array Slot), wP G [bSaved G sv sa od2 sz2 f, bState G so p0 p1 al2, bText G p0 b0 m0 f0, bText G p1 b1 m1 f1, bPool G ph kp] H → wD A [bSaved G sv sa od2 sz2 f, bState G so p0 p1 al2, bText G p0 b0 m0 f0, bText G p1 b1 m1 f1, bPool G ph kp] → va_S A s.heap H locs → lv_has ls 3 [(0, .ref sv), (1, .ref so)] → W p l e rmX4_save s m args below meth c H locs 0 0 Q (F0 m 32 ls []) := by
      intro od2 sz2 hz2 ha2 hb2 H locs ls hP hD hS hl
      refine lv_aload_n hx hb dX4_save_32 rfl (lv_at hl 0 rfl) ?_
      refine va_get (ci := 4) (v := .int (jz od2)) (C := RX4) (T := TX4) (N := 3) hx hb hts wfX4 hown hK.1 hP 0 rfl rfl 1 (by decide) (hts _ wm75) (fun _ h9 => h9) rfl dX4_save_33 ?_
      refine lv_aload_n hx hb dX4_save_36 rfl (lv_at hl 0 rfl) ?_
      refine va_get (ci := 4) (v := .int (jz sz2)) (C := RX4) (T := TX4) (N := 3) hx hb hts wfX4 hown hK.1 hP 0 rfl rfl 2 (by decide) (hts _ wm76) (fun _ h9 => h9) rfl dX4_save_37 ?_
      refine jv_iadd hx hb dX4_save_40 ?_
      refine jv_bipush hx hb dX4_save_41 (by decide) ?_
      refine jv_irem hx hb dX4_save_43 (by omega) (by omega) (by omega) (by omega) ?_
      refine lv_istore_n (lv' := [(2, .int (jz ((od2 + sz2) % 6))), (0, .ref sv), (1, .ref so)]) hx hb dX4_save_44 rfl hl (by decide) rfl (fun ls hl => ?_)
      obtain ⟨z2, hz9⟩ : ∃ z : Int, z = (od2 + sz2) % 6 := ⟨_, rfl⟩
      rw [← hz9] at hl
      have hz8 : 0 ≤ z2 ∧ z2 < 6 ∧ z2 ≤ kp := by omega
      by_cases hkz : z2 < kp
      · have hfz : f z2 = some (ph z2.toNat).1.1 := by rw [hf z2 (by omega) (by omega), if_pos hkz]
        refine lv_aload_n hx hb dX4_save_45 rfl (lv_at hl 1 rfl) ?_
        refine va_get (ci := 4) (v := .ref sa) (C := RX4) (T := TX4) (N := 3) hx hb hts wfX4 hown hK.1 hP 0 rfl rfl 0 (by decide) (hts _ wm74) (fun _ h9 => h9) rfl dX4_save_46 ?_
        refine lv_iload_n hx hb dX4_save_49 rfl (lv_at hl 0 rfl) ?_
        refine jv_qald hx hb hK.1 hP 1 (g := f) rfl (by omega) (by omega) (by decide) dX4_save_50 ?_
        refine jv_rf (a := (ph z2.toNat).1.1) (by exact hfz) ?_
        refine lv_ifnonnull (tgt := 67) hx hb dX4_save_51 (by decide) ?_
        refine lv_aload_n hx hb dX4_save_67 rfl (lv_at hl 1 rfl) ?_
        refine va_get (ci := 4) (v := .ref sa) (C := RX4) (T := TX4) (N := 3) hx hb hts wfX4 hown hK.1 hP 0 rfl rfl 0 (by decide) (hts _ wm74) (fun _ h9 => h9) rfl dX4_save_68 ?_
        refine lv_iload_n hx hb dX4_save_71 rfl (lv_at hl 0 rfl) ?_
        refine jv_qald hx hb hK.1 hP 1 (g := f) rfl (by omega) (by omega) (by decide) dX4_save_72 ?_
        refine jv_rf (a := (ph z2.toNat).1.1) (by exact hfz) ?_
        refine lv_aload_n hx hb dX4_save_73 rfl (lv_at hl 2 rfl) ?_
        have hP : wP G [bSaved G sv sa od2 sz2 f, bState G so p0 p1 al2, bText G p0 b0 m0 f0, bText G p1 b1 m1 f1, bState G ((ph z2.toNat).1.1) ((ph z2.toNat).1.2.1) ((ph z2.toNat).1.2.2.2.1) ((ph z2.toNat).2.1.1), bText G ((ph z2.toNat).1.2.1) ((ph z2.toNat).1.2.2.1) ((ph z2.toNat).2.1.2.1) ((ph z2.toNat).2.2.1), bText G ((ph z2.toNat).1.2.2.2.1) ((ph z2.toNat).1.2.2.2.2) ((ph z2.toNat).2.1.2.2) ((ph z2.toNat).2.2.2), bPoolX G ph kp z2.toNat] H := wP_perm (L := [bSaved G sv sa od2 sz2 f, bState G so p0 p1 al2, bText G p0 b0 m0 f0, bText G p1 b1 m1 f1]) (pool_get2 G ph (by omega)) hP
        have hD : wD A [bSaved G sv sa od2 sz2 f, bState G so p0 p1 al2, bText G p0 b0 m0 f0, bText G p1 b1 m1 f1, bState G ((ph z2.toNat).1.1) ((ph z2.toNat).1.2.1) ((ph z2.toNat).1.2.2.2.1) ((ph z2.toNat).2.1.1), bText G ((ph z2.toNat).1.2.1) ((ph z2.toNat).1.2.2.1) ((ph z2.toNat).2.1.2.1) ((ph z2.toNat).2.2.1), bText G ((ph z2.toNat).1.2.2.2.1) ((ph z2.toNat).1.2.2.2.2) ((ph z2.toNat).2.1.2.2) ((ph z2.toNat).2.2.2), bPoolX G ph kp z2.toNat] := wD_perm (L := [bSaved G sv sa od2 sz2 f, bState G so p0 p1 al2, bText G p0 b0 m0 f0, bText G p1 b1 m1 f1]) (pool_get2 G ph (by omega)) hD
        refine kV ⟨hx, hb, hml, hown, hts⟩ hK hA hS hP hD [.ref so] [] (mX5_copyFrom l G ((ph z2.toNat).1.1) ((ph z2.toNat).1.2.1) ((ph z2.toNat).1.2.2.2.1) ((ph z2.toNat).2.1.1) ((ph z2.toNat).1.2.2.1) ((ph z2.toNat).2.1.2.1) ((ph z2.toNat).2.2.1) ((ph z2.toNat).1.2.2.2.2) ((ph z2.toNat).2.1.2.2) ((ph z2.toNat).2.2.2) so p0 p1 al2 b0 m0 f0 b1 m1 f1 (by omega) (by omega)) lkX4_25 [4, 5, 6, 1, 2, 3] [0, 7] (br := [bSaved G sv sa od2 sz2 f, bPoolX G ph kp z2.toNat]) rfl rfl (by decide) 0 5 rfl rfl rfl rfl (Nat.le_of_ble_eq_true rfl) hl.1 dX4_save_74 ⟨Nat.le_of_ble_eq_true rfl, Nat.le_of_ble_eq_true rfl⟩ ⟨Nat.le_of_ble_eq_true rfl, Nat.le_of_ble_eq_true rfl⟩ (fun u9 H locs hp9 hP hD hS => ?_)
        obtain ⟨u_1, u_2⟩ := u9
        have hc_3 : ∀ j : Int, 0 ≤ j → j < m0 → u_1 j = f0 j := hp9.1
        have hd_4 : ∀ j : Int, 0 ≤ j → j < m1 → u_2 j = f1 j := hp9.2
        have hP : wP G [bSaved G sv sa od2 sz2 f, bPoolX G ph kp z2.toNat, bState G ((ph z2.toNat).1.1) ((ph z2.toNat).1.2.1) ((ph z2.toNat).1.2.2.2.1) al2, bText G ((ph z2.toNat).1.2.1) ((ph z2.toNat).1.2.2.1) m0 u_1, bText G ((ph z2.toNat).1.2.2.2.1) ((ph z2.toNat).1.2.2.2.2) m1 u_2, bState G so p0 p1 al2, bText G p0 b0 m0 f0, bText G p1 b1 m1 f1] H := hP
        have hD : wD A [bSaved G sv sa od2 sz2 f, bPoolX G ph kp z2.toNat, bState G ((ph z2.toNat).1.1) ((ph z2.toNat).1.2.1) ((ph z2.toNat).1.2.2.2.1) al2, bText G ((ph z2.toNat).1.2.1) ((ph z2.toNat).1.2.2.1) m0 u_1, bText G ((ph z2.toNat).1.2.2.2.1) ((ph z2.toNat).1.2.2.2.2) m1 u_2, bState G so p0 p1 al2, bText G p0 b0 m0 f0, bText G p1 b1 m1 f1] := hD
        have hP : wP G [bSaved G sv sa od2 sz2 f, bState G ((ph z2.toNat).1.1) ((ph z2.toNat).1.2.1) ((ph z2.toNat).1.2.2.2.1) al2, bText G ((ph z2.toNat).1.2.1) ((ph z2.toNat).1.2.2.1) m0 u_1, bText G ((ph z2.toNat).1.2.2.2.1) ((ph z2.toNat).1.2.2.2.2) m1 u_2, bState G so p0 p1 al2, bText G p0 b0 m0 f0, bText G p1 b1 m1 f1, bPoolX G ph kp z2.toNat] H := wP_sub hP [0, 2, 3, 4, 5, 6, 7, 1] rfl
        have hD : wD A [bSaved G sv sa od2 sz2 f, bState G ((ph z2.toNat).1.1) ((ph z2.toNat).1.2.1) ((ph z2.toNat).1.2.2.2.1) al2, bText G ((ph z2.toNat).1.2.1) ((ph z2.toNat).1.2.2.1) m0 u_1, bText G ((ph z2.toNat).1.2.2.2.1) ((ph z2.toNat).1.2.2.2.2) m1 u_2, bState G so p0 p1 al2, bText G p0 b0 m0 f0, bText G p1 b1 m1 f1, bPoolX G ph kp z2.toNat] := wD_sub hD [0, 2, 3, 4, 5, 6, 7, 1] (by decide) rfl
        show W p l e rmX4_save s m args below meth c H locs 0 0 Q (F0 m 77 ls [])
        have hc0 := hc_3
        have hc1 := hd_4
        refine lv_aload_n hx hb dX4_save_77 rfl (lv_at hl 1 rfl) ?_
        refine lv_dup hx hb dX4_save_78 rfl ?_
        refine va_get (ci := 4) (v := .int (jz sz2)) (C := RX4) (T := TX4) (N := 3) hx hb hts wfX4 hown hK.1 hP 0 rfl rfl 2 (by decide) (hts _ wm76) (fun _ h9 => h9) rfl dX4_save_79 ?_
        refine jv_iconst hx hb dX4_save_82 ?_
        refine jv_iadd hx hb dX4_save_83 ?_
        refine va_put (ci := 4) (v := .int (jz (sz2 + 1))) (ty := .int) (C := RX4) (T := TX4) (N := 3) hx hb hts wfX4 tyX4 tyX4_ok nmX4 hown hK.1 hP hD hS 0 rfl rfl 2 (by decide) (hts _ wm76) (fun _ h9 => h9) rfl (by decide +kernel) rfl rfl (Nat.le_of_ble_eq_true rfl) dX4_save_84 (fun H locs hP hD hS => ?_)
        have hP : wP G [bSaved G sv sa od2 (sz2 + 1) f, bState G ((ph z2.toNat).1.1) ((ph z2.toNat).1.2.1) ((ph z2.toNat).1.2.2.2.1) al2, bText G ((ph z2.toNat).1.2.1) ((ph z2.toNat).1.2.2.1) m0 u_1, bText G ((ph z2.toNat).1.2.2.2.1) ((ph z2.toNat).1.2.2.2.2) m1 u_2, bState G so p0 p1 al2, bText G p0 b0 m0 f0, bText G p1 b1 m1 f1, bPoolX G ph kp z2.toNat] H := hP
        have hD : wD A [bSaved G sv sa od2 (sz2 + 1) f, bState G ((ph z2.toNat).1.1) ((ph z2.toNat).1.2.1) ((ph z2.toNat).1.2.2.2.1) al2, bText G ((ph z2.toNat).1.2.1) ((ph z2.toNat).1.2.2.1) m0 u_1, bText G ((ph z2.toNat).1.2.2.2.1) ((ph z2.toNat).1.2.2.2.2) m1 u_2, bState G so p0 p1 al2, bText G p0 b0 m0 f0, bText G p1 b1 m1 f1, bPoolX G ph kp z2.toNat] := hD
        have hP : wP G [bSaved G sv sa od2 (sz2 + 1) f, bState G so p0 p1 al2, bText G p0 b0 m0 f0, bText G p1 b1 m1 f1, bState G ((ph z2.toNat).1.1) ((ph z2.toNat).1.2.1) ((ph z2.toNat).1.2.2.2.1) al2, bText G ((ph z2.toNat).1.2.1) ((ph z2.toNat).1.2.2.1) m0 u_1, bText G ((ph z2.toNat).1.2.2.2.1) ((ph z2.toNat).1.2.2.2.2) m1 u_2, bPoolX G ph kp z2.toNat] H := wP_sub hP [0, 4, 5, 6, 1, 2, 3, 7] rfl
        have hD : wD A [bSaved G sv sa od2 (sz2 + 1) f, bState G so p0 p1 al2, bText G p0 b0 m0 f0, bText G p1 b1 m1 f1, bState G ((ph z2.toNat).1.1) ((ph z2.toNat).1.2.1) ((ph z2.toNat).1.2.2.2.1) al2, bText G ((ph z2.toNat).1.2.1) ((ph z2.toNat).1.2.2.1) m0 u_1, bText G ((ph z2.toNat).1.2.2.2.1) ((ph z2.toNat).1.2.2.2.2) m1 u_2, bPoolX G ph kp z2.toNat] := wD_sub hD [0, 4, 5, 6, 1, 2, 3, 7] (by decide) rfl
        have hP : wP G [bSaved G sv sa od2 (sz2 + 1) f, bState G so p0 p1 al2, bText G p0 b0 m0 f0, bText G p1 b1 m1 f1, bPool G (phS ph z2.toNat (((ph z2.toNat).1.1, (ph z2.toNat).1.2.1, (ph z2.toNat).1.2.2.1, (ph z2.toNat).1.2.2.2.1, (ph z2.toNat).1.2.2.2.2), (al2, m0, m1), u_1, u_2)) kp] H := wP_perm (L := [bSaved G sv sa od2 (sz2 + 1) f, bState G so p0 p1 al2, bText G p0 b0 m0 f0, bText G p1 b1 m1 f1]) (pool_put2 G ph (((ph z2.toNat).1.1, (ph z2.toNat).1.2.1, (ph z2.toNat).1.2.2.1, (ph z2.toNat).1.2.2.2.1, (ph z2.toNat).1.2.2.2.2), (al2, m0, m1), u_1, u_2) (by omega)) hP
        have hD : wD A [bSaved G sv sa od2 (sz2 + 1) f, bState G so p0 p1 al2, bText G p0 b0 m0 f0, bText G p1 b1 m1 f1, bPool G (phS ph z2.toNat (((ph z2.toNat).1.1, (ph z2.toNat).1.2.1, (ph z2.toNat).1.2.2.1, (ph z2.toNat).1.2.2.2.1, (ph z2.toNat).1.2.2.2.2), (al2, m0, m1), u_1, u_2)) kp] := wD_perm (L := [bSaved G sv sa od2 (sz2 + 1) f, bState G so p0 p1 al2, bText G p0 b0 m0 f0, bText G p1 b1 m1 f1]) (pool_put2 G ph (((ph z2.toNat).1.1, (ph z2.toNat).1.2.1, (ph z2.toNat).1.2.2.1, (ph z2.toNat).1.2.2.2.1, (ph z2.toNat).1.2.2.2.2), (al2, m0, m1), u_1, u_2) (by omega)) hD
        exact cret_v hx hb hr hlocks hS hP hD (Nat.le_of_ble_eq_true rfl) (Nat.le_of_ble_eq_true rfl) dX4_save_87 [0, 1, 2, 3, 4] (by decide) ⟨od2, sz2 + 1, f, phS ph z2.toNat (((ph z2.toNat).1.1, (ph z2.toNat).1.2.1, (ph z2.toNat).1.2.2.1, (ph z2.toNat).1.2.2.2.1, (ph z2.toNat).1.2.2.2.2), (al2, m0, m1), u_1, u_2), kp⟩ rfl ⟨(show (sz < 6 → od2 = od ∧ (sz2 + 1) = sz + 1) ∧ (sz = 6 → od2 = (od + 1) % 6 ∧ (sz2 + 1) = 6) from by omega), (show (kp = kp ∨ kp = kp + 1) ∧ (kp : Int) ≤ 6 ∧ (sz2 + 1) ≤ kp ∧ (od2 = 0 ∨ kp = 6) from by omega), (show ∀ z : Int, 0 ≤ z → z < 6 → f z = if z < kp then some ((phS ph z2.toNat (((ph z2.toNat).1.1, (ph z2.toNat).1.2.1, (ph z2.toNat).1.2.2.1, (ph z2.toNat).1.2.2.2.1, (ph z2.toNat).1.2.2.2.2), (al2, m0, m1), u_1, u_2)) z.toNat).1.1 else none from by intro z h1 h2; rw [hf z h1 h2]; if e9 : z.toNat = z2.toNat then (rw [phS_at e9, e9]) else (rw [phS_ne e9])), (show ∀ i : Nat, (i : Int) ≠ (od2 + ((sz2 + 1) - 1)) % 6 → i < kp → (phS ph z2.toNat (((ph z2.toNat).1.1, (ph z2.toNat).1.2.1, (ph z2.toNat).1.2.2.1, (ph z2.toNat).1.2.2.2.1, (ph z2.toNat).1.2.2.2.2), (al2, m0, m1), u_1, u_2)) i = ph i from by intro i h1 h2; exact phS_ne (by omega)), (show ((phS ph z2.toNat (((ph z2.toNat).1.1, (ph z2.toNat).1.2.1, (ph z2.toNat).1.2.2.1, (ph z2.toNat).1.2.2.2.1, (ph z2.toNat).1.2.2.2.2), (al2, m0, m1), u_1, u_2)) ((od2 + ((sz2 + 1) - 1)) % 6).toNat).2.1 = (al2, m0, m1) from by rw [show ((od2 + (sz2 + 1 - 1)) % 6).toNat = z2.toNat by omega, phS_at rfl]), (show ∀ j : Int, 0 ≤ j → j < m0 → ((phS ph z2.toNat (((ph z2.toNat).1.1, (ph z2.toNat).1.2.1, (ph z2.toNat).1.2.2.1, (ph z2.toNat).1.2.2.2.1, (ph z2.toNat).1.2.2.2.2), (al2, m0, m1), u_1, u_2)) ((od2 + ((sz2 + 1) - 1)) % 6).toNat).2.2.1 j = f0 j from by rw [show ((od2 + (sz2 + 1 - 1)) % 6).toNat = z2.toNat by omega, phS_at rfl]; exact hc0), (show ∀ j : Int, 0 ≤ j → j < m1 → ((phS ph z2.toNat (((ph z2.toNat).1.1, (ph z2.toNat).1.2.1, (ph z2.toNat).1.2.2.1, (ph z2.toNat).1.2.2.2.1, (ph z2.toNat).1.2.2.2.2), (al2, m0, m1), u_1, u_2)) ((od2 + ((sz2 + 1) - 1)) % 6).toNat).2.2.2 j = f1 j from by rw [show ((od2 + (sz2 + 1 - 1)) % 6).toNat = z2.toNat by omega, phS_at rfl]; exact hc1)⟩ rfl hQ
      · have hzk : z2 = kp := by omega
        have hfz : f z2 = none := by rw [hf z2 (by omega) (by omega), if_neg hkz]
        refine lv_aload_n hx hb dX4_save_45 rfl (lv_at hl 1 rfl) ?_
        refine va_get (ci := 4) (v := .ref sa) (C := RX4) (T := TX4) (N := 3) hx hb hts wfX4 hown hK.1 hP 0 rfl rfl 0 (by decide) (hts _ wm74) (fun _ h9 => h9) rfl dX4_save_46 ?_
        refine lv_iload_n hx hb dX4_save_49 rfl (lv_at hl 0 rfl) ?_
        refine jv_qald hx hb hK.1 hP 1 (g := f) rfl (by omega) (by omega) (by decide) dX4_save_50 ?_
        refine jv_nul (by exact hfz) ?_
        refine lv_ifnonnullN hx hb dX4_save_51 ?_
        refine lv_aload_n hx hb dX4_save_54 rfl (lv_at hl 1 rfl) ?_
        refine va_get (ci := 4) (v := .ref sa) (C := RX4) (T := TX4) (N := 3) hx hb hts wfX4 hown hK.1 hP 0 rfl rfl 0 (by decide) (hts _ wm74) (fun _ h9 => h9) rfl dX4_save_55 ?_
        refine lv_iload_n hx hb dX4_save_58 rfl (lv_at hl 0 rfl) ?_
        refine va_new (ci := 5) (fs := [.null, .null, .int (jz 0)]) (C := RX5) (T := TX5) (N := 3) hx hb hts wfX5 tyX5 tyX5_ok hown (hts _ wm72) (hts _ wm37) (hts _ wm12) hK.1 hP hD hS hA rfl (fun j hj => by rcases (show j = 0 ∨ j = 1 ∨ j = 2 by omega) with rfl | rfl | rfl <;> rfl) (Nat.le_of_ble_eq_true rfl) (Nat.le_of_ble_eq_true rfl) dX4_save_59 (fun q_5 H hP hD hS => ?_)
        have hP : wP G [bSaved G sv sa od2 sz2 f, bState G so p0 p1 al2, bText G p0 b0 m0 f0, bText G p1 b1 m1 f1, bPool G ph kp, [(q_5, .inr (5, [.null, .null, .int (jz 0)]))]] H := wP_app hP
        have hD : wD A [bSaved G sv sa od2 sz2 f, bState G so p0 p1 al2, bText G p0 b0 m0 f0, bText G p1 b1 m1 f1, bPool G ph kp, [(q_5, .inr (5, [.null, .null, .int (jz 0)]))]] := wD_app hD
        have hP : wP G [bSaved G sv sa od2 sz2 f, bState G so p0 p1 al2, bText G p0 b0 m0 f0, bText G p1 b1 m1 f1, [(q_5, .inr (5, [.null, .null, .int (jz 0)]))], bPool G ph kp] H := wP_sub hP [0, 1, 2, 3, 5, 4] rfl
        have hD : wD A [bSaved G sv sa od2 sz2 f, bState G so p0 p1 al2, bText G p0 b0 m0 f0, bText G p1 b1 m1 f1, [(q_5, .inr (5, [.null, .null, .int (jz 0)]))], bPool G ph kp] := wD_sub hD [0, 1, 2, 3, 5, 4] (by decide) rfl
        show W p l e rmX4_save s m args below meth c H locs 1 3 Q (F0 m 62 ls [.ref q_5, .int (jz z2), .ref sa])
        refine lv_dup hx hb dX4_save_62 rfl ?_
        refine kIN ⟨hx, hb, hml, hown, hts⟩ hK hA hS hP hD [] [.ref q_5, .int (jz z2), .ref sa] (mX5_init l G q_5 ) lkX4_24 [4] [0, 1, 2, 3, 5] (br := [bSaved G sv sa od2 sz2 f, bState G so p0 p1 al2, bText G p0 b0 m0 f0, bText G p1 b1 m1 f1, bPool G ph kp]) rfl rfl (by decide) rfl rfl (Nat.le_of_ble_eq_true rfl) hl.1 dX4_save_63 ⟨Nat.le_of_ble_eq_true rfl, Nat.le_of_ble_eq_true rfl⟩ ⟨Nat.le_of_ble_eq_true rfl, Nat.le_of_ble_eq_true rfl⟩ (fun u9 H locs hp9 hP hD hS => ?_)
        obtain ⟨u_6, u_7, u_8, u_9⟩ := u9
        have hP : wP G [bSaved G sv sa od2 sz2 f, bState G so p0 p1 al2, bText G p0 b0 m0 f0, bText G p1 b1 m1 f1, bPool G ph kp, bState G q_5 u_6 u_8 4, bText G u_6 u_7 0 (fun _ => 0), bText G u_8 u_9 0 (fun _ => 0)] H := hP
        have hD : wD A [bSaved G sv sa od2 sz2 f, bState G so p0 p1 al2, bText G p0 b0 m0 f0, bText G p1 b1 m1 f1, bPool G ph kp, bState G q_5 u_6 u_8 4, bText G u_6 u_7 0 (fun _ => 0), bText G u_8 u_9 0 (fun _ => 0)] := hD
        have hP : wP G [bSaved G sv sa od2 sz2 f, bState G so p0 p1 al2, bText G p0 b0 m0 f0, bText G p1 b1 m1 f1, bState G q_5 u_6 u_8 4, bText G u_6 u_7 0 (fun _ => 0), bText G u_8 u_9 0 (fun _ => 0), bPool G ph kp] H := wP_sub hP [0, 1, 2, 3, 5, 6, 7, 4] rfl
        have hD : wD A [bSaved G sv sa od2 sz2 f, bState G so p0 p1 al2, bText G p0 b0 m0 f0, bText G p1 b1 m1 f1, bState G q_5 u_6 u_8 4, bText G u_6 u_7 0 (fun _ => 0), bText G u_8 u_9 0 (fun _ => 0), bPool G ph kp] := wD_sub hD [0, 1, 2, 3, 5, 6, 7, 4] (by decide) rfl
        show W p l e rmX4_save s m args below meth c H locs 5 47 Q (F0 m 66 ls [.ref q_5, .int (jz z2), .ref sa])
        refine jv_qast hx hb hK.1 hP hD hS 1 7 (g := f) rfl rfl (by omega) (by omega) (by decide) dX4_save_66 (fun H locs hP hD hS => ?_)
        have hP : wP G [bSaved G sv sa od2 sz2 (up f z2 (some q_5)), bState G so p0 p1 al2, bText G p0 b0 m0 f0, bText G p1 b1 m1 f1, bState G q_5 u_6 u_8 4, bText G u_6 u_7 0 (fun _ => 0), bText G u_8 u_9 0 (fun _ => 0), bPool G ph kp] H := hP
        have hD : wD A [bSaved G sv sa od2 sz2 (up f z2 (some q_5)), bState G so p0 p1 al2, bText G p0 b0 m0 f0, bText G p1 b1 m1 f1, bState G q_5 u_6 u_8 4, bText G u_6 u_7 0 (fun _ => 0), bText G u_8 u_9 0 (fun _ => 0), bPool G ph kp] := hD
        refine lv_aload_n hx hb dX4_save_67 rfl (lv_at hl 1 rfl) ?_
        refine va_get (ci := 4) (v := .ref sa) (C := RX4) (T := TX4) (N := 3) hx hb hts wfX4 hown hK.1 hP 0 rfl rfl 0 (by decide) (hts _ wm74) (fun _ h9 => h9) rfl dX4_save_68 ?_
        refine lv_iload_n hx hb dX4_save_71 rfl (lv_at hl 0 rfl) ?_
        refine jv_qald hx hb hK.1 hP 1 (g := up f z2 (some q_5)) rfl (by omega) (by omega) (by decide) dX4_save_72 ?_
        refine jv_rf (a := q_5) (by exact up_eq) ?_
        refine lv_aload_n hx hb dX4_save_73 rfl (lv_at hl 2 rfl) ?_
        refine kV ⟨hx, hb, hml, hown, hts⟩ hK hA hS hP hD [.ref so] [] (mX5_copyFrom l G q_5 u_6 u_8 4 u_7 0 (fun _ => 0) u_9 0 (fun _ => 0) so p0 p1 al2 b0 m0 f0 b1 m1 f1 (by omega) (by omega)) lkX4_25 [4, 5, 6, 1, 2, 3] [0, 7] (br := [bSaved G sv sa od2 sz2 (up f z2 (some q_5)), bPool G ph kp]) rfl rfl (by decide) 0 5 rfl rfl rfl rfl (Nat.le_of_ble_eq_true rfl) hl.1 dX4_save_74 ⟨Nat.le_of_ble_eq_true rfl, Nat.le_of_ble_eq_true rfl⟩ ⟨Nat.le_of_ble_eq_true rfl, Nat.le_of_ble_eq_true rfl⟩ (fun u9 H locs hp9 hP hD hS => ?_)
        obtain ⟨u_10, u_11⟩ := u9
        have hc_12 : ∀ j : Int, 0 ≤ j → j < m0 → u_10 j = f0 j := hp9.1
        have hd_13 : ∀ j : Int, 0 ≤ j → j < m1 → u_11 j = f1 j := hp9.2
        have hP : wP G [bSaved G sv sa od2 sz2 (up f z2 (some q_5)), bPool G ph kp, bState G q_5 u_6 u_8 al2, bText G u_6 u_7 m0 u_10, bText G u_8 u_9 m1 u_11, bState G so p0 p1 al2, bText G p0 b0 m0 f0, bText G p1 b1 m1 f1] H := hP
        have hD : wD A [bSaved G sv sa od2 sz2 (up f z2 (some q_5)), bPool G ph kp, bState G q_5 u_6 u_8 al2, bText G u_6 u_7 m0 u_10, bText G u_8 u_9 m1 u_11, bState G so p0 p1 al2, bText G p0 b0 m0 f0, bText G p1 b1 m1 f1] := hD
        have hP : wP G [bSaved G sv sa od2 sz2 (up f z2 (some q_5)), bState G q_5 u_6 u_8 al2, bText G u_6 u_7 m0 u_10, bText G u_8 u_9 m1 u_11, bState G so p0 p1 al2, bText G p0 b0 m0 f0, bText G p1 b1 m1 f1, bPool G ph kp] H := wP_sub hP [0, 2, 3, 4, 5, 6, 7, 1] rfl
        have hD : wD A [bSaved G sv sa od2 sz2 (up f z2 (some q_5)), bState G q_5 u_6 u_8 al2, bText G u_6 u_7 m0 u_10, bText G u_8 u_9 m1 u_11, bState G so p0 p1 al2, bText G p0 b0 m0 f0, bText G p1 b1 m1 f1, bPool G ph kp] := wD_sub hD [0, 2, 3, 4, 5, 6, 7, 1] (by decide) rfl
        show W p l e rmX4_save s m args below meth c H locs 5 47 Q (F0 m 77 ls [])
        have hc0 := hc_12
        have hc1 := hd_13
        refine lv_aload_n hx hb dX4_save_77 rfl (lv_at hl 1 rfl) ?_
        refine lv_dup hx hb dX4_save_78 rfl ?_
        refine va_get (ci := 4) (v := .int (jz sz2)) (C := RX4) (T := TX4) (N := 3) hx hb hts wfX4 hown hK.1 hP 0 rfl rfl 2 (by decide) (hts _ wm76) (fun _ h9 => h9) rfl dX4_save_79 ?_
        refine jv_iconst hx hb dX4_save_82 ?_
        refine jv_iadd hx hb dX4_save_83 ?_
        refine va_put (ci := 4) (v := .int (jz (sz2 + 1))) (ty := .int) (C := RX4) (T := TX4) (N := 3) hx hb hts wfX4 tyX4 tyX4_ok nmX4 hown hK.1 hP hD hS 0 rfl rfl 2 (by decide) (hts _ wm76) (fun _ h9 => h9) rfl (by decide +kernel) rfl rfl (Nat.le_of_ble_eq_true rfl) dX4_save_84 (fun H locs hP hD hS => ?_)
        have hP : wP G [bSaved G sv sa od2 (sz2 + 1) (up f z2 (some q_5)), bState G q_5 u_6 u_8 al2, bText G u_6 u_7 m0 u_10, bText G u_8 u_9 m1 u_11, bState G so p0 p1 al2, bText G p0 b0 m0 f0, bText G p1 b1 m1 f1, bPool G ph kp] H := hP
        have hD : wD A [bSaved G sv sa od2 (sz2 + 1) (up f z2 (some q_5)), bState G q_5 u_6 u_8 al2, bText G u_6 u_7 m0 u_10, bText G u_8 u_9 m1 u_11, bState G so p0 p1 al2, bText G p0 b0 m0 f0, bText G p1 b1 m1 f1, bPool G ph kp] := hD
        have hP : wP G [bSaved G sv sa od2 (sz2 + 1) (up f z2 (some q_5)), bState G so p0 p1 al2, bText G p0 b0 m0 f0, bText G p1 b1 m1 f1, bState G q_5 u_6 u_8 al2, bText G u_6 u_7 m0 u_10, bText G u_8 u_9 m1 u_11, bPool G ph kp] H := wP_sub hP [0, 4, 5, 6, 1, 2, 3, 7] rfl
        have hD : wD A [bSaved G sv sa od2 (sz2 + 1) (up f z2 (some q_5)), bState G so p0 p1 al2, bText G p0 b0 m0 f0, bText G p1 b1 m1 f1, bState G q_5 u_6 u_8 al2, bText G u_6 u_7 m0 u_10, bText G u_8 u_9 m1 u_11, bPool G ph kp] := wD_sub hD [0, 4, 5, 6, 1, 2, 3, 7] (by decide) rfl
        have hP : wP G [bSaved G sv sa od2 (sz2 + 1) (up f z2 (some q_5)), bState G so p0 p1 al2, bText G p0 b0 m0 f0, bText G p1 b1 m1 f1, bPool G (phS ph z2.toNat ((q_5, u_6, u_7, u_8, u_9), (al2, m0, m1), u_10, u_11)) (kp + 1)] H := wP_perm (L := [bSaved G sv sa od2 (sz2 + 1) (up f z2 (some q_5)), bState G so p0 p1 al2, bText G p0 b0 m0 f0, bText G p1 b1 m1 f1]) (pool_add2 G ph ((q_5, u_6, u_7, u_8, u_9), (al2, m0, m1), u_10, u_11) (by omega)) hP
        have hD : wD A [bSaved G sv sa od2 (sz2 + 1) (up f z2 (some q_5)), bState G so p0 p1 al2, bText G p0 b0 m0 f0, bText G p1 b1 m1 f1, bPool G (phS ph z2.toNat ((q_5, u_6, u_7, u_8, u_9), (al2, m0, m1), u_10, u_11)) (kp + 1)] := wD_perm (L := [bSaved G sv sa od2 (sz2 + 1) (up f z2 (some q_5)), bState G so p0 p1 al2, bText G p0 b0 m0 f0, bText G p1 b1 m1 f1]) (pool_add2 G ph ((q_5, u_6, u_7, u_8, u_9), (al2, m0, m1), u_10, u_11) (by omega)) hD
        exact cret_v hx hb hr hlocks hS hP hD (Nat.le_of_ble_eq_true rfl) (Nat.le_of_ble_eq_true rfl) dX4_save_87 [0, 1, 2, 3, 4] (by decide) ⟨od2, sz2 + 1, up f z2 (some q_5), phS ph z2.toNat ((q_5, u_6, u_7, u_8, u_9), (al2, m0, m1), u_10, u_11), kp + 1⟩ rfl ⟨(show (sz < 6 → od2 = od ∧ (sz2 + 1) = sz + 1) ∧ (sz = 6 → od2 = (od + 1) % 6 ∧ (sz2 + 1) = 6) from by omega), (show ((kp + 1) = kp ∨ (kp + 1) = kp + 1) ∧ ((kp + 1) : Int) ≤ 6 ∧ (sz2 + 1) ≤ (kp + 1) ∧ (od2 = 0 ∨ (kp + 1) = 6) from by omega), (show ∀ z : Int, 0 ≤ z → z < 6 → (up f z2 (some q_5)) z = if z < (kp + 1) then some ((phS ph z2.toNat ((q_5, u_6, u_7, u_8, u_9), (al2, m0, m1), u_10, u_11)) z.toNat).1.1 else none from by intro z h1 h2; if e9 : z.toNat = z2.toNat then (rw [phS_at e9, up_at (by omega), if_pos (by omega)]) else (rw [phS_ne e9, up_ne (by omega), hf z h1 h2]; if e8 : z < kp then (rw [if_pos e8, if_pos (by omega)]) else (rw [if_neg e8, if_neg (by omega)]))), (show ∀ i : Nat, (i : Int) ≠ (od2 + ((sz2 + 1) - 1)) % 6 → i < kp → (phS ph z2.toNat ((q_5, u_6, u_7, u_8, u_9), (al2, m0, m1), u_10, u_11)) i = ph i from by intro i h1 h2; exact phS_ne (by omega)), (show ((phS ph z2.toNat ((q_5, u_6, u_7, u_8, u_9), (al2, m0, m1), u_10, u_11)) ((od2 + ((sz2 + 1) - 1)) % 6).toNat).2.1 = (al2, m0, m1) from by rw [show ((od2 + (sz2 + 1 - 1)) % 6).toNat = z2.toNat by omega, phS_at rfl]), (show ∀ j : Int, 0 ≤ j → j < m0 → ((phS ph z2.toNat ((q_5, u_6, u_7, u_8, u_9), (al2, m0, m1), u_10, u_11)) ((od2 + ((sz2 + 1) - 1)) % 6).toNat).2.2.1 j = f0 j from by rw [show ((od2 + (sz2 + 1 - 1)) % 6).toNat = z2.toNat by omega, phS_at rfl]; exact hc0), (show ∀ j : Int, 0 ≤ j → j < m1 → ((phS ph z2.toNat ((q_5, u_6, u_7, u_8, u_9), (al2, m0, m1), u_10, u_11)) ((od2 + ((sz2 + 1) - 1)) % 6).toNat).2.2.2 j = f1 j from by rw [show ((od2 + (sz2 + 1 - 1)) % 6).toNat = z2.toNat by omega, phS_at rfl]; exact hc1)⟩ rfl hQ
    refine va_get (ci := 4) (v := .int (jz sz)) (C := RX4) (T := TX4) (N := 3) hx hb hts wfX4 hown hK.1 hP 0 rfl rfl 2 (by decide) (hts _ wm76) (fun _ h9 => h9) rfl dX4_save_1 ?_
    refine jv_bipush hx hb dX4_save_4 (by decide) ?_
    refine jv_icmp_lt (tgt := 32) hx hb dX4_save_6 (by decide) (by omega) (by omega) (fun c_14 => ?_) (fun c_14 => ?_)
    · exact K32 od sz (by omega) (by omega) (by omega) H _ _ hP hD hS (lv_sub hl [0, 1] rfl)
    · refine lv_aload_n hx hb dX4_save_9 rfl (lv_at hl 0 rfl) ?_
      refine lv_aload_n hx hb dX4_save_10 rfl (lv_at hl 0 rfl) ?_
      refine va_get (ci := 4) (v := .int (jz od)) (C := RX4) (T := TX4) (N := 3) hx hb hts wfX4 hown hK.1 hP 0 rfl rfl 1 (by decide) (hts _ wm75) (fun _ h9 => h9) rfl dX4_save_11 ?_
      refine jv_iconst hx hb dX4_save_14 ?_
      refine jv_iadd hx hb dX4_save_15 ?_
      refine jv_bipush hx hb dX4_save_16 (by decide) ?_
      refine jv_irem hx hb dX4_save_18 (by omega) (by omega) (by omega) (by omega) ?_
      refine va_put (ci := 4) (v := .int (jz ((od + 1) % 6))) (ty := .int) (C := RX4) (T := TX4) (N := 3) hx hb hts wfX4 tyX4 tyX4_ok nmX4 hown hK.1 hP hD hS 0 rfl rfl 1 (by decide) (hts _ wm75) (fun _ h9 => h9) rfl (by decide +kernel) rfl rfl (Nat.le_of_ble_eq_true rfl) dX4_save_19 (fun H locs hP hD hS => ?_)
      have hP : wP G [bSaved G sv sa ((od + 1) % 6) sz f, bState G so p0 p1 al2, bText G p0 b0 m0 f0, bText G p1 b1 m1 f1, bPool G ph kp] H := hP
      have hD : wD A [bSaved G sv sa ((od + 1) % 6) sz f, bState G so p0 p1 al2, bText G p0 b0 m0 f0, bText G p1 b1 m1 f1, bPool G ph kp] := hD
      refine lv_aload_n hx hb dX4_save_22 rfl (lv_at hl 0 rfl) ?_
      refine lv_dup hx hb dX4_save_23 rfl ?_
      refine va_get (ci := 4) (v := .int (jz sz)) (C := RX4) (T := TX4) (N := 3) hx hb hts wfX4 hown hK.1 hP 0 rfl rfl 2 (by decide) (hts _ wm76) (fun _ h9 => h9) rfl dX4_save_24 ?_
      refine jv_iconst hx hb dX4_save_27 ?_
      refine jv_isub hx hb dX4_save_28 ?_
      refine va_put (ci := 4) (v := .int (jz (sz - 1))) (ty := .int) (C := RX4) (T := TX4) (N := 3) hx hb hts wfX4 tyX4 tyX4_ok nmX4 hown hK.1 hP hD hS 0 rfl rfl 2 (by decide) (hts _ wm76) (fun _ h9 => h9) rfl (by decide +kernel) rfl rfl (Nat.le_of_ble_eq_true rfl) dX4_save_29 (fun H locs hP hD hS => ?_)
      have hP : wP G [bSaved G sv sa ((od + 1) % 6) (sz - 1) f, bState G so p0 p1 al2, bText G p0 b0 m0 f0, bText G p1 b1 m1 f1, bPool G ph kp] H := hP
      have hD : wD A [bSaved G sv sa ((od + 1) % 6) (sz - 1) f, bState G so p0 p1 al2, bText G p0 b0 m0 f0, bText G p1 b1 m1 f1, bPool G ph kp] := hD
      exact K32 ((od + 1) % 6) (sz - 1) (by omega) (by omega) (by omega) H _ _ hP hD hS (lv_sub hl [0, 1] rfl)
  exact KH s.heap [] hP hD hS
abbrev rmX4_restore : Room := { frames := 3, cells := 0, slots := 0, locals := 66 }
set_option maxHeartbeats 4000000 in
set_option maxRecDepth 100000 in
theorem mX4_restore (l : Launch) (G : GG) (sv : Nat) (sa : Nat) (od : Int) (sz : Int) (f : Int → Option Nat) (ph : Nat → SG) (kp : Nat) (st : Nat) (t0 : Nat) (t1 : Nat) (al : Int) (a0 : Nat) (n0 : Int) (g0 : Int → Int) (a1 : Nat) (n1 : Int) (g1 : Int → Int) (zp : Nat) (hs : 0 < sz ∧ sz ≤ 6 ∧ sz ≤ kp ∧ kp ≤ 6) (ho : 0 ≤ od ∧ od < 6) (hk2 : od = 0 ∨ kp = 6) (hf : ∀ z : Int, 0 ≤ z → z < 6 → f z = if z < kp then some (ph z.toNat).1.1 else none) (hz : zp = ((od + (sz - 1)) % 6).toNat) (hq : (0 ≤ (ph zp).2.1.2.1 ∧ (ph zp).2.1.2.1 ≤ 20) ∧ (0 ≤ (ph zp).2.1.2.2 ∧ (ph zp).2.1.2.2 ≤ 20)) : Ct l yX4_restore cX4_restore 3 none rmX4_restore G [.ref sv, .ref st] [bSaved G sv sa od sz f, bState G st t0 t1 al, bText G t0 a0 n0 g0, bText G t1 a1 n1 g1, bPool G ph kp] (fun uo : (Int → Int) × (Int → Int) => none) (fun uo => (∀ j : Int, 0 ≤ j → j < (ph zp).2.1.2.1 → uo.1 j = (ph zp).2.2.1 j) ∧ (∀ j : Int, 0 ≤ j → j < (ph zp).2.1.2.2 → uo.2 j = (ph zp).2.2.2 j)) (fun uo => [bSaved G sv sa od (sz - 1) f, bState G st t0 t1 ((ph zp).2.1.1), bText G t0 a0 ((ph zp).2.1.2.1) uo.1, bText G t1 a1 ((ph zp).2.1.2.2) uo.2, bPool G ph kp]) := by
  refine cof (by decide) (Nat.le_of_ble_eq_true rfl) ?_
  intro p e s m args below meth c A ls hx hb hr hml hown hts hlocks hin hA hK hP hD hS hl Q hQ
  have hown : s.vm.findClass RX4 = some m.cls := hown
  have hl : lv_has ls 3 [(0, .ref sv), (1, .ref st)] := hl
  have KH : ∀ (H : Heap) (locs : List Loc), wP G [bSaved G sv sa od sz f, bState G st t0 t1 al, bText G t0 a0 n0 g0, bText G t1 a1 n1 g1, bPool G ph kp] H → wD A [bSaved G sv sa od sz f, bState G st t0 t1 al, bText G t0 a0 n0 g0, bText G t1 a1 n1 g1, bPool G ph kp] → va_S A s.heap H locs → W p l e rmX4_restore s m args below meth c H locs 0 0 Q (F0 m 0 ls []) := by
    intro H locs hP hD hS
    refine lv_aload_n hx hb dX4_restore_0 rfl (lv_at hl 0 rfl) ?_
    refine va_get (ci := 4) (v := .int (jz sz)) (C := RX4) (T := TX4) (N := 3) hx hb hts wfX4 hown hK.1 hP 0 rfl rfl 2 (by decide) (hts _ wm76) (fun _ h9 => h9) rfl dX4_restore_1 ?_
    refine jv_if_gt (tgt := 8) hx hb dX4_restore_4 (by decide) (by omega) (fun c_1 => ?_) (fun c_1 => ?_)
    · refine lv_aload_n hx hb dX4_restore_8 rfl (lv_at hl 0 rfl) ?_
      refine lv_dup hx hb dX4_restore_9 rfl ?_
      refine va_get (ci := 4) (v := .int (jz sz)) (C := RX4) (T := TX4) (N := 3) hx hb hts wfX4 hown hK.1 hP 0 rfl rfl 2 (by decide) (hts _ wm76) (fun _ h9 => h9) rfl dX4_restore_10 ?_
      refine jv_iconst hx hb dX4_restore_13 ?_
      refine jv_isub hx hb dX4_restore_14 ?_
      refine va_put (ci := 4) (v := .int (jz (sz - 1))) (ty := .int) (C := RX4) (T := TX4) (N := 3) hx hb hts wfX4 tyX4 tyX4_ok nmX4 hown hK.1 hP hD hS 0 rfl rfl 2 (by decide) (hts _ wm76) (fun _ h9 => h9) rfl (by decide +kernel) rfl rfl (Nat.le_of_ble_eq_true rfl) dX4_restore_15 (fun H locs hP hD hS => ?_)
      have hP : wP G [bSaved G sv sa od (sz - 1) f, bState G st t0 t1 al, bText G t0 a0 n0 g0, bText G t1 a1 n1 g1, bPool G ph kp] H := hP
      have hD : wD A [bSaved G sv sa od (sz - 1) f, bState G st t0 t1 al, bText G t0 a0 n0 g0, bText G t1 a1 n1 g1, bPool G ph kp] := hD
      refine lv_aload_n hx hb dX4_restore_18 rfl (lv_at hl 0 rfl) ?_
      refine va_get (ci := 4) (v := .ref sa) (C := RX4) (T := TX4) (N := 3) hx hb hts wfX4 hown hK.1 hP 0 rfl rfl 0 (by decide) (hts _ wm74) (fun _ h9 => h9) rfl dX4_restore_19 ?_
      refine lv_aload_n hx hb dX4_restore_22 rfl (lv_at hl 0 rfl) ?_
      refine va_get (ci := 4) (v := .int (jz od)) (C := RX4) (T := TX4) (N := 3) hx hb hts wfX4 hown hK.1 hP 0 rfl rfl 1 (by decide) (hts _ wm75) (fun _ h9 => h9) rfl dX4_restore_23 ?_
      refine lv_aload_n hx hb dX4_restore_26 rfl (lv_at hl 0 rfl) ?_
      refine va_get (ci := 4) (v := .int (jz (sz - 1))) (C := RX4) (T := TX4) (N := 3) hx hb hts wfX4 hown hK.1 hP 0 rfl rfl 2 (by decide) (hts _ wm76) (fun _ h9 => h9) rfl dX4_restore_27 ?_
      refine jv_iadd hx hb dX4_restore_30 ?_
      refine jv_bipush hx hb dX4_restore_31 (by decide) ?_
      refine jv_irem hx hb dX4_restore_33 (by omega) (by omega) (by omega) (by omega) ?_
      refine jv_qald hx hb hK.1 hP 1 (g := f) rfl (by omega) (by omega) (by decide) dX4_restore_34 ?_
      refine jv_rf (a := (ph zp).1.1) (by rw [hf _ (by omega) (by omega), if_pos (by omega), ← hz]) ?_
      refine lv_astore_n (lv' := [(2, .ref ((ph zp).1.1)), (0, .ref sv), (1, .ref st)]) hx hb dX4_restore_35 rfl hl (by decide) rfl (fun ls hl => ?_)
      refine lv_aload_n hx hb dX4_restore_36 rfl (lv_at hl 0 rfl) ?_
      refine lv_ifnull hx hb dX4_restore_37 ?_
      refine lv_aload_n hx hb dX4_restore_40 rfl (lv_at hl 2 rfl) ?_
      refine lv_aload_n hx hb dX4_restore_41 rfl (lv_at hl 0 rfl) ?_
      have hP : wP G [bSaved G sv sa od (sz - 1) f, bState G st t0 t1 al, bText G t0 a0 n0 g0, bText G t1 a1 n1 g1, bState G ((ph zp).1.1) ((ph zp).1.2.1) ((ph zp).1.2.2.2.1) ((ph zp).2.1.1), bText G ((ph zp).1.2.1) ((ph zp).1.2.2.1) ((ph zp).2.1.2.1) ((ph zp).2.2.1), bText G ((ph zp).1.2.2.2.1) ((ph zp).1.2.2.2.2) ((ph zp).2.1.2.2) ((ph zp).2.2.2), bPoolX G ph kp zp] H := wP_perm (L := [bSaved G sv sa od (sz - 1) f, bState G st t0 t1 al, bText G t0 a0 n0 g0, bText G t1 a1 n1 g1]) (pool_get2 G ph (by omega)) hP
      have hD : wD A [bSaved G sv sa od (sz - 1) f, bState G st t0 t1 al, bText G t0 a0 n0 g0, bText G t1 a1 n1 g1, bState G ((ph zp).1.1) ((ph zp).1.2.1) ((ph zp).1.2.2.2.1) ((ph zp).2.1.1), bText G ((ph zp).1.2.1) ((ph zp).1.2.2.1) ((ph zp).2.1.2.1) ((ph zp).2.2.1), bText G ((ph zp).1.2.2.2.1) ((ph zp).1.2.2.2.2) ((ph zp).2.1.2.2) ((ph zp).2.2.2), bPoolX G ph kp zp] := wD_perm (L := [bSaved G sv sa od (sz - 1) f, bState G st t0 t1 al, bText G t0 a0 n0 g0, bText G t1 a1 n1 g1]) (pool_get2 G ph (by omega)) hD
      refine kV ⟨hx, hb, hml, hown, hts⟩ hK hA hS hP hD [.ref ((ph zp).1.1)] [] (mX5_copyFrom l G st t0 t1 al a0 n0 g0 a1 n1 g1 ((ph zp).1.1) ((ph zp).1.2.1) ((ph zp).1.2.2.2.1) ((ph zp).2.1.1) ((ph zp).1.2.2.1) ((ph zp).2.1.2.1) ((ph zp).2.2.1) ((ph zp).1.2.2.2.2) ((ph zp).2.1.2.2) ((ph zp).2.2.2) (by exact hq.1) (by exact hq.2)) lkX4_25 [1, 2, 3, 4, 5, 6] [0, 7] (br := [bSaved G sv sa od (sz - 1) f, bPoolX G ph kp zp]) rfl rfl (by decide) 0 5 rfl rfl rfl rfl (Nat.le_of_ble_eq_true rfl) hl.1 dX4_restore_42 ⟨Nat.le_of_ble_eq_true rfl, Nat.le_of_ble_eq_true rfl⟩ ⟨Nat.le_of_ble_eq_true rfl, Nat.le_of_ble_eq_true rfl⟩ (fun u9 H locs hp9 hP hD hS => ?_)
      obtain ⟨u_2, u_3⟩ := u9
      have hc_4 : ∀ j : Int, 0 ≤ j → j < ((ph zp).2.1.2.1) → u_2 j = ((ph zp).2.2.1) j := hp9.1
      have hd_5 : ∀ j : Int, 0 ≤ j → j < ((ph zp).2.1.2.2) → u_3 j = ((ph zp).2.2.2) j := hp9.2
      have hP : wP G [bSaved G sv sa od (sz - 1) f, bPoolX G ph kp zp, bState G st t0 t1 ((ph zp).2.1.1), bText G t0 a0 ((ph zp).2.1.2.1) u_2, bText G t1 a1 ((ph zp).2.1.2.2) u_3, bState G ((ph zp).1.1) ((ph zp).1.2.1) ((ph zp).1.2.2.2.1) ((ph zp).2.1.1), bText G ((ph zp).1.2.1) ((ph zp).1.2.2.1) ((ph zp).2.1.2.1) ((ph zp).2.2.1), bText G ((ph zp).1.2.2.2.1) ((ph zp).1.2.2.2.2) ((ph zp).2.1.2.2) ((ph zp).2.2.2)] H := hP
      have hD : wD A [bSaved G sv sa od (sz - 1) f, bPoolX G ph kp zp, bState G st t0 t1 ((ph zp).2.1.1), bText G t0 a0 ((ph zp).2.1.2.1) u_2, bText G t1 a1 ((ph zp).2.1.2.2) u_3, bState G ((ph zp).1.1) ((ph zp).1.2.1) ((ph zp).1.2.2.2.1) ((ph zp).2.1.1), bText G ((ph zp).1.2.1) ((ph zp).1.2.2.1) ((ph zp).2.1.2.1) ((ph zp).2.2.1), bText G ((ph zp).1.2.2.2.1) ((ph zp).1.2.2.2.2) ((ph zp).2.1.2.2) ((ph zp).2.2.2)] := hD
      have hP : wP G [bSaved G sv sa od (sz - 1) f, bState G st t0 t1 ((ph zp).2.1.1), bText G t0 a0 ((ph zp).2.1.2.1) u_2, bText G t1 a1 ((ph zp).2.1.2.2) u_3, bState G ((ph zp).1.1) ((ph zp).1.2.1) ((ph zp).1.2.2.2.1) ((ph zp).2.1.1), bText G ((ph zp).1.2.1) ((ph zp).1.2.2.1) ((ph zp).2.1.2.1) ((ph zp).2.2.1), bText G ((ph zp).1.2.2.2.1) ((ph zp).1.2.2.2.2) ((ph zp).2.1.2.2) ((ph zp).2.2.2), bPoolX G ph kp zp] H := wP_sub hP [0, 2, 3, 4, 5, 6, 7, 1] rfl
      have hD : wD A [bSaved G sv sa od (sz - 1) f, bState G st t0 t1 ((ph zp).2.1.1), bText G t0 a0 ((ph zp).2.1.2.1) u_2, bText G t1 a1 ((ph zp).2.1.2.2) u_3, bState G ((ph zp).1.1) ((ph zp).1.2.1) ((ph zp).1.2.2.2.1) ((ph zp).2.1.1), bText G ((ph zp).1.2.1) ((ph zp).1.2.2.1) ((ph zp).2.1.2.1) ((ph zp).2.2.1), bText G ((ph zp).1.2.2.2.1) ((ph zp).1.2.2.2.2) ((ph zp).2.1.2.2) ((ph zp).2.2.2), bPoolX G ph kp zp] := wD_sub hD [0, 2, 3, 4, 5, 6, 7, 1] (by decide) rfl
      show W p l e rmX4_restore s m args below meth c H locs 0 0 Q (F0 m 45 ls [])
      have hc0 := hc_4
      have hc1 := hd_5
      have hP : wP G [bSaved G sv sa od (sz - 1) f, bState G st t0 t1 ((ph zp).2.1.1), bText G t0 a0 ((ph zp).2.1.2.1) u_2, bText G t1 a1 ((ph zp).2.1.2.2) u_3, bState G ((ph zp).1.1) ((ph zp).1.2.1) ((ph zp).1.2.2.2.1) ((ph zp).2.1.1), bText G ((ph zp).1.2.1) ((ph zp).1.2.2.1) ((ph zp).2.1.2.1) ((ph zp).2.2.1), bText G ((ph zp).1.2.2.2.1) ((ph zp).1.2.2.2.2) ((ph zp).2.1.2.2) ((ph zp).2.2.2), bPoolX G ph kp zp] H := wP_sub hP [0, 1, 2, 3, 4, 5, 6, 7] rfl
      have hD : wD A [bSaved G sv sa od (sz - 1) f, bState G st t0 t1 ((ph zp).2.1.1), bText G t0 a0 ((ph zp).2.1.2.1) u_2, bText G t1 a1 ((ph zp).2.1.2.2) u_3, bState G ((ph zp).1.1) ((ph zp).1.2.1) ((ph zp).1.2.2.2.1) ((ph zp).2.1.1), bText G ((ph zp).1.2.1) ((ph zp).1.2.2.1) ((ph zp).2.1.2.1) ((ph zp).2.2.1), bText G ((ph zp).1.2.2.2.1) ((ph zp).1.2.2.2.2) ((ph zp).2.1.2.2) ((ph zp).2.2.2), bPoolX G ph kp zp] := wD_sub hD [0, 1, 2, 3, 4, 5, 6, 7] (by decide) rfl
      have hP : wP G [bSaved G sv sa od (sz - 1) f, bState G st t0 t1 ((ph zp).2.1.1), bText G t0 a0 ((ph zp).2.1.2.1) u_2, bText G t1 a1 ((ph zp).2.1.2.2) u_3, bPool G ph kp] H := wP_perm (L := [bSaved G sv sa od (sz - 1) f, bState G st t0 t1 ((ph zp).2.1.1), bText G t0 a0 ((ph zp).2.1.2.1) u_2, bText G t1 a1 ((ph zp).2.1.2.2) u_3]) (pool_get2 G ph (by omega)).symm hP
      have hD : wD A [bSaved G sv sa od (sz - 1) f, bState G st t0 t1 ((ph zp).2.1.1), bText G t0 a0 ((ph zp).2.1.2.1) u_2, bText G t1 a1 ((ph zp).2.1.2.2) u_3, bPool G ph kp] := wD_perm (L := [bSaved G sv sa od (sz - 1) f, bState G st t0 t1 ((ph zp).2.1.1), bText G t0 a0 ((ph zp).2.1.2.1) u_2, bText G t1 a1 ((ph zp).2.1.2.2) u_3]) (pool_get2 G ph (by omega)).symm hD
      exact cret_v hx hb hr hlocks hS hP hD (Nat.le_of_ble_eq_true rfl) (Nat.le_of_ble_eq_true rfl) dX4_restore_45 [0, 1, 2, 3, 4] (by decide) ⟨u_2, u_3⟩ rfl ⟨(show ∀ j : Int, 0 ≤ j → j < (ph zp).2.1.2.1 → u_2 j = (ph zp).2.2.1 j from hc0), (show ∀ j : Int, 0 ≤ j → j < (ph zp).2.1.2.2 → u_3 j = (ph zp).2.2.2 j from hc1)⟩ rfl hQ
    · exfalso; omega
  exact KH s.heap [] hP hD hS
