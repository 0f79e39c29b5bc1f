abbrev bBuf (G : GG) (u : Nat) (v : Nat) (k : Int) (h : Int → Int) : va_W := [(u, .inr (2, [.ref v, .int (jz k)])), (v, ja G 60 h)]
abbrev rmX2_init : Room := { frames := 1, cells := 1, slots := 60, locals := 20 }
set_option maxHeartbeats 4000000 in
set_option maxRecDepth 100000 in
theorem mX2_init (l : Launch) (G : GG) (u : Nat)  : Ct l yX2_init cX2_init 1 none rmX2_init G [.ref u] [[(u, .inr (2, [.null, .int (jz 0)]))]] (fun uo : Nat => none) (fun uo => True) (fun uo => [bBuf G u uo 0 (fun _ => 0)]) := by
  refine cof (by decide) (Nat.le_of_ble_eq_true rfl) ?_
  intro p e s m args below meth c A ls hx hb hr hml hown hts hlocks hin hA hK hP hD hS hl Q hQ
  have hown : s.vm.findClass RX2 = some m.cls := hown
  have hl : lv_has ls 1 [(0, .ref u)] := hl
  have KH : ∀ (H : Heap) (locs : List Loc), wP G [[(u, .inr (2, [.null, .int (jz 0)]))]] H → wD A [[(u, .inr (2, [.null, .int (jz 0)]))]] → va_S A s.heap H locs → W p l e rmX2_init s m args below meth c H locs 0 0 Q (F0 m 0 ls []) := by
    intro H locs hP hD hS
    refine lv_aload_n hx hb dX2_init_0 rfl (lv_at hl 0 rfl) ?_
    refine W.objInit hx hb hown (hts _ wm89) (hts _ wm34) (hts _ wm35) rfl (by rw [hml]; exact hl.1) rfl dX2_init_1 (Nat.le_of_ble_eq_true rfl) (Nat.le_of_ble_eq_true rfl) ?_
    refine W.eq (g2 := F0 m 4 ls []) rfl ?_
    refine lv_aload_n hx hb dX2_init_4 rfl (lv_at hl 0 rfl) ?_
    refine jv_bipush hx hb dX2_init_5 (by decide) ?_
    refine jv_newi hx hb hts hK.1 hP hD hS hA 60 rfl (by decide) (Nat.le_of_ble_eq_true rfl) (Nat.le_of_ble_eq_true rfl) wm55 dX2_init_7 (fun q_1 H hP hD hS => ?_)
    have hP : wP G [[(u, .inr (2, [.null, .int (jz 0)]))], [(q_1, ja G 60 ((fun _ => 0)))]] H := hP
    have hD : wD A [[(u, .inr (2, [.null, .int (jz 0)]))], [(q_1, ja G 60 ((fun _ => 0)))]] := hD
    show W p l e rmX2_init s m args below meth c H locs 1 60 Q (F0 m 9 ls [.ref q_1, .ref u])
    refine va_putF (ci := 2) (v := .ref q_1) (ty := (.array .int)) (C := RX2) (T := TX2) (N := 2) hx hb hts wfX2 tyX2 tyX2_ok nmX2 hown hK.1 hP hD hS 0 rfl rfl 0 (by decide) (hts _ wm90) (fun _ h9 => h9) rfl hin rfl (by decide +kernel) rfl rfl (Nat.le_of_ble_eq_true rfl) dX2_init_9 (fun H locs hP hD hS => ?_)
    have hP : wP G [[(u, .inr (2, [.ref q_1, .int (jz 0)]))], [(q_1, ja G 60 ((fun _ => 0)))]] H := hP
    have hD : wD A [[(u, .inr (2, [.ref q_1, .int (jz 0)]))], [(q_1, ja G 60 ((fun _ => 0)))]] := hD
    refine lv_aload_n hx hb dX2_init_12 rfl (lv_at hl 0 rfl) ?_
    refine jv_iconst hx hb dX2_init_13 ?_
    refine va_put (ci := 2) (v := .int (jz 0)) (ty := .int) (C := RX2) (T := TX2) (N := 2) hx hb hts wfX2 tyX2 tyX2_ok nmX2 hown hK.1 hP hD hS 0 rfl rfl 1 (by decide) (hts _ wm91) (fun _ h9 => h9) rfl (by decide +kernel) rfl rfl (Nat.le_of_ble_eq_true rfl) dX2_init_14 (fun H locs hP hD hS => ?_)
    have hP : wP G [[(u, .inr (2, [.ref q_1, .int (jz 0)]))], [(q_1, ja G 60 ((fun _ => 0)))]] H := hP
    have hD : wD A [[(u, .inr (2, [.ref q_1, .int (jz 0)]))], [(q_1, ja G 60 ((fun _ => 0)))]] := hD
    have hP : wP G [bBuf G u q_1 0 (fun _ => 0)] H := hP
    have hD : wD A [bBuf G u q_1 0 (fun _ => 0)] := hD
    exact cret_v hx hb hr hlocks hS hP hD (Nat.le_of_ble_eq_true rfl) (Nat.le_of_ble_eq_true rfl) dX2_init_17 [0] (by decide) q_1 rfl trivial rfl hQ
  exact KH s.heap [] hP hD hS
