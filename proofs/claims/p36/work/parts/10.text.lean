abbrev bText (G : GG) (t : Nat) (a : Nat) (n : Int) (g : Int → Int) : va_W := [(t, .inr (6, [.ref a, .int (jz n)])), (a, ja G 20 g)]
abbrev rmX6_size : Room := { frames := 0, cells := 0, slots := 0, locals := 0 }
set_option maxHeartbeats 4000000 in
set_option maxRecDepth 100000 in
theorem mX6_size (l : Launch) (G : GG) (t : Nat) (a : Nat) (n : Int) (g : Int → Int)  : Ct l yX6_size cX6_size 1 (some .int) rmX6_size G [.ref t] [bText G t a n g] (fun uo : Unit => some (.int (jz n))) (fun uo => True) (fun uo => [bText G t a n g]) := by
  refine cof (by decide) (Nat.le_of_ble_eq_true rfl) ?_
  intro p e s m args below meth c A ls hx hb hr hml hown hts hlocks hin hA hK hP hD hS hl Q hQ
  have hown : s.vm.findClass RX6 = some m.cls := hown
  have hl : lv_has ls 1 [(0, .ref t)] := hl
  have KH : ∀ (H : Heap) (locs : List Loc), wP G [bText G t a n g] H → wD A [bText G t a n g] → va_S A s.heap H locs → W p l e rmX6_size s m args below meth c H locs 0 0 Q (F0 m 0 ls []) := by
    intro H locs hP hD hS
    refine lv_aload_n hx hb dX6_size_0 rfl (lv_at hl 0 rfl) ?_
    refine va_get (ci := 6) (v := .int (jz n)) (C := RX6) (T := TX6) (N := 2) hx hb hts wfX6 hown hK.1 hP 0 rfl rfl 1 (by decide) (hts _ wm49) (fun _ h9 => h9) rfl dX6_size_1 ?_
    exact cret_i hx hb hr hlocks hS hP hD (Nat.le_of_ble_eq_true rfl) (Nat.le_of_ble_eq_true rfl) rfl dX6_size_4 [0] (by decide) () rfl trivial (congrArg (fun z : Int => some (Value.int (jz z))) (show n = n from by first | rfl | omega | (split <;> first | rfl | omega | (exfalso; omega)))) hQ
  exact KH s.heap [] hP hD hS
abbrev rmX6_at : Room := { frames := 0, cells := 0, slots := 0, locals := 0 }
set_option maxHeartbeats 4000000 in
set_option maxRecDepth 100000 in
theorem mX6_at (l : Launch) (G : GG) (t : Nat) (a : Nat) (n : Int) (g : Int → Int) (z : Int) (hn : 0 ≤ n ∧ n ≤ 20) (hz : jr z) : Ct l yX6_at cX6_at 2 (some .int) rmX6_at G [.ref t, .int (jz z)] [bText G t a n g] (fun uo : Unit => some (.int (jz (if 0 ≤ z ∧ z < n then g z else -1)))) (fun uo => True) (fun uo => [bText G t a n g]) := by
  refine cof (by decide) (Nat.le_of_ble_eq_true rfl) ?_
  intro p e s m args below meth c A ls hx hb hr hml hown hts hlocks hin hA hK hP hD hS hl Q hQ
  have hown : s.vm.findClass RX6 = some m.cls := hown
  have hl : lv_has ls 2 [(0, .ref t), (1, .int (jz z))] := hl
  have KH : ∀ (H : Heap) (locs : List Loc), wP G [bText G t a n g] H → wD A [bText G t a n g] → va_S A s.heap H locs → W p l e rmX6_at s m args below meth c H locs 0 0 Q (F0 m 0 ls []) := by
    intro H locs hP hD hS
    refine lv_iload_n hx hb dX6_at_0 rfl (lv_at hl 1 rfl) ?_
    refine jv_if_lt (tgt := 21) hx hb dX6_at_1 (by decide) (by omega) (fun c_1 => ?_) (fun c_1 => ?_)
    · refine jv_iconst hx hb dX6_at_21 ?_
      exact cret_i hx hb hr hlocks hS hP hD (Nat.le_of_ble_eq_true rfl) (Nat.le_of_ble_eq_true rfl) rfl dX6_at_22 [0] (by decide) () rfl trivial (congrArg (fun z : Int => some (Value.int (jz z))) (show ((-1)) = if 0 ≤ z ∧ z < n then g z else -1 from by first | rfl | omega | (split <;> first | rfl | omega | (exfalso; omega)))) hQ
    · refine lv_iload_n hx hb dX6_at_4 rfl (lv_at hl 1 rfl) ?_
      refine lv_aload_n hx hb dX6_at_5 rfl (lv_at hl 0 rfl) ?_
      refine va_get (ci := 6) (v := .int (jz n)) (C := RX6) (T := TX6) (N := 2) hx hb hts wfX6 hown hK.1 hP 0 rfl rfl 1 (by decide) (hts _ wm49) (fun _ h9 => h9) rfl dX6_at_6 ?_
      refine jv_icmp_ge (tgt := 21) hx hb dX6_at_9 (by decide) (by omega) (by omega) (fun c_2 => ?_) (fun c_2 => ?_)
      · refine jv_iconst hx hb dX6_at_21 ?_
        exact cret_i hx hb hr hlocks hS hP hD (Nat.le_of_ble_eq_true rfl) (Nat.le_of_ble_eq_true rfl) rfl dX6_at_22 [0] (by decide) () rfl trivial (congrArg (fun z : Int => some (Value.int (jz z))) (show ((-1)) = if 0 ≤ z ∧ z < n then g z else -1 from by first | rfl | omega | (split <;> first | rfl | omega | (exfalso; omega)))) hQ
      · refine lv_aload_n hx hb dX6_at_12 rfl (lv_at hl 0 rfl) ?_
        refine va_get (ci := 6) (v := .ref a) (C := RX6) (T := TX6) (N := 2) hx hb hts wfX6 hown hK.1 hP 0 rfl rfl 0 (by decide) (hts _ wm48) (fun _ h9 => h9) rfl dX6_at_13 ?_
        refine lv_iload_n hx hb dX6_at_16 rfl (lv_at hl 1 rfl) ?_
        refine jv_iald hx hb hK.1 hP 1 (g := g) rfl (by omega) (by omega) (by decide) dX6_at_17 ?_
        refine lv_goto (tgt := 22) hx hb dX6_at_18 (by decide) ?_
        exact cret_i hx hb hr hlocks hS hP hD (Nat.le_of_ble_eq_true rfl) (Nat.le_of_ble_eq_true rfl) rfl dX6_at_22 [0] (by decide) () rfl trivial (congrArg (fun z : Int => some (Value.int (jz z))) (show (g z) = if 0 ≤ z ∧ z < n then g z else -1 from by first | rfl | omega | (split <;> first | rfl | omega | (exfalso; omega)))) hQ
  exact KH s.heap [] hP hD hS
abbrev rmX6_empty : Room := { frames := 0, cells := 0, slots := 0, locals := 0 }
set_option maxHeartbeats 4000000 in
set_option maxRecDepth 100000 in
theorem mX6_empty (l : Launch) (G : GG) (t : Nat) (a : Nat) (n : Int) (g : Int → Int)  : Ct l yX6_empty cX6_empty 1 none rmX6_empty G [.ref t] [bText G t a n g] (fun uo : Unit => none) (fun uo => True) (fun uo => [bText G t a 0 g]) := by
  refine cof (by decide) (Nat.le_of_ble_eq_true rfl) ?_
  intro p e s m args below meth c A ls hx hb hr hml hown hts hlocks hin hA hK hP hD hS hl Q hQ
  have hown : s.vm.findClass RX6 = some m.cls := hown
  have hl : lv_has ls 1 [(0, .ref t)] := hl
  have KH : ∀ (H : Heap) (locs : List Loc), wP G [bText G t a n g] H → wD A [bText G t a n g] → va_S A s.heap H locs → W p l e rmX6_empty s m args below meth c H locs 0 0 Q (F0 m 0 ls []) := by
    intro H locs hP hD hS
    refine lv_aload_n hx hb dX6_empty_0 rfl (lv_at hl 0 rfl) ?_
    refine jv_iconst hx hb dX6_empty_1 ?_
    refine va_put (ci := 6) (v := .int (jz 0)) (ty := .int) (C := RX6) (T := TX6) (N := 2) hx hb hts wfX6 tyX6 tyX6_ok nmX6 hown hK.1 hP hD hS 0 rfl rfl 1 (by decide) (hts _ wm49) (fun _ h9 => h9) rfl (by decide +kernel) rfl rfl (Nat.le_of_ble_eq_true rfl) dX6_empty_2 (fun H locs hP hD hS => ?_)
    have hP : wP G [bText G t a 0 g] H := hP
    have hD : wD A [bText G t a 0 g] := hD
    exact cret_v hx hb hr hlocks hS hP hD (Nat.le_of_ble_eq_true rfl) (Nat.le_of_ble_eq_true rfl) dX6_empty_5 [0] (by decide) () rfl trivial rfl hQ
  exact KH s.heap [] hP hD hS
abbrev rmX6_at_in : Room := { frames := 0, cells := 0, slots := 0, locals := 0 }
set_option maxHeartbeats 4000000 in
set_option maxRecDepth 100000 in
theorem mX6_at_in (l : Launch) (G : GG) (t : Nat) (a : Nat) (n : Int) (g : Int → Int) (z : Int) (hn : 0 ≤ n ∧ n ≤ 20) (hz : 0 ≤ z ∧ z < n) : Ct l yX6_at cX6_at 2 (some .int) rmX6_at_in G [.ref t, .int (jz z)] [bText G t a n g] (fun uo : Unit => some (.int (jz (g z)))) (fun uo => True) (fun uo => [bText G t a n g]) := by
  refine cof (by decide) (Nat.le_of_ble_eq_true rfl) ?_
  intro p e s m args below meth c A ls hx hb hr hml hown hts hlocks hin hA hK hP hD hS hl Q hQ
  have hown : s.vm.findClass RX6 = some m.cls := hown
  have hl : lv_has ls 2 [(0, .ref t), (1, .int (jz z))] := hl
  have KH : ∀ (H : Heap) (locs : List Loc), wP G [bText G t a n g] H → wD A [bText G t a n g] → va_S A s.heap H locs → W p l e rmX6_at_in s m args below meth c H locs 0 0 Q (F0 m 0 ls []) := by
    intro H locs hP hD hS
    refine lv_iload_n hx hb dX6_at_0 rfl (lv_at hl 1 rfl) ?_
    refine jv_if_lt (tgt := 21) hx hb dX6_at_1 (by decide) (by omega) (fun c_1 => ?_) (fun c_1 => ?_)
    · exfalso; omega
    · refine lv_iload_n hx hb dX6_at_4 rfl (lv_at hl 1 rfl) ?_
      refine lv_aload_n hx hb dX6_at_5 rfl (lv_at hl 0 rfl) ?_
      refine va_get (ci := 6) (v := .int (jz n)) (C := RX6) (T := TX6) (N := 2) hx hb hts wfX6 hown hK.1 hP 0 rfl rfl 1 (by decide) (hts _ wm49) (fun _ h9 => h9) rfl dX6_at_6 ?_
      refine jv_icmp_ge (tgt := 21) hx hb dX6_at_9 (by decide) (by omega) (by omega) (fun c_2 => ?_) (fun c_2 => ?_)
      · exfalso; omega
      · refine lv_aload_n hx hb dX6_at_12 rfl (lv_at hl 0 rfl) ?_
        refine va_get (ci := 6) (v := .ref a) (C := RX6) (T := TX6) (N := 2) hx hb hts wfX6 hown hK.1 hP 0 rfl rfl 0 (by decide) (hts _ wm48) (fun _ h9 => h9) rfl dX6_at_13 ?_
        refine lv_iload_n hx hb dX6_at_16 rfl (lv_at hl 1 rfl) ?_
        refine jv_iald hx hb hK.1 hP 1 (g := g) rfl (by omega) (by omega) (by decide) dX6_at_17 ?_
        refine lv_goto (tgt := 22) hx hb dX6_at_18 (by decide) ?_
        exact cret_i hx hb hr hlocks hS hP hD (Nat.le_of_ble_eq_true rfl) (Nat.le_of_ble_eq_true rfl) rfl dX6_at_22 [0] (by decide) () rfl trivial (congrArg (fun z : Int => some (Value.int (jz z))) (show (g z) = g z from by first | rfl | omega | (split <;> first | rfl | omega | (exfalso; omega)))) hQ
  exact KH s.heap [] hP hD hS
abbrev rmX6_set : Room := { frames := 0, cells := 0, slots := 0, locals := 0 }
set_option maxHeartbeats 4000000 in
set_option maxRecDepth 100000 in
theorem mX6_set (l : Launch) (G : GG) (t : Nat) (a : Nat) (n : Int) (g : Int → Int) (z : Int) (v : Int) (hn : 0 ≤ n ∧ n ≤ 20) (hz : 0 ≤ z ∧ z < n) : Ct l yX6_set cX6_set 3 none rmX6_set G [.ref t, .int (jz z), .int (jz v)] [bText G t a n g] (fun uo : Unit => none) (fun uo => True) (fun uo => [bText G t a n (up g z v)]) := by
  refine cof (by decide) (Nat.le_of_ble_eq_true rfl) ?_
  intro p e s m args below meth c A ls hx hb hr hml hown hts hlocks hin hA hK hP hD hS hl Q hQ
  have hown : s.vm.findClass RX6 = some m.cls := hown
  have hl : lv_has ls 3 [(0, .ref t), (1, .int (jz z)), (2, .int (jz v))] := hl
  have KH : ∀ (H : Heap) (locs : List Loc), wP G [bText G t a n g] H → wD A [bText G t a n g] → va_S A s.heap H locs → W p l e rmX6_set s m args below meth c H locs 0 0 Q (F0 m 0 ls []) := by
    intro H locs hP hD hS
    refine lv_iload_n hx hb dX6_set_0 rfl (lv_at hl 1 rfl) ?_
    refine jv_if_lt (tgt := 19) hx hb dX6_set_1 (by decide) (by omega) (fun c_1 => ?_) (fun c_1 => ?_)
    · exfalso; omega
    · refine lv_iload_n hx hb dX6_set_4 rfl (lv_at hl 1 rfl) ?_
      refine lv_aload_n hx hb dX6_set_5 rfl (lv_at hl 0 rfl) ?_
      refine va_get (ci := 6) (v := .int (jz n)) (C := RX6) (T := TX6) (N := 2) hx hb hts wfX6 hown hK.1 hP 0 rfl rfl 1 (by decide) (hts _ wm49) (fun _ h9 => h9) rfl dX6_set_6 ?_
      refine jv_icmp_ge (tgt := 19) hx hb dX6_set_9 (by decide) (by omega) (by omega) (fun c_2 => ?_) (fun c_2 => ?_)
      · exfalso; omega
      · refine lv_aload_n hx hb dX6_set_12 rfl (lv_at hl 0 rfl) ?_
        refine va_get (ci := 6) (v := .ref a) (C := RX6) (T := TX6) (N := 2) hx hb hts wfX6 hown hK.1 hP 0 rfl rfl 0 (by decide) (hts _ wm48) (fun _ h9 => h9) rfl dX6_set_13 ?_
        refine lv_iload_n hx hb dX6_set_16 rfl (lv_at hl 1 rfl) ?_
        refine lv_iload_n hx hb dX6_set_17 rfl (lv_at hl 2 rfl) ?_
        refine jv_iast hx hb hK.1 hP hD hS 1 (g := g) rfl (by omega) (by omega) (by decide) dX6_set_18 (fun H locs hP hD hS => ?_)
        have hP : wP G [bText G t a n (up g z v)] H := hP
        have hD : wD A [bText G t a n (up g z v)] := hD
        exact cret_v hx hb hr hlocks hS hP hD (Nat.le_of_ble_eq_true rfl) (Nat.le_of_ble_eq_true rfl) dX6_set_19 [0] (by decide) () rfl trivial rfl hQ
  exact KH s.heap [] hP hD hS
abbrev rmX6_putIn : Room := { frames := 0, cells := 0, slots := 0, locals := 0 }
set_option maxHeartbeats 4000000 in
set_option maxRecDepth 100000 in
theorem mX6_putIn (l : Launch) (G : GG) (t : Nat) (a : Nat) (n : Int) (g : Int → Int) (z : Int) (v : Int) (hn : 0 ≤ n ∧ n < 20) (hz : 0 ≤ z ∧ z ≤ n) : Ct l yX6_putIn cX6_putIn 4 none rmX6_putIn G [.ref t, .int (jz z), .int (jz v)] [bText G t a n g] (fun uo : Unit => none) (fun uo => True) (fun uo => [bText G t a (n + 1) (insF g z n v)]) := by
  refine cof (by decide) (Nat.le_of_ble_eq_true rfl) ?_
  intro p e s m args below meth c A ls hx hb hr hml hown hts hlocks hin hA hK hP hD hS hl Q hQ
  have hown : s.vm.findClass RX6 = some m.cls := hown
  have hl : lv_has ls 4 [(0, .ref t), (1, .int (jz z)), (2, .int (jz v))] := hl
  have KH : ∀ (H : Heap) (locs : List Loc), wP G [bText G t a n g] H → wD A [bText G t a n g] → va_S A s.heap H locs → W p l e rmX6_putIn s m args below meth c H locs 0 0 Q (F0 m 0 ls []) := by
    intro H locs hP hD hS
    refine lv_iload_n hx hb dX6_putIn_0 rfl (lv_at hl 1 rfl) ?_
    refine jv_if_lt (tgt := 21) hx hb dX6_putIn_1 (by decide) (by omega) (fun c_1 => ?_) (fun c_1 => ?_)
    · exfalso; omega
    · refine lv_iload_n hx hb dX6_putIn_4 rfl (lv_at hl 1 rfl) ?_
      refine lv_aload_n hx hb dX6_putIn_5 rfl (lv_at hl 0 rfl) ?_
      refine va_get (ci := 6) (v := .int (jz n)) (C := RX6) (T := TX6) (N := 2) hx hb hts wfX6 hown hK.1 hP 0 rfl rfl 1 (by decide) (hts _ wm49) (fun _ h9 => h9) rfl dX6_putIn_6 ?_
      refine jv_icmp_gt (tgt := 21) hx hb dX6_putIn_9 (by decide) (by omega) (by omega) (fun c_2 => ?_) (fun c_2 => ?_)
      · exfalso; omega
      · refine lv_aload_n hx hb dX6_putIn_12 rfl (lv_at hl 0 rfl) ?_
        refine va_get (ci := 6) (v := .int (jz n)) (C := RX6) (T := TX6) (N := 2) hx hb hts wfX6 hown hK.1 hP 0 rfl rfl 1 (by decide) (hts _ wm49) (fun _ h9 => h9) rfl dX6_putIn_13 ?_
        refine jv_bipush hx hb dX6_putIn_16 (by decide) ?_
        refine jv_icmp_lt (tgt := 22) hx hb dX6_putIn_18 (by decide) (by omega) (by omega) (fun c_3 => ?_) (fun c_3 => ?_)
        · refine lv_aload_n hx hb dX6_putIn_22 rfl (lv_at hl 0 rfl) ?_
          refine va_get (ci := 6) (v := .int (jz n)) (C := RX6) (T := TX6) (N := 2) hx hb hts wfX6 hown hK.1 hP 0 rfl rfl 1 (by decide) (hts _ wm49) (fun _ h9 => h9) rfl dX6_putIn_23 ?_
          refine lv_istore_n (lv' := [(3, .int (jz n)), (0, .ref t), (1, .int (jz z)), (2, .int (jz v))]) hx hb dX6_putIn_26 rfl hl (by decide) rfl (fun ls hl => ?_)
          have K27 : ∀ (n9 : Nat) (k : Int) (h : Int → Int) , ((k - z).toNat) < n9 → (z ≤ k ∧ k ≤ n) → (∀ j : Int, h j = if k < j ∧ j ≤ n then g (j - 1) else g j) → ∀ (H : Heap) (locs : List Loc) (ls : Array Slot), wP G [bText G t a n h] H → wD A [bText G t a n h] → va_S A s.heap H locs → lv_has ls 4 [(0, .ref t), (1, .int (jz z)), (2, .int (jz v)), (3, .int (jz k))] → W p l e rmX6_putIn s m args below meth c H locs 0 0 Q (F0 m 27 ls []) := by
            intro n9
            induction n9 with
            | zero => intro k h hm9; exact absurd hm9 (Nat.not_lt_zero _)
            | succ n9 ih27 =>
              intro k h hm9 hk hh H locs ls hP hD hS hl
              refine lv_iload_n hx hb dX6_putIn_27 rfl (lv_at hl 3 rfl) ?_
              refine lv_iload_n hx hb dX6_putIn_28 rfl (lv_at hl 1 rfl) ?_
              refine jv_icmp_le (tgt := 52) hx hb dX6_putIn_29 (by decide) (by omega) (by omega) (fun c_4 => ?_) (fun c_4 => ?_)
              · refine lv_aload_n hx hb dX6_putIn_52 rfl (lv_at hl 0 rfl) ?_
                refine va_get (ci := 6) (v := .ref a) (C := RX6) (T := TX6) (N := 2) hx hb hts wfX6 hown hK.1 hP 0 rfl rfl 0 (by decide) (hts _ wm48) (fun _ h9 => h9) rfl dX6_putIn_53 ?_
                refine lv_iload_n hx hb dX6_putIn_56 rfl (lv_at hl 1 rfl) ?_
                refine lv_iload_n hx hb dX6_putIn_57 rfl (lv_at hl 2 rfl) ?_
                refine jv_iast hx hb hK.1 hP hD hS 1 (g := h) rfl (by omega) (by omega) (by decide) dX6_putIn_58 (fun H locs hP hD hS => ?_)
                have hP : wP G [bText G t a n (up h z v)] H := hP
                have hD : wD A [bText G t a n (up h z v)] := hD
                refine lv_aload_n hx hb dX6_putIn_59 rfl (lv_at hl 0 rfl) ?_
                refine lv_dup hx hb dX6_putIn_60 rfl ?_
                refine va_get (ci := 6) (v := .int (jz n)) (C := RX6) (T := TX6) (N := 2) hx hb hts wfX6 hown hK.1 hP 0 rfl rfl 1 (by decide) (hts _ wm49) (fun _ h9 => h9) rfl dX6_putIn_61 ?_
                refine jv_iconst hx hb dX6_putIn_64 ?_
                refine jv_iadd hx hb dX6_putIn_65 ?_
                have e_5 : (up h z v) = insF g z n v := by funext j; unfold up insF; simp only [hh]; (repeat' split) <;> first | rfl | omega | (apply congrArg; omega)
                rw [e_5] at hP hD
                refine va_put (ci := 6) (v := .int (jz (n + 1))) (ty := .int) (C := RX6) (T := TX6) (N := 2) hx hb hts wfX6 tyX6 tyX6_ok nmX6 hown hK.1 hP hD hS 0 rfl rfl 1 (by decide) (hts _ wm49) (fun _ h9 => h9) rfl (by decide +kernel) rfl rfl (Nat.le_of_ble_eq_true rfl) dX6_putIn_66 (fun H locs hP hD hS => ?_)
                have hP : wP G [bText G t a (n + 1) (insF g z n v)] H := hP
                have hD : wD A [bText G t a (n + 1) (insF g z n v)] := hD
                exact cret_v hx hb hr hlocks hS hP hD (Nat.le_of_ble_eq_true rfl) (Nat.le_of_ble_eq_true rfl) dX6_putIn_69 [0] (by decide) () rfl trivial rfl hQ
              · refine lv_aload_n hx hb dX6_putIn_32 rfl (lv_at hl 0 rfl) ?_
                refine va_get (ci := 6) (v := .ref a) (C := RX6) (T := TX6) (N := 2) hx hb hts wfX6 hown hK.1 hP 0 rfl rfl 0 (by decide) (hts _ wm48) (fun _ h9 => h9) rfl dX6_putIn_33 ?_
                refine lv_iload_n hx hb dX6_putIn_36 rfl (lv_at hl 3 rfl) ?_
                refine lv_aload_n hx hb dX6_putIn_37 rfl (lv_at hl 0 rfl) ?_
                refine va_get (ci := 6) (v := .ref a) (C := RX6) (T := TX6) (N := 2) hx hb hts wfX6 hown hK.1 hP 0 rfl rfl 0 (by decide) (hts _ wm48) (fun _ h9 => h9) rfl dX6_putIn_38 ?_
                refine lv_iload_n hx hb dX6_putIn_41 rfl (lv_at hl 3 rfl) ?_
                refine jv_iconst hx hb dX6_putIn_42 ?_
                refine jv_isub hx hb dX6_putIn_43 ?_
                refine jv_iald hx hb hK.1 hP 1 (g := h) rfl (by omega) (by omega) (by decide) dX6_putIn_44 ?_
                refine jv_iast hx hb hK.1 hP hD hS 1 (g := h) rfl (by omega) (by omega) (by decide) dX6_putIn_45 (fun H locs hP hD hS => ?_)
                have hP : wP G [bText G t a n (up h k (h (k - 1)))] H := hP
                have hD : wD A [bText G t a n (up h k (h (k - 1)))] := hD
                refine jv_iinc (lv' := [(3, .int (jz (k + (-1)))), (0, .ref t), (1, .int (jz z)), (2, .int (jz v))]) (k := 3) hx hb dX6_putIn_46 hl rfl (by decide) rfl (fun ls hl => ?_)
                refine lv_goto (tgt := 27) hx hb dX6_putIn_49 (by decide) ?_
                exact ih27 (k + (-1)) (up h k (h (k - 1))) (by omega) (by omega) (by intro j; unfold up; simp only [hh]; (repeat' split) <;> first | rfl | omega | (apply congrArg; omega)) H _ _ hP hD hS (lv_sub hl [1, 2, 3, 0] rfl)
          exact K27 (((n - z).toNat) + 1) n g (Nat.lt_succ_self _) (by omega) (by intro j; rw [if_neg (by omega)]) H _ _ hP hD hS (lv_sub hl [1, 2, 3, 0] rfl)
        · exfalso; omega
  exact KH s.heap [] hP hD hS
abbrev rmX6_takeOut : Room := { frames := 0, cells := 0, slots := 0, locals := 0 }
set_option maxHeartbeats 4000000 in
set_option maxRecDepth 100000 in
theorem mX6_takeOut (l : Launch) (G : GG) (t : Nat) (a : Nat) (n : Int) (g : Int → Int) (z : Int) (hn : 0 ≤ n ∧ n ≤ 20) (hz : 0 ≤ z ∧ z < n) : Ct l yX6_takeOut cX6_takeOut 3 none rmX6_takeOut G [.ref t, .int (jz z)] [bText G t a n g] (fun uo : Unit => none) (fun uo => True) (fun uo => [bText G t a (n - 1) (delF g z n)]) := by
  refine cof (by decide) (Nat.le_of_ble_eq_true rfl) ?_
  intro p e s m args below meth c A ls hx hb hr hml hown hts hlocks hin hA hK hP hD hS hl Q hQ
  have hown : s.vm.findClass RX6 = some m.cls := hown
  have hl : lv_has ls 3 [(0, .ref t), (1, .int (jz z))] := hl
  have KH : ∀ (H : Heap) (locs : List Loc), wP G [bText G t a n g] H → wD A [bText G t a n g] → va_S A s.heap H locs → W p l e rmX6_takeOut s m args below meth c H locs 0 0 Q (F0 m 0 ls []) := by
    intro H locs hP hD hS
    refine lv_iload_n hx hb dX6_takeOut_0 rfl (lv_at hl 1 rfl) ?_
    refine jv_if_lt (tgt := 12) hx hb dX6_takeOut_1 (by decide) (by omega) (fun c_1 => ?_) (fun c_1 => ?_)
    · exfalso; omega
    · refine lv_iload_n hx hb dX6_takeOut_4 rfl (lv_at hl 1 rfl) ?_
      refine lv_aload_n hx hb dX6_takeOut_5 rfl (lv_at hl 0 rfl) ?_
      refine va_get (ci := 6) (v := .int (jz n)) (C := RX6) (T := TX6) (N := 2) hx hb hts wfX6 hown hK.1 hP 0 rfl rfl 1 (by decide) (hts _ wm49) (fun _ h9 => h9) rfl dX6_takeOut_6 ?_
      refine jv_icmp_lt (tgt := 13) hx hb dX6_takeOut_9 (by decide) (by omega) (by omega) (fun c_2 => ?_) (fun c_2 => ?_)
      · refine lv_aload_n hx hb dX6_takeOut_13 rfl (lv_at hl 0 rfl) ?_
        refine lv_dup hx hb dX6_takeOut_14 rfl ?_
        refine va_get (ci := 6) (v := .int (jz n)) (C := RX6) (T := TX6) (N := 2) hx hb hts wfX6 hown hK.1 hP 0 rfl rfl 1 (by decide) (hts _ wm49) (fun _ h9 => h9) rfl dX6_takeOut_15 ?_
        refine jv_iconst hx hb dX6_takeOut_18 ?_
        refine jv_isub hx hb dX6_takeOut_19 ?_
        refine va_put (ci := 6) (v := .int (jz (n - 1))) (ty := .int) (C := RX6) (T := TX6) (N := 2) hx hb hts wfX6 tyX6 tyX6_ok nmX6 hown hK.1 hP hD hS 0 rfl rfl 1 (by decide) (hts _ wm49) (fun _ h9 => h9) rfl (by decide +kernel) rfl rfl (Nat.le_of_ble_eq_true rfl) dX6_takeOut_20 (fun H locs hP hD hS => ?_)
        have hP : wP G [bText G t a (n - 1) g] H := hP
        have hD : wD A [bText G t a (n - 1) g] := hD
        refine lv_iload_n hx hb dX6_takeOut_23 rfl (lv_at hl 1 rfl) ?_
        refine lv_istore_n (lv' := [(2, .int (jz z)), (0, .ref t), (1, .int (jz z))]) hx hb dX6_takeOut_24 rfl hl (by decide) rfl (fun ls hl => ?_)
        have K25 : ∀ (n9 : Nat) (k : Int) (h : Int → Int) , ((n - k).toNat) < n9 → (z ≤ k ∧ k ≤ n - 1) → (∀ j : Int, h j = if z ≤ j ∧ j < k then g (j + 1) else g j) → ∀ (H : Heap) (locs : List Loc) (ls : Array Slot), wP G [bText G t a (n - 1) h] H → wD A [bText G t a (n - 1) h] → va_S A s.heap H locs → lv_has ls 3 [(0, .ref t), (1, .int (jz z)), (2, .int (jz k))] → W p l e rmX6_takeOut s m args below meth c H locs 0 0 Q (F0 m 25 ls []) := by
          intro n9
          induction n9 with
          | zero => intro k h hm9; exact absurd hm9 (Nat.not_lt_zero _)
          | succ n9 ih25 =>
            intro k h hm9 hk hh H locs ls hP hD hS hl
            refine lv_iload_n hx hb dX6_takeOut_25 rfl (lv_at hl 2 rfl) ?_
            refine lv_aload_n hx hb dX6_takeOut_26 rfl (lv_at hl 0 rfl) ?_
            refine va_get (ci := 6) (v := .int (jz (n - 1))) (C := RX6) (T := TX6) (N := 2) hx hb hts wfX6 hown hK.1 hP 0 rfl rfl 1 (by decide) (hts _ wm49) (fun _ h9 => h9) rfl dX6_takeOut_27 ?_
            refine jv_icmp_ge (tgt := 53) hx hb dX6_takeOut_30 (by decide) (by omega) (by omega) (fun c_3 => ?_) (fun c_3 => ?_)
            · have e_4 : h = delF g z n := by funext j; unfold delF; rw [hh j, show k = n - 1 by omega]
              rw [e_4] at hP hD
              exact cret_v hx hb hr hlocks hS hP hD (Nat.le_of_ble_eq_true rfl) (Nat.le_of_ble_eq_true rfl) dX6_takeOut_53 [0] (by decide) () rfl trivial rfl hQ
            · refine lv_aload_n hx hb dX6_takeOut_33 rfl (lv_at hl 0 rfl) ?_
              refine va_get (ci := 6) (v := .ref a) (C := RX6) (T := TX6) (N := 2) hx hb hts wfX6 hown hK.1 hP 0 rfl rfl 0 (by decide) (hts _ wm48) (fun _ h9 => h9) rfl dX6_takeOut_34 ?_
              refine lv_iload_n hx hb dX6_takeOut_37 rfl (lv_at hl 2 rfl) ?_
              refine lv_aload_n hx hb dX6_takeOut_38 rfl (lv_at hl 0 rfl) ?_
              refine va_get (ci := 6) (v := .ref a) (C := RX6) (T := TX6) (N := 2) hx hb hts wfX6 hown hK.1 hP 0 rfl rfl 0 (by decide) (hts _ wm48) (fun _ h9 => h9) rfl dX6_takeOut_39 ?_
              refine lv_iload_n hx hb dX6_takeOut_42 rfl (lv_at hl 2 rfl) ?_
              refine jv_iconst hx hb dX6_takeOut_43 ?_
              refine jv_iadd hx hb dX6_takeOut_44 ?_
              refine jv_iald hx hb hK.1 hP 1 (g := h) rfl (by omega) (by omega) (by decide) dX6_takeOut_45 ?_
              refine jv_iast hx hb hK.1 hP hD hS 1 (g := h) rfl (by omega) (by omega) (by decide) dX6_takeOut_46 (fun H locs hP hD hS => ?_)
              have hP : wP G [bText G t a (n - 1) (up h k (h (k + 1)))] H := hP
              have hD : wD A [bText G t a (n - 1) (up h k (h (k + 1)))] := hD
              refine jv_iinc (lv' := [(2, .int (jz (k + 1))), (0, .ref t), (1, .int (jz z))]) (k := 2) hx hb dX6_takeOut_47 hl rfl (by decide) rfl (fun ls hl => ?_)
              refine lv_goto (tgt := 25) hx hb dX6_takeOut_50 (by decide) ?_
              exact ih25 (k + 1) (up h k (h (k + 1))) (by omega) (by omega) (by intro j; unfold up; simp only [hh]; (repeat' split) <;> first | rfl | omega | (apply congrArg; omega)) H _ _ hP hD hS (lv_sub hl [1, 2, 0] rfl)
        exact K25 (((n - z).toNat) + 1) z g (Nat.lt_succ_self _) (by omega) (by intro j; rw [if_neg (by omega)]) H _ _ hP hD hS (lv_sub hl [1, 2, 0] rfl)
      · exfalso; omega
  exact KH s.heap [] hP hD hS
abbrev rmX6_copyFrom : Room := { frames := 1, cells := 0, slots := 0, locals := 23 }
set_option maxHeartbeats 4000000 in
set_option maxRecDepth 100000 in
theorem mX6_copyFrom (l : Launch) (G : GG) (t : Nat) (a : Nat) (n : Int) (g : Int → Int) (t2 : Nat) (a2 : Nat) (n2 : Int) (g2 : Int → Int) (hn2 : 0 ≤ n2 ∧ n2 ≤ 20) : Ct l yX6_copyFrom cX6_copyFrom 3 none rmX6_copyFrom G [.ref t, .ref t2] [bText G t a n g, bText G t2 a2 n2 g2] (fun uo : (Int → Int) => none) (fun uo => (∀ j : Int, 0 ≤ j → j < n2 → uo j = g2 (j))) (fun uo => [bText G t a n2 uo, bText G t2 a2 n2 g2]) := by
  refine cof (by decide) (Nat.le_of_ble_eq_true rfl) ?_
  intro p e s m args below meth c A ls hx hb hr hml hown hts hlocks hin hA hK hP hD hS hl Q hQ
  have hown : s.vm.findClass RX6 = some m.cls := hown
  have hl : lv_has ls 3 [(0, .ref t), (1, .ref t2)] := hl
  have KH : ∀ (H : Heap) (locs : List Loc), wP G [bText G t a n g, bText G t2 a2 n2 g2] H → wD A [bText G t a n g, bText G t2 a2 n2 g2] → va_S A s.heap H locs → W p l e rmX6_copyFrom s m args below meth c H locs 0 0 Q (F0 m 0 ls []) := by
    intro H locs hP hD hS
    refine lv_aload_n hx hb dX6_copyFrom_0 rfl (lv_at hl 0 rfl) ?_
    refine kV ⟨hx, hb, hml, hown, hts⟩ hK hA hS hP hD [] [] (mX6_empty l G t a n g ) lkX6_19 [0] [1] (br := [bText G t2 a2 n2 g2]) rfl rfl (by decide) 0 6 rfl rfl rfl rfl (Nat.le_of_ble_eq_true rfl) hl.1 dX6_copyFrom_1 ⟨Nat.le_of_ble_eq_true rfl, Nat.le_of_ble_eq_true rfl⟩ ⟨Nat.le_of_ble_eq_true rfl, Nat.le_of_ble_eq_true rfl⟩ (fun u9 H locs hp9 hP hD hS => ?_)
    have hP : wP G [bText G t2 a2 n2 g2, bText G t a 0 g] H := hP
    have hD : wD A [bText G t2 a2 n2 g2, bText G t a 0 g] := hD
    show W p l e rmX6_copyFrom s m args below meth c H locs 0 0 Q (F0 m 4 ls [])
    refine jv_iconst hx hb dX6_copyFrom_4 ?_
    refine lv_istore_n (lv' := [(2, .int (jz 0)), (0, .ref t), (1, .ref t2)]) hx hb dX6_copyFrom_5 rfl hl (by decide) rfl (fun ls hl => ?_)
    have K6 : ∀ (n9 : Nat) (k : Int) (h : Int → Int) , ((n2 - k).toNat) < n9 → (0 ≤ k ∧ k ≤ n2) → (∀ j : Int, 0 ≤ j → j < k → h j = g2 (j)) → ∀ (H : Heap) (locs : List Loc) (ls : Array Slot), wP G [bText G t a k h, bText G t2 a2 n2 g2] H → wD A [bText G t a k h, bText G t2 a2 n2 g2] → va_S A s.heap H locs → lv_has ls 3 [(0, .ref t), (1, .ref t2), (2, .int (jz k))] → W p l e rmX6_copyFrom s m args below meth c H locs 0 0 Q (F0 m 6 ls []) := by
      intro n9
      induction n9 with
      | zero => intro k h hm9; exact absurd hm9 (Nat.not_lt_zero _)
      | succ n9 ih6 =>
        intro k h hm9 hk hh H locs ls hP hD hS hl
        refine lv_iload_n hx hb dX6_copyFrom_6 rfl (lv_at hl 2 rfl) ?_
        refine lv_aload_n hx hb dX6_copyFrom_7 rfl (lv_at hl 1 rfl) ?_
        refine kV ⟨hx, hb, hml, hown, hts⟩ hK hA hS hP hD [] [.int (jz k)] (mX6_size l G t2 a2 n2 g2 ) lkX6_22 [1] [0] (br := [bText G t a k h]) rfl rfl (by decide) 0 6 rfl rfl rfl rfl (Nat.le_of_ble_eq_true rfl) hl.1 dX6_copyFrom_8 ⟨Nat.le_of_ble_eq_true rfl, Nat.le_of_ble_eq_true rfl⟩ ⟨Nat.le_of_ble_eq_true rfl, Nat.le_of_ble_eq_true rfl⟩ (fun u9 H locs hp9 hP hD hS => ?_)
        have hP : wP G [bText G t a k h, bText G t2 a2 n2 g2] H := hP
        have hD : wD A [bText G t a k h, bText G t2 a2 n2 g2] := hD
        show W p l e rmX6_copyFrom s m args below meth c H locs 0 0 Q (F0 m 11 ls [.int (jz n2), .int (jz k)])
        refine jv_icmp_ge (tgt := 30) hx hb dX6_copyFrom_11 (by decide) (by omega) (by omega) (fun c_3 => ?_) (fun c_3 => ?_)
        · have hkn : k = n2 := by omega
          subst hkn
          exact cret_v hx hb hr hlocks hS hP hD (Nat.le_of_ble_eq_true rfl) (Nat.le_of_ble_eq_true rfl) dX6_copyFrom_30 [0, 1] (by decide) h rfl hh rfl hQ
        · refine lv_aload_n hx hb dX6_copyFrom_14 rfl (lv_at hl 0 rfl) ?_
          refine lv_iload_n hx hb dX6_copyFrom_15 rfl (lv_at hl 2 rfl) ?_
          refine lv_aload_n hx hb dX6_copyFrom_16 rfl (lv_at hl 1 rfl) ?_
          refine lv_iload_n hx hb dX6_copyFrom_17 rfl (lv_at hl 2 rfl) ?_
          refine kV ⟨hx, hb, hml, hown, hts⟩ hK hA hS hP hD [.int (jz k)] [.int (jz k), .ref t] (mX6_at_in l G t2 a2 n2 g2 k (by omega) (by omega)) lkX6_25 [1] [0] (br := [bText G t a k h]) rfl rfl (by decide) 0 6 rfl rfl rfl rfl (Nat.le_of_ble_eq_true rfl) hl.1 dX6_copyFrom_18 ⟨Nat.le_of_ble_eq_true rfl, Nat.le_of_ble_eq_true rfl⟩ ⟨Nat.le_of_ble_eq_true rfl, Nat.le_of_ble_eq_true rfl⟩ (fun u9 H locs hp9 hP hD hS => ?_)
          have hP : wP G [bText G t a k h, bText G t2 a2 n2 g2] H := hP
          have hD : wD A [bText G t a k h, bText G t2 a2 n2 g2] := hD
          show W p l e rmX6_copyFrom s m args below meth c H locs 0 0 Q (F0 m 21 ls [.int (jz (g2 k)), .int (jz k), .ref t])
          refine jv_top (fun r_5 er_5 => ?_)
          refine kV ⟨hx, hb, hml, hown, hts⟩ hK hA hS hP hD [.int (jz k), .int (jz r_5)] [] (mX6_putIn l G t a k h k r_5 (by omega) (by omega)) lkX6_29 [0] [1] (br := [bText G t2 a2 n2 g2]) rfl rfl (by decide) 0 6 rfl rfl rfl rfl (Nat.le_of_ble_eq_true rfl) hl.1 dX6_copyFrom_21 ⟨Nat.le_of_ble_eq_true rfl, Nat.le_of_ble_eq_true rfl⟩ ⟨Nat.le_of_ble_eq_true rfl, Nat.le_of_ble_eq_true rfl⟩ (fun u9 H locs hp9 hP hD hS => ?_)
          have hP : wP G [bText G t2 a2 n2 g2, bText G t a (k + 1) (insF h k k r_5)] H := hP
          have hD : wD A [bText G t2 a2 n2 g2, bText G t a (k + 1) (insF h k k r_5)] := hD
          show W p l e rmX6_copyFrom s m args below meth c H locs 0 0 Q (F0 m 24 ls [])
          refine jv_iinc (lv' := [(2, .int (jz (k + 1))), (0, .ref t), (1, .ref t2)]) (k := 2) hx hb dX6_copyFrom_24 hl rfl (by decide) rfl (fun ls hl => ?_)
          refine lv_goto (tgt := 6) hx hb dX6_copyFrom_27 (by decide) ?_
          exact ih6 (k + 1) (insF h k k r_5) (by omega) (by omega) (by intro j h1 h2; unfold insF; if e1 : j = k then (rw [if_pos e1, e1]; assumption) else (rw [if_neg e1, if_neg (by omega)]; exact hh j h1 (by omega))) H _ _ (wP_sub (bc := [bText G t a (k + 1) (insF h k k r_5), bText G t2 a2 n2 g2]) hP [1, 0] rfl) (wD_sub (bc := [bText G t a (k + 1) (insF h k k r_5), bText G t2 a2 n2 g2]) hD [1, 0] (by decide) rfl) hS (lv_sub hl [1, 2, 0] rfl)
    exact K6 (((n2 - 0).toNat) + 1) 0 g (Nat.lt_succ_self _) (by omega) (by intro j h1 h2; omega) H _ _ (wP_sub (bc := [bText G t a 0 g, bText G t2 a2 n2 g2]) hP [1, 0] rfl) (wD_sub (bc := [bText G t a 0 g, bText G t2 a2 n2 g2]) hD [1, 0] (by decide) rfl) hS (lv_sub hl [1, 2, 0] rfl)
  exact KH s.heap [] hP hD hS
abbrev rmX6_copyBackward : Room := { frames := 1, cells := 0, slots := 0, locals := 23 }
set_option maxHeartbeats 4000000 in
set_option maxRecDepth 100000 in
theorem mX6_copyBackward (l : Launch) (G : GG) (t : Nat) (a : Nat) (n : Int) (g : Int → Int) (t2 : Nat) (a2 : Nat) (n2 : Int) (g2 : Int → Int) (hn2 : 0 ≤ n2 ∧ n2 ≤ 20) : Ct l yX6_copyBackward cX6_copyBackward 3 none rmX6_copyBackward G [.ref t, .ref t2] [bText G t a n g, bText G t2 a2 n2 g2] (fun uo : (Int → Int) => none) (fun uo => (∀ j : Int, 0 ≤ j → j < n2 → uo j = g2 (n2 - 1 - j))) (fun uo => [bText G t a n2 uo, bText G t2 a2 n2 g2]) := by
  refine cof (by decide) (Nat.le_of_ble_eq_true rfl) ?_
  intro p e s m args below meth c A ls hx hb hr hml hown hts hlocks hin hA hK hP hD hS hl Q hQ
  have hown : s.vm.findClass RX6 = some m.cls := hown
  have hl : lv_has ls 3 [(0, .ref t), (1, .ref t2)] := hl
  have KH : ∀ (H : Heap) (locs : List Loc), wP G [bText G t a n g, bText G t2 a2 n2 g2] H → wD A [bText G t a n g, bText G t2 a2 n2 g2] → va_S A s.heap H locs → W p l e rmX6_copyBackward s m args below meth c H locs 0 0 Q (F0 m 0 ls []) := by
    intro H locs hP hD hS
    refine lv_aload_n hx hb dX6_copyBackward_0 rfl (lv_at hl 0 rfl) ?_
    refine kV ⟨hx, hb, hml, hown, hts⟩ hK hA hS hP hD [] [] (mX6_empty l G t a n g ) lkX6_19 [0] [1] (br := [bText G t2 a2 n2 g2]) rfl rfl (by decide) 0 6 rfl rfl rfl rfl (Nat.le_of_ble_eq_true rfl) hl.1 dX6_copyBackward_1 ⟨Nat.le_of_ble_eq_true rfl, Nat.le_of_ble_eq_true rfl⟩ ⟨Nat.le_of_ble_eq_true rfl, Nat.le_of_ble_eq_true rfl⟩ (fun u9 H locs hp9 hP hD hS => ?_)
    have hP : wP G [bText G t2 a2 n2 g2, bText G t a 0 g] H := hP
    have hD : wD A [bText G t2 a2 n2 g2, bText G t a 0 g] := hD
    show W p l e rmX6_copyBackward s m args below meth c H locs 0 0 Q (F0 m 4 ls [])
    refine jv_iconst hx hb dX6_copyBackward_4 ?_
    refine lv_istore_n (lv' := [(2, .int (jz 0)), (0, .ref t), (1, .ref t2)]) hx hb dX6_copyBackward_5 rfl hl (by decide) rfl (fun ls hl => ?_)
    have K6 : ∀ (n9 : Nat) (k : Int) (h : Int → Int) , ((n2 - k).toNat) < n9 → (0 ≤ k ∧ k ≤ n2) → (∀ j : Int, 0 ≤ j → j < k → h j = g2 (n2 - 1 - j)) → ∀ (H : Heap) (locs : List Loc) (ls : Array Slot), wP G [bText G t a k h, bText G t2 a2 n2 g2] H → wD A [bText G t a k h, bText G t2 a2 n2 g2] → va_S A s.heap H locs → lv_has ls 3 [(0, .ref t), (1, .ref t2), (2, .int (jz k))] → W p l e rmX6_copyBackward s m args below meth c H locs 0 0 Q (F0 m 6 ls []) := by
      intro n9
      induction n9 with
      | zero => intro k h hm9; exact absurd hm9 (Nat.not_lt_zero _)
      | succ n9 ih6 =>
        intro k h hm9 hk hh H locs ls hP hD hS hl
        refine lv_iload_n hx hb dX6_copyBackward_6 rfl (lv_at hl 2 rfl) ?_
        refine lv_aload_n hx hb dX6_copyBackward_7 rfl (lv_at hl 1 rfl) ?_
        refine kV ⟨hx, hb, hml, hown, hts⟩ hK hA hS hP hD [] [.int (jz k)] (mX6_size l G t2 a2 n2 g2 ) lkX6_22 [1] [0] (br := [bText G t a k h]) rfl rfl (by decide) 0 6 rfl rfl rfl rfl (Nat.le_of_ble_eq_true rfl) hl.1 dX6_copyBackward_8 ⟨Nat.le_of_ble_eq_true rfl, Nat.le_of_ble_eq_true rfl⟩ ⟨Nat.le_of_ble_eq_true rfl, Nat.le_of_ble_eq_true rfl⟩ (fun u9 H locs hp9 hP hD hS => ?_)
        have hP : wP G [bText G t a k h, bText G t2 a2 n2 g2] H := hP
        have hD : wD A [bText G t a k h, bText G t2 a2 n2 g2] := hD
        show W p l e rmX6_copyBackward s m args below meth c H locs 0 0 Q (F0 m 11 ls [.int (jz n2), .int (jz k)])
        refine jv_icmp_ge (tgt := 37) hx hb dX6_copyBackward_11 (by decide) (by omega) (by omega) (fun c_3 => ?_) (fun c_3 => ?_)
        · have hkn : k = n2 := by omega
          subst hkn
          exact cret_v hx hb hr hlocks hS hP hD (Nat.le_of_ble_eq_true rfl) (Nat.le_of_ble_eq_true rfl) dX6_copyBackward_37 [0, 1] (by decide) h rfl hh rfl hQ
        · refine lv_aload_n hx hb dX6_copyBackward_14 rfl (lv_at hl 0 rfl) ?_
          refine lv_iload_n hx hb dX6_copyBackward_15 rfl (lv_at hl 2 rfl) ?_
          refine lv_aload_n hx hb dX6_copyBackward_16 rfl (lv_at hl 1 rfl) ?_
          refine lv_aload_n hx hb dX6_copyBackward_17 rfl (lv_at hl 1 rfl) ?_
          refine kV ⟨hx, hb, hml, hown, hts⟩ hK hA hS hP hD [] [.ref t2, .int (jz k), .ref t] (mX6_size l G t2 a2 n2 g2 ) lkX6_22 [1] [0] (br := [bText G t a k h]) rfl rfl (by decide) 0 6 rfl rfl rfl rfl (Nat.le_of_ble_eq_true rfl) hl.1 dX6_copyBackward_18 ⟨Nat.le_of_ble_eq_true rfl, Nat.le_of_ble_eq_true rfl⟩ ⟨Nat.le_of_ble_eq_true rfl, Nat.le_of_ble_eq_true rfl⟩ (fun u9 H locs hp9 hP hD hS => ?_)
          have hP : wP G [bText G t a k h, bText G t2 a2 n2 g2] H := hP
          have hD : wD A [bText G t a k h, bText G t2 a2 n2 g2] := hD
          show W p l e rmX6_copyBackward s m args below meth c H locs 0 0 Q (F0 m 21 ls [.int (jz n2), .ref t2, .int (jz k), .ref t])
          refine jv_iconst hx hb dX6_copyBackward_21 ?_
          refine jv_isub hx hb dX6_copyBackward_22 ?_
          refine lv_iload_n hx hb dX6_copyBackward_23 rfl (lv_at hl 2 rfl) ?_
          refine jv_isub hx hb dX6_copyBackward_24 ?_
          refine kV ⟨hx, hb, hml, hown, hts⟩ hK hA hS hP hD [.int (jz ((n2 - 1) - k))] [.int (jz k), .ref t] (mX6_at_in l G t2 a2 n2 g2 ((n2 - 1) - k) (by omega) (by omega)) lkX6_25 [1] [0] (br := [bText G t a k h]) rfl rfl (by decide) 0 6 rfl rfl rfl rfl (Nat.le_of_ble_eq_true rfl) hl.1 dX6_copyBackward_25 ⟨Nat.le_of_ble_eq_true rfl, Nat.le_of_ble_eq_true rfl⟩ ⟨Nat.le_of_ble_eq_true rfl, Nat.le_of_ble_eq_true rfl⟩ (fun u9 H locs hp9 hP hD hS => ?_)
          have hP : wP G [bText G t a k h, bText G t2 a2 n2 g2] H := hP
          have hD : wD A [bText G t a k h, bText G t2 a2 n2 g2] := hD
          show W p l e rmX6_copyBackward s m args below meth c H locs 0 0 Q (F0 m 28 ls [.int (jz (g2 ((n2 - 1) - k))), .int (jz k), .ref t])
          refine jv_top (fun r_6 er_6 => ?_)
          refine kV ⟨hx, hb, hml, hown, hts⟩ hK hA hS hP hD [.int (jz k), .int (jz r_6)] [] (mX6_putIn l G t a k h k r_6 (by omega) (by omega)) lkX6_29 [0] [1] (br := [bText G t2 a2 n2 g2]) rfl rfl (by decide) 0 6 rfl rfl rfl rfl (Nat.le_of_ble_eq_true rfl) hl.1 dX6_copyBackward_28 ⟨Nat.le_of_ble_eq_true rfl, Nat.le_of_ble_eq_true rfl⟩ ⟨Nat.le_of_ble_eq_true rfl, Nat.le_of_ble_eq_true rfl⟩ (fun u9 H locs hp9 hP hD hS => ?_)
          have hP : wP G [bText G t2 a2 n2 g2, bText G t a (k + 1) (insF h k k r_6)] H := hP
          have hD : wD A [bText G t2 a2 n2 g2, bText G t a (k + 1) (insF h k k r_6)] := hD
          show W p l e rmX6_copyBackward s m args below meth c H locs 0 0 Q (F0 m 31 ls [])
          refine jv_iinc (lv' := [(2, .int (jz (k + 1))), (0, .ref t), (1, .ref t2)]) (k := 2) hx hb dX6_copyBackward_31 hl rfl (by decide) rfl (fun ls hl => ?_)
          refine lv_goto (tgt := 6) hx hb dX6_copyBackward_34 (by decide) ?_
          exact ih6 (k + 1) (insF h k k r_6) (by omega) (by omega) (by intro j h1 h2; unfold insF; if e1 : j = k then (rw [if_pos e1, e1]; assumption) else (rw [if_neg e1, if_neg (by omega)]; exact hh j h1 (by omega))) H _ _ (wP_sub (bc := [bText G t a (k + 1) (insF h k k r_6), bText G t2 a2 n2 g2]) hP [1, 0] rfl) (wD_sub (bc := [bText G t a (k + 1) (insF h k k r_6), bText G t2 a2 n2 g2]) hD [1, 0] (by decide) rfl) hS (lv_sub hl [1, 2, 0] rfl)
    exact K6 (((n2 - 0).toNat) + 1) 0 g (Nat.lt_succ_self _) (by omega) (by intro j h1 h2; omega) H _ _ (wP_sub (bc := [bText G t a 0 g, bText G t2 a2 n2 g2]) hP [1, 0] rfl) (wD_sub (bc := [bText G t a 0 g, bText G t2 a2 n2 g2]) hD [1, 0] (by decide) rfl) hS (lv_sub hl [1, 2, 0] rfl)
  exact KH s.heap [] hP hD hS
abbrev rmX6_keepsTo : Room := { frames := 1, cells := 0, slots := 0, locals := 21 }
set_option maxHeartbeats 4000000 in
set_option maxRecDepth 100000 in
theorem mX6_keepsTo (l : Launch) (G : GG) (t : Nat) (a : Nat) (n : Int) (g : Int → Int) (al : Int) (hn : 0 ≤ n ∧ n ≤ 20) (hg : ∀ j : Int, 0 ≤ j → j < n → 0 ≤ g j ∧ g j < 4) (hal : jr al) : Ct l yX6_keepsTo cX6_keepsTo 3 (some .boolean) rmX6_keepsTo G [.ref t, .int (jz al)] [bText G t a n g] (fun uo : Int => some (.int (jz uo))) (fun uo => ((uo = 1 ∧ ∀ j : Int, 0 ≤ j → j < n → g j < al) ∨ (uo = 0 ∧ ∃ j : Int, (0 ≤ j ∧ j < n) ∧ al ≤ g j))) (fun uo => [bText G t a n g]) := by
  refine cof (by decide) (Nat.le_of_ble_eq_true rfl) ?_
  intro p e s m args below meth c A ls hx hb hr hml hown hts hlocks hin hA hK hP hD hS hl Q hQ
  have hown : s.vm.findClass RX6 = some m.cls := hown
  have hl : lv_has ls 3 [(0, .ref t), (1, .int (jz al))] := hl
  have KH : ∀ (H : Heap) (locs : List Loc), wP G [bText G t a n g] H → wD A [bText G t a n g] → va_S A s.heap H locs → W p l e rmX6_keepsTo s m args below meth c H locs 0 0 Q (F0 m 0 ls []) := by
    intro H locs hP hD hS
    refine jv_iconst hx hb dX6_keepsTo_0 ?_
    refine lv_istore_n (lv' := [(2, .int (jz 0)), (0, .ref t), (1, .int (jz al))]) hx hb dX6_keepsTo_1 rfl hl (by decide) rfl (fun ls hl => ?_)
    have K2 : ∀ (n9 : Nat) (k : Int) , ((n - k).toNat) < n9 → (0 ≤ k ∧ k ≤ n) → (∀ j : Int, 0 ≤ j → j < k → g j < al) → ∀ (H : Heap) (locs : List Loc) (ls : Array Slot), wP G [bText G t a n g] H → wD A [bText G t a n g] → va_S A s.heap H locs → lv_has ls 3 [(0, .ref t), (1, .int (jz al)), (2, .int (jz k))] → W p l e rmX6_keepsTo s m args below meth c H locs 0 0 Q (F0 m 2 ls []) := by
      intro n9
      induction n9 with
      | zero => intro k hm9; exact absurd hm9 (Nat.not_lt_zero _)
      | succ n9 ih2 =>
        intro k hm9 hk hh H locs ls hP hD hS hl
        refine lv_iload_n hx hb dX6_keepsTo_2 rfl (lv_at hl 2 rfl) ?_
        refine lv_aload_n hx hb dX6_keepsTo_3 rfl (lv_at hl 0 rfl) ?_
        refine va_get (ci := 6) (v := .int (jz n)) (C := RX6) (T := TX6) (N := 2) hx hb hts wfX6 hown hK.1 hP 0 rfl rfl 1 (by decide) (hts _ wm49) (fun _ h9 => h9) rfl dX6_keepsTo_4 ?_
        refine jv_icmp_ge (tgt := 27) hx hb dX6_keepsTo_7 (by decide) (by omega) (by omega) (fun c_1 => ?_) (fun c_1 => ?_)
        · refine jv_iconst hx hb dX6_keepsTo_27 ?_
          exact cret_i hx hb hr hlocks hS hP hD (Nat.le_of_ble_eq_true rfl) (Nat.le_of_ble_eq_true rfl) (jz_nb (show 1 = 0 ∨ 1 = 1 by omega)) dX6_keepsTo_28 [0] (by decide) 1 rfl (by exact Or.inl ⟨rfl, fun j h1 h2 => hh j h1 (by omega)⟩) (congrArg (fun z : Int => some (Value.int (jz z))) (show 1 = 1 from by first | rfl | omega | (split <;> first | rfl | omega | (exfalso; omega)))) hQ
        · refine lv_aload_n hx hb dX6_keepsTo_10 rfl (lv_at hl 0 rfl) ?_
          refine lv_iload_n hx hb dX6_keepsTo_11 rfl (lv_at hl 2 rfl) ?_
          refine kV ⟨hx, hb, hml, hown, hts⟩ hK hA hS hP hD [.int (jz k)] [] (mX6_at_in l G t a n g k (by omega) (by omega)) lkX6_25 [0] [] (br := []) rfl rfl (by decide) 0 6 rfl rfl rfl rfl (Nat.le_of_ble_eq_true rfl) hl.1 dX6_keepsTo_12 ⟨Nat.le_of_ble_eq_true rfl, Nat.le_of_ble_eq_true rfl⟩ ⟨Nat.le_of_ble_eq_true rfl, Nat.le_of_ble_eq_true rfl⟩ (fun u9 H locs hp9 hP hD hS => ?_)
          have hP : wP G [bText G t a n g] H := hP
          have hD : wD A [bText G t a n g] := hD
          show W p l e rmX6_keepsTo s m args below meth c H locs 0 0 Q (F0 m 15 ls [.int (jz (g k))])
          refine jv_top (fun r_3 er_3 => ?_)
          have hb9 := hg k (by omega) (by omega)
          refine lv_iload_n hx hb dX6_keepsTo_15 rfl (lv_at hl 1 rfl) ?_
          refine jv_icmp_lt (tgt := 21) hx hb dX6_keepsTo_16 (by decide) (by omega) (by omega) (fun c_4 => ?_) (fun c_4 => ?_)
          · refine jv_iinc (lv' := [(2, .int (jz (k + 1))), (0, .ref t), (1, .int (jz al))]) (k := 2) hx hb dX6_keepsTo_21 hl rfl (by decide) rfl (fun ls hl => ?_)
            refine lv_goto (tgt := 2) hx hb dX6_keepsTo_24 (by decide) ?_
            exact ih2 (k + 1) (by omega) (by omega) (by intro j h1 h2; if e1 : j = k then (rw [e1]; omega) else exact hh j h1 (by omega)) H _ _ hP hD hS (lv_sub hl [1, 2, 0] rfl)
          · refine jv_iconst hx hb dX6_keepsTo_19 ?_
            exact cret_i hx hb hr hlocks hS hP hD (Nat.le_of_ble_eq_true rfl) (Nat.le_of_ble_eq_true rfl) (jz_nb (show 0 = 0 ∨ 0 = 1 by omega)) dX6_keepsTo_20 [0] (by decide) 0 rfl (by exact Or.inr ⟨rfl, k, by omega, by omega⟩) (congrArg (fun z : Int => some (Value.int (jz z))) (show 0 = 0 from by first | rfl | omega | (split <;> first | rfl | omega | (exfalso; omega)))) hQ
    exact K2 (((n - 0).toNat) + 1) 0 (Nat.lt_succ_self _) (by omega) (by intro j h1 h2; omega) H _ _ hP hD hS (lv_sub hl [1, 2, 0] rfl)
  exact KH s.heap [] hP hD hS
abbrev rmX6_init : Room := { frames := 1, cells := 1, slots := 20, locals := 20 }
set_option maxHeartbeats 4000000 in
set_option maxRecDepth 100000 in
theorem mX6_init (l : Launch) (G : GG) (t : Nat)  : Ct l yX6_init cX6_init 1 none rmX6_init G [.ref t] [[(t, .inr (6, [.null, .int (jz 0)]))]] (fun uo : Nat => none) (fun uo => True) (fun uo => [bText G t uo 0 (fun _ => 0)]) := by
  refine cof (by decide) (Nat.le_of_ble_eq_true rfl) ?_
  intro p e s m args below meth c A ls hx hb hr hml hown hts hlocks hin hA hK hP hD hS hl Q hQ
  have hown : s.vm.findClass RX6 = some m.cls := hown
  have hl : lv_has ls 1 [(0, .ref t)] := hl
  have KH : ∀ (H : Heap) (locs : List Loc), wP G [[(t, .inr (6, [.null, .int (jz 0)]))]] H → wD A [[(t, .inr (6, [.null, .int (jz 0)]))]] → va_S A s.heap H locs → W p l e rmX6_init s m args below meth c H locs 0 0 Q (F0 m 0 ls []) := by
    intro H locs hP hD hS
    refine lv_aload_n hx hb dX6_init_0 rfl (lv_at hl 0 rfl) ?_
    refine W.objInit hx hb hown (hts _ wm47) (hts _ wm34) (hts _ wm35) rfl (by rw [hml]; exact hl.1) rfl dX6_init_1 (Nat.le_of_ble_eq_true rfl) (Nat.le_of_ble_eq_true rfl) ?_
    refine W.eq (g2 := F0 m 4 ls []) rfl ?_
    refine lv_aload_n hx hb dX6_init_4 rfl (lv_at hl 0 rfl) ?_
    refine jv_bipush hx hb dX6_init_5 (by decide) ?_
    refine jv_newi hx hb hts hK.1 hP hD hS hA 20 rfl (by decide) (Nat.le_of_ble_eq_true rfl) (Nat.le_of_ble_eq_true rfl) wm55 dX6_init_7 (fun q_1 H hP hD hS => ?_)
    have hP : wP G [[(t, .inr (6, [.null, .int (jz 0)]))], [(q_1, ja G 20 ((fun _ => 0)))]] H := hP
    have hD : wD A [[(t, .inr (6, [.null, .int (jz 0)]))], [(q_1, ja G 20 ((fun _ => 0)))]] := hD
    show W p l e rmX6_init s m args below meth c H locs 1 20 Q (F0 m 9 ls [.ref q_1, .ref t])
    refine va_putF (ci := 6) (v := .ref q_1) (ty := (.array .int)) (C := RX6) (T := TX6) (N := 2) hx hb hts wfX6 tyX6 tyX6_ok nmX6 hown hK.1 hP hD hS 0 rfl rfl 0 (by decide) (hts _ wm48) (fun _ h9 => h9) rfl hin rfl (by decide +kernel) rfl rfl (Nat.le_of_ble_eq_true rfl) dX6_init_9 (fun H locs hP hD hS => ?_)
    have hP : wP G [[(t, .inr (6, [.ref q_1, .int (jz 0)]))], [(q_1, ja G 20 ((fun _ => 0)))]] H := hP
    have hD : wD A [[(t, .inr (6, [.ref q_1, .int (jz 0)]))], [(q_1, ja G 20 ((fun _ => 0)))]] := hD
    refine lv_aload_n hx hb dX6_init_12 rfl (lv_at hl 0 rfl) ?_
    refine jv_iconst hx hb dX6_init_13 ?_
    refine va_put (ci := 6) (v := .int (jz 0)) (ty := .int) (C := RX6) (T := TX6) (N := 2) hx hb hts wfX6 tyX6 tyX6_ok nmX6 hown hK.1 hP hD hS 0 rfl rfl 1 (by decide) (hts _ wm49) (fun _ h9 => h9) rfl (by decide +kernel) rfl rfl (Nat.le_of_ble_eq_true rfl) dX6_init_14 (fun H locs hP hD hS => ?_)
    have hP : wP G [[(t, .inr (6, [.ref q_1, .int (jz 0)]))], [(q_1, ja G 20 ((fun _ => 0)))]] H := hP
    have hD : wD A [[(t, .inr (6, [.ref q_1, .int (jz 0)]))], [(q_1, ja G 20 ((fun _ => 0)))]] := hD
    have hP : wP G [bText G t q_1 0 (fun _ => 0)] H := hP
    have hD : wD A [bText G t q_1 0 (fun _ => 0)] := hD
    exact cret_v hx hb hr hlocks hS hP hD (Nat.le_of_ble_eq_true rfl) (Nat.le_of_ble_eq_true rfl) dX6_init_17 [0] (by decide) q_1 rfl trivial rfl hQ
  exact KH s.heap [] hP hD hS
