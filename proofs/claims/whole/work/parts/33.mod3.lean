abbrev rmX9_save : Room := { frames := 0, cells := 0, slots := 0, locals := 0 }
set_option maxHeartbeats 4000000 in
set_option maxRecDepth 100000 in
theorem mX9_save (l : Launch) (G : GG) (x : Nat) (xs : Nat) (xb : Nat) (xm : Nat) (xf : Nat) (xu : Nat) (xg : Nat) (xw : Nat) (kn : Int) (bl : Int) (ft : Int) (vh : Int) (vm : Int) (vs : Int) (ln : Int) (th : Int) (sp : Int) (pl : Int) (wr : Int) (br : Int) (aS : Int → Int) (aB : Int → Int) (aM : Int → Int) (aO : Int → Int) (aU : Int → Int) (aG : Int → Int) (aW : Int → Int) (hkn : 0 ≤ kn ∧ kn ≤ 6) : Ct l yX9_save cX9_save 2 none rmX9_save G [.ref x] [bMod G x xs xb xm xf xu xg xw kn bl ft vh vm vs ln th sp pl wr br aS aB aM aO aU aG aW] (fun uo : Int × (Int → Int) => none) (fun uo => (uo.1 = min (kn + 1) 6) ∧ (∀ k : Int, 0 ≤ k → k < 43 * (uo.1 - 1) → uo.2 k = aB (k + 43 * (kn + 1 - uo.1))) ∧ (∀ k : Int, 0 ≤ k → k < 43 → uo.2 (43 * (uo.1 - 1) + k) = aS k)) (fun uo => [bMod G x xs xb xm xf xu xg xw uo.1 bl ft vh vm vs ln th sp pl wr br aS uo.2 aM aO aU aG aW]) := by
  refine cof (by decide) (Nat.le_of_ble_eq_true rfl) ?_
  intro p e s m args below meth c A ls hx hb hr hml hown hts hlocks hin hA hK hP hD hS hl Q hQ
  have hown : s.vm.findClass RX9 = some m.cls := hown
  have hl : lv_has ls 2 [(0, .ref x)] := hl
  have KH : ∀ (H : Heap) (locs : List Loc), wP G [bMod G x xs xb xm xf xu xg xw kn bl ft vh vm vs ln th sp pl wr br aS aB aM aO aU aG aW] H → wD A [bMod G x xs xb xm xf xu xg xw kn bl ft vh vm vs ln th sp pl wr br aS aB aM aO aU aG aW] → va_S A s.heap H locs → W p l e rmX9_save s m args below meth c H locs 0 0 Q (F0 m 0 ls []) := by
    intro H locs hP hD hS
    refine lv_aload_n hx hb dX9_save_0 rfl (lv_at hl 0 rfl) ?_
    refine va_get (ci := 9) (v := .int (jz kn)) (C := RX9) (T := TX9) (N := 19) hx hb hts wfX9 hown hK.1 hP 0 rfl rfl 2 (by decide) (hts _ wm812) (fun _ h9 => h9) rfl dX9_save_1 ?_
    refine jv_bipush hx hb dX9_save_4 (by decide) ?_
    refine jv_icmp_ne (tgt := 49) hx hb dX9_save_6 (by decide) (by omega) (by omega) (fun c_1 => ?_) (fun c_1 => ?_)
    · refine jv_iconst hx hb dX9_save_49 ?_
      refine lv_istore_n (lv' := [(1, .int (jz 0)), (0, .ref x)]) hx hb dX9_save_50 rfl hl (by decide) rfl (fun ls hl => ?_)
      have K51 : ∀ (n9 : Nat) (k : Int) (kk : Int) (b : Int → Int) , (((43 : Int) - k).toNat) < n9 → (0 ≤ k ∧ k ≤ 43) → (kk = min kn 5 ∧ (kk = kn ∨ kk = kn - 1)) → (∀ q : Int, 0 ≤ q → q < 43 * kk → b q = aB (q + 43 * (kn - kk))) → (∀ q : Int, 0 ≤ q → q < k → b (43 * kk + q) = aS q) → ∀ (H : Heap) (locs : List Loc) (ls : Array Slot), wP G [bMod G x xs xb xm xf xu xg xw kk bl ft vh vm vs ln th sp pl wr br aS b aM aO aU aG aW] H → wD A [bMod G x xs xb xm xf xu xg xw kk bl ft vh vm vs ln th sp pl wr br aS b aM aO aU aG aW] → va_S A s.heap H locs → lv_has ls 2 [(0, .ref x), (1, .int (jz k))] → W p l e rmX9_save s m args below meth c H locs 0 0 Q (F0 m 51 ls []) := by
        intro n9
        induction n9 with
        | zero => intro k kk b hm9; exact absurd hm9 (Nat.not_lt_zero _)
        | succ n9 ih51 =>
          intro k kk b hm9 hk hkk hb2 hb3 H locs ls hP hD hS hl
          refine lv_iload_n hx hb dX9_save_51 rfl (lv_at hl 1 rfl) ?_
          refine jv_bipush hx hb dX9_save_52 (by decide) ?_
          refine jv_icmp_ge (tgt := 83) hx hb dX9_save_54 (by decide) (by omega) (by omega) (fun c_2 => ?_) (fun c_2 => ?_)
          · refine lv_aload_n hx hb dX9_save_83 rfl (lv_at hl 0 rfl) ?_
            refine lv_dup hx hb dX9_save_84 rfl ?_
            refine va_get (ci := 9) (v := .int (jz kk)) (C := RX9) (T := TX9) (N := 19) hx hb hts wfX9 hown hK.1 hP 0 rfl rfl 2 (by decide) (hts _ wm812) (fun _ h9 => h9) rfl dX9_save_85 ?_
            refine jv_iconst hx hb dX9_save_88 ?_
            refine jv_iadd hx hb dX9_save_89 ?_
            refine va_put (ci := 9) (v := .int (jz (kk + 1))) (ty := .int) (C := RX9) (T := TX9) (N := 19) hx hb hts wfX9 tyX9 tyX9_ok nmX9 hown hK.1 hP hD hS 0 rfl rfl 2 (by decide) (hts _ wm812) (fun _ h9 => h9) rfl (by decide +kernel) rfl rfl (Nat.le_of_ble_eq_true rfl) dX9_save_90 (fun H locs hP hD hS => ?_)
            have hP : wP G [bMod G x xs xb xm xf xu xg xw (kk + 1) bl ft vh vm vs ln th sp pl wr br aS b aM aO aU aG aW] H := hP
            have hD : wD A [bMod G x xs xb xm xf xu xg xw (kk + 1) bl ft vh vm vs ln th sp pl wr br aS b aM aO aU aG aW] := hD
            exact cret_v hx hb hr hlocks hS hP hD (Nat.le_of_ble_eq_true rfl) (Nat.le_of_ble_eq_true rfl) dX9_save_93 [0] (by decide) ⟨kk + 1, b⟩ rfl ⟨(show (kk + 1) = min (kn + 1) 6 from by omega), (show ∀ k : Int, 0 ≤ k → k < 43 * ((kk + 1) - 1) → b k = aB (k + 43 * (kn + 1 - (kk + 1))) from by intro q h1 h2; rw [hb2 q h1 (by omega)]; exact congrArg aB (by omega)), (show ∀ k : Int, 0 ≤ k → k < 43 → b (43 * ((kk + 1) - 1) + k) = aS k from by intro q h1 h2; rw [show kk + 1 - 1 = kk by omega]; exact hb3 q h1 (by omega))⟩ rfl hQ
          · refine lv_aload_n hx hb dX9_save_57 rfl (lv_at hl 0 rfl) ?_
            refine va_get (ci := 9) (v := .ref xb) (C := RX9) (T := TX9) (N := 19) hx hb hts wfX9 hown hK.1 hP 0 rfl rfl 1 (by decide) (hts _ wm811) (fun _ h9 => h9) rfl dX9_save_58 ?_
            refine jv_bipush hx hb dX9_save_61 (by decide) ?_
            refine lv_aload_n hx hb dX9_save_63 rfl (lv_at hl 0 rfl) ?_
            refine va_get (ci := 9) (v := .int (jz kk)) (C := RX9) (T := TX9) (N := 19) hx hb hts wfX9 hown hK.1 hP 0 rfl rfl 2 (by decide) (hts _ wm812) (fun _ h9 => h9) rfl dX9_save_64 ?_
            refine jv_imul hx hb dX9_save_67 ?_
            refine lv_iload_n hx hb dX9_save_68 rfl (lv_at hl 1 rfl) ?_
            refine jv_iadd hx hb dX9_save_69 ?_
            refine lv_aload_n hx hb dX9_save_70 rfl (lv_at hl 0 rfl) ?_
            refine va_get (ci := 9) (v := .ref xs) (C := RX9) (T := TX9) (N := 19) hx hb hts wfX9 hown hK.1 hP 0 rfl rfl 0 (by decide) (hts _ wm810) (fun _ h9 => h9) rfl dX9_save_71 ?_
            refine lv_iload_n hx hb dX9_save_74 rfl (lv_at hl 1 rfl) ?_
            refine jv_iald hx hb hK.1 hP 1 (g := aS) rfl (by omega) (by omega) (by decide) dX9_save_75 ?_
            refine jv_iast hx hb hK.1 hP hD hS 2 (g := b) rfl (by omega) (by omega) (by decide) dX9_save_76 (fun H locs hP hD hS => ?_)
            have hP : wP G [bMod G x xs xb xm xf xu xg xw kk bl ft vh vm vs ln th sp pl wr br aS (up b ((43 * kk) + k) (aS k)) aM aO aU aG aW] H := hP
            have hD : wD A [bMod G x xs xb xm xf xu xg xw kk bl ft vh vm vs ln th sp pl wr br aS (up b ((43 * kk) + k) (aS k)) aM aO aU aG aW] := hD
            refine jv_iinc (lv' := [(1, .int (jz (k + 1))), (0, .ref x)]) (k := 1) hx hb dX9_save_77 hl rfl (by decide) rfl (fun ls hl => ?_)
            refine lv_goto (tgt := 51) hx hb dX9_save_80 (by decide) ?_
            exact ih51 (k + 1) kk (up b ((43 * kk) + k) (aS k)) (by omega) (by omega) (by omega) (by intro q h1 h2; unfold up; rw [if_neg (by omega)]; exact hb2 q h1 h2) (by intro q h1 h2; unfold up; if e1 : q = k then (rw [if_pos (by omega), e1]) else (rw [if_neg (by omega)]; exact hb3 q h1 (by omega))) H _ _ hP hD hS (lv_sub hl [1, 0] rfl)
      exact K51 ((((43 : Int) - 0).toNat) + 1) 0 kn aB (Nat.lt_succ_self _) (by omega) (by omega) (by intro q h1 h2; exact congrArg aB (by omega)) (by intro q h1 h2; omega) H _ _ hP hD hS (lv_sub hl [1, 0] rfl)
    · refine jv_iconst hx hb dX9_save_9 ?_
      refine lv_istore_n (lv' := [(1, .int (jz 0)), (0, .ref x)]) hx hb dX9_save_10 rfl hl (by decide) rfl (fun ls hl => ?_)
      have K11 : ∀ (n9 : Nat) (k : Int) (b : Int → Int) , (((215 : Int) - k).toNat) < n9 → (0 ≤ k ∧ k ≤ 215) → (∀ q : Int, b q = if 0 ≤ q ∧ q < k then aB (q + 43) else aB q) → ∀ (H : Heap) (locs : List Loc) (ls : Array Slot), wP G [bMod G x xs xb xm xf xu xg xw kn bl ft vh vm vs ln th sp pl wr br aS b aM aO aU aG aW] H → wD A [bMod G x xs xb xm xf xu xg xw kn bl ft vh vm vs ln th sp pl wr br aS b aM aO aU aG aW] → va_S A s.heap H locs → lv_has ls 2 [(0, .ref x), (1, .int (jz k))] → W p l e rmX9_save s m args below meth c H locs 0 0 Q (F0 m 11 ls []) := by
        intro n9
        induction n9 with
        | zero => intro k b hm9; exact absurd hm9 (Nat.not_lt_zero _)
        | succ n9 ih11 =>
          intro k b hm9 hk hb9 H locs ls hP hD hS hl
          refine lv_iload_n hx hb dX9_save_11 rfl (lv_at hl 1 rfl) ?_
          refine jv_sipush hx hb dX9_save_12 (by decide) ?_
          refine jv_icmp_ge (tgt := 39) hx hb dX9_save_15 (by decide) (by omega) (by omega) (fun c_3 => ?_) (fun c_3 => ?_)
          · refine lv_aload_n hx hb dX9_save_39 rfl (lv_at hl 0 rfl) ?_
            refine lv_dup hx hb dX9_save_40 rfl ?_
            refine va_get (ci := 9) (v := .int (jz kn)) (C := RX9) (T := TX9) (N := 19) hx hb hts wfX9 hown hK.1 hP 0 rfl rfl 2 (by decide) (hts _ wm812) (fun _ h9 => h9) rfl dX9_save_41 ?_
            refine jv_iconst hx hb dX9_save_44 ?_
            refine jv_isub hx hb dX9_save_45 ?_
            refine va_put (ci := 9) (v := .int (jz (kn - 1))) (ty := .int) (C := RX9) (T := TX9) (N := 19) hx hb hts wfX9 tyX9 tyX9_ok nmX9 hown hK.1 hP hD hS 0 rfl rfl 2 (by decide) (hts _ wm812) (fun _ h9 => h9) rfl (by decide +kernel) rfl rfl (Nat.le_of_ble_eq_true rfl) dX9_save_46 (fun H locs hP hD hS => ?_)
            have hP : wP G [bMod G x xs xb xm xf xu xg xw (kn - 1) bl ft vh vm vs ln th sp pl wr br aS b aM aO aU aG aW] H := hP
            have hD : wD A [bMod G x xs xb xm xf xu xg xw (kn - 1) bl ft vh vm vs ln th sp pl wr br aS b aM aO aU aG aW] := hD
            refine jv_iconst hx hb dX9_save_49 ?_
            refine lv_istore_n (lv' := [(1, .int (jz 0)), (0, .ref x)]) hx hb dX9_save_50 rfl hl (by decide) rfl (fun ls hl => ?_)
            have K51 : ∀ (n9 : Nat) (k : Int) (kk : Int) (b : Int → Int) , (((43 : Int) - k).toNat) < n9 → (0 ≤ k ∧ k ≤ 43) → (kk = min kn 5 ∧ (kk = kn ∨ kk = kn - 1)) → (∀ q : Int, 0 ≤ q → q < 43 * kk → b q = aB (q + 43 * (kn - kk))) → (∀ q : Int, 0 ≤ q → q < k → b (43 * kk + q) = aS q) → ∀ (H : Heap) (locs : List Loc) (ls : Array Slot), wP G [bMod G x xs xb xm xf xu xg xw kk bl ft vh vm vs ln th sp pl wr br aS b aM aO aU aG aW] H → wD A [bMod G x xs xb xm xf xu xg xw kk bl ft vh vm vs ln th sp pl wr br aS b aM aO aU aG aW] → va_S A s.heap H locs → lv_has ls 2 [(0, .ref x), (1, .int (jz k))] → W p l e rmX9_save s m args below meth c H locs 0 0 Q (F0 m 51 ls []) := by
              intro n9
              induction n9 with
              | zero => intro k kk b hm9; exact absurd hm9 (Nat.not_lt_zero _)
              | succ n9 ih51 =>
                intro k kk b hm9 hk hkk hb2 hb3 H locs ls hP hD hS hl
                refine lv_iload_n hx hb dX9_save_51 rfl (lv_at hl 1 rfl) ?_
                refine jv_bipush hx hb dX9_save_52 (by decide) ?_
                refine jv_icmp_ge (tgt := 83) hx hb dX9_save_54 (by decide) (by omega) (by omega) (fun c_4 => ?_) (fun c_4 => ?_)
                · refine lv_aload_n hx hb dX9_save_83 rfl (lv_at hl 0 rfl) ?_
                  refine lv_dup hx hb dX9_save_84 rfl ?_
                  refine va_get (ci := 9) (v := .int (jz kk)) (C := RX9) (T := TX9) (N := 19) hx hb hts wfX9 hown hK.1 hP 0 rfl rfl 2 (by decide) (hts _ wm812) (fun _ h9 => h9) rfl dX9_save_85 ?_
                  refine jv_iconst hx hb dX9_save_88 ?_
                  refine jv_iadd hx hb dX9_save_89 ?_
                  refine va_put (ci := 9) (v := .int (jz (kk + 1))) (ty := .int) (C := RX9) (T := TX9) (N := 19) hx hb hts wfX9 tyX9 tyX9_ok nmX9 hown hK.1 hP hD hS 0 rfl rfl 2 (by decide) (hts _ wm812) (fun _ h9 => h9) rfl (by decide +kernel) rfl rfl (Nat.le_of_ble_eq_true rfl) dX9_save_90 (fun H locs hP hD hS => ?_)
                  have hP : wP G [bMod G x xs xb xm xf xu xg xw (kk + 1) bl ft vh vm vs ln th sp pl wr br aS b aM aO aU aG aW] H := hP
                  have hD : wD A [bMod G x xs xb xm xf xu xg xw (kk + 1) bl ft vh vm vs ln th sp pl wr br aS b aM aO aU aG aW] := hD
                  exact cret_v hx hb hr hlocks hS hP hD (Nat.le_of_ble_eq_true rfl) (Nat.le_of_ble_eq_true rfl) dX9_save_93 [0] (by decide) ⟨kk + 1, b⟩ rfl ⟨(show (kk + 1) = min (kn + 1) 6 from by omega), (show ∀ k : Int, 0 ≤ k → k < 43 * ((kk + 1) - 1) → b k = aB (k + 43 * (kn + 1 - (kk + 1))) from by intro q h1 h2; rw [hb2 q h1 (by omega)]; exact congrArg aB (by omega)), (show ∀ k : Int, 0 ≤ k → k < 43 → b (43 * ((kk + 1) - 1) + k) = aS k from by intro q h1 h2; rw [show kk + 1 - 1 = kk by omega]; exact hb3 q h1 (by omega))⟩ rfl hQ
                · refine lv_aload_n hx hb dX9_save_57 rfl (lv_at hl 0 rfl) ?_
                  refine va_get (ci := 9) (v := .ref xb) (C := RX9) (T := TX9) (N := 19) hx hb hts wfX9 hown hK.1 hP 0 rfl rfl 1 (by decide) (hts _ wm811) (fun _ h9 => h9) rfl dX9_save_58 ?_
                  refine jv_bipush hx hb dX9_save_61 (by decide) ?_
                  refine lv_aload_n hx hb dX9_save_63 rfl (lv_at hl 0 rfl) ?_
                  refine va_get (ci := 9) (v := .int (jz kk)) (C := RX9) (T := TX9) (N := 19) hx hb hts wfX9 hown hK.1 hP 0 rfl rfl 2 (by decide) (hts _ wm812) (fun _ h9 => h9) rfl dX9_save_64 ?_
                  refine jv_imul hx hb dX9_save_67 ?_
                  refine lv_iload_n hx hb dX9_save_68 rfl (lv_at hl 1 rfl) ?_
                  refine jv_iadd hx hb dX9_save_69 ?_
                  refine lv_aload_n hx hb dX9_save_70 rfl (lv_at hl 0 rfl) ?_
                  refine va_get (ci := 9) (v := .ref xs) (C := RX9) (T := TX9) (N := 19) hx hb hts wfX9 hown hK.1 hP 0 rfl rfl 0 (by decide) (hts _ wm810) (fun _ h9 => h9) rfl dX9_save_71 ?_
                  refine lv_iload_n hx hb dX9_save_74 rfl (lv_at hl 1 rfl) ?_
                  refine jv_iald hx hb hK.1 hP 1 (g := aS) rfl (by omega) (by omega) (by decide) dX9_save_75 ?_
                  refine jv_iast hx hb hK.1 hP hD hS 2 (g := b) rfl (by omega) (by omega) (by decide) dX9_save_76 (fun H locs hP hD hS => ?_)
                  have hP : wP G [bMod G x xs xb xm xf xu xg xw kk bl ft vh vm vs ln th sp pl wr br aS (up b ((43 * kk) + k) (aS k)) aM aO aU aG aW] H := hP
                  have hD : wD A [bMod G x xs xb xm xf xu xg xw kk bl ft vh vm vs ln th sp pl wr br aS (up b ((43 * kk) + k) (aS k)) aM aO aU aG aW] := hD
                  refine jv_iinc (lv' := [(1, .int (jz (k + 1))), (0, .ref x)]) (k := 1) hx hb dX9_save_77 hl rfl (by decide) rfl (fun ls hl => ?_)
                  refine lv_goto (tgt := 51) hx hb dX9_save_80 (by decide) ?_
                  exact ih51 (k + 1) kk (up b ((43 * kk) + k) (aS k)) (by omega) (by omega) (by omega) (by intro q h1 h2; unfold up; rw [if_neg (by omega)]; exact hb2 q h1 h2) (by intro q h1 h2; unfold up; if e1 : q = k then (rw [if_pos (by omega), e1]) else (rw [if_neg (by omega)]; exact hb3 q h1 (by omega))) H _ _ hP hD hS (lv_sub hl [1, 0] rfl)
            exact K51 ((((43 : Int) - 0).toNat) + 1) 0 (kn - 1) b (Nat.lt_succ_self _) (by omega) (by omega) (by intro q h1 h2; rw [hb9, if_pos ⟨h1, by omega⟩]; exact congrArg aB (by omega)) (by intro q h1 h2; omega) H _ _ hP hD hS (lv_sub hl [1, 0] rfl)
          · refine lv_aload_n hx hb dX9_save_18 rfl (lv_at hl 0 rfl) ?_
            refine va_get (ci := 9) (v := .ref xb) (C := RX9) (T := TX9) (N := 19) hx hb hts wfX9 hown hK.1 hP 0 rfl rfl 1 (by decide) (hts _ wm811) (fun _ h9 => h9) rfl dX9_save_19 ?_
            refine lv_iload_n hx hb dX9_save_22 rfl (lv_at hl 1 rfl) ?_
            refine lv_aload_n hx hb dX9_save_23 rfl (lv_at hl 0 rfl) ?_
            refine va_get (ci := 9) (v := .ref xb) (C := RX9) (T := TX9) (N := 19) hx hb hts wfX9 hown hK.1 hP 0 rfl rfl 1 (by decide) (hts _ wm811) (fun _ h9 => h9) rfl dX9_save_24 ?_
            refine jv_bipush hx hb dX9_save_27 (by decide) ?_
            refine lv_iload_n hx hb dX9_save_29 rfl (lv_at hl 1 rfl) ?_
            refine jv_iadd hx hb dX9_save_30 ?_
            refine jv_iald hx hb hK.1 hP 2 (g := b) rfl (by omega) (by omega) (by decide) dX9_save_31 ?_
            refine jv_iast hx hb hK.1 hP hD hS 2 (g := b) rfl (by omega) (by omega) (by decide) dX9_save_32 (fun H locs hP hD hS => ?_)
            have hP : wP G [bMod G x xs xb xm xf xu xg xw kn bl ft vh vm vs ln th sp pl wr br aS (up b k (b (43 + k))) aM aO aU aG aW] H := hP
            have hD : wD A [bMod G x xs xb xm xf xu xg xw kn bl ft vh vm vs ln th sp pl wr br aS (up b k (b (43 + k))) aM aO aU aG aW] := hD
            refine jv_iinc (lv' := [(1, .int (jz (k + 1))), (0, .ref x)]) (k := 1) hx hb dX9_save_33 hl rfl (by decide) rfl (fun ls hl => ?_)
            refine lv_goto (tgt := 11) hx hb dX9_save_36 (by decide) ?_
            exact ih11 (k + 1) (up b k (b (43 + k))) (by omega) (by omega) (by intro q; unfold up; if e1 : q = k then (rw [if_pos e1, if_pos ⟨by omega, by omega⟩, hb9, if_neg (by omega), e1]; exact congrArg aB (by omega)) else (rw [if_neg e1, hb9]; if e2 : 0 ≤ q ∧ q < k then rw [if_pos e2, if_pos ⟨e2.1, by omega⟩] else rw [if_neg e2, if_neg (by omega)])) H _ _ hP hD hS (lv_sub hl [1, 0] rfl)
      exact K11 ((((215 : Int) - 0).toNat) + 1) 0 aB (Nat.lt_succ_self _) (by omega) (by intro q; rw [if_neg (by omega)]) H _ _ hP hD hS (lv_sub hl [1, 0] rfl)
  exact KH s.heap [] hP hD hS
abbrev rmX9_undo_E : Room := { frames := 1, cells := 0, slots := 0, locals := 21 }
set_option maxHeartbeats 4000000 in
set_option maxRecDepth 100000 in
theorem mX9_undo_E (l : Launch) (G : GG) (x : Nat) (xs : Nat) (xb : Nat) (xm : Nat) (xf : Nat) (xu : Nat) (xg : Nat) (xw : Nat) (kn : Int) (bl : Int) (ft : Int) (vh : Int) (vm : Int) (vs : Int) (ln : Int) (th : Int) (sp : Int) (pl : Int) (wr : Int) (br : Int) (aS : Int → Int) (aB : Int → Int) (aM : Int → Int) (aO : Int → Int) (aU : Int → Int) (aG : Int → Int) (aW : Int → Int) (hkn : kn = 0) : Ct l yX9_undo cX9_undo 2 (some .int) rmX9_undo_E G [.ref x] [bMod G x xs xb xm xf xu xg xw kn bl ft vh vm vs ln th sp pl wr br aS aB aM aO aU aG aW] (fun uo : Unit => some (.int (jz 0))) (fun uo => True) (fun uo => [bMod G x xs xb xm xf xu xg xw kn bl ft vh vm vs ln 1 sp pl wr br aS aB aM aO aU aG aW]) := by
  refine cof (by decide) (Nat.le_of_ble_eq_true rfl) ?_
  intro p e s m args below meth c A ls hx hb hr hml hown hts hlocks hin hA hK hP hD hS hl Q hQ
  have hown : s.vm.findClass RX9 = some m.cls := hown
  have hl : lv_has ls 2 [(0, .ref x)] := hl
  have KH : ∀ (H : Heap) (locs : List Loc), wP G [bMod G x xs xb xm xf xu xg xw kn bl ft vh vm vs ln th sp pl wr br aS aB aM aO aU aG aW] H → wD A [bMod G x xs xb xm xf xu xg xw kn bl ft vh vm vs ln th sp pl wr br aS aB aM aO aU aG aW] → va_S A s.heap H locs → W p l e rmX9_undo_E s m args below meth c H locs 0 0 Q (F0 m 0 ls []) := by
    intro H locs hP hD hS
    refine lv_aload_n hx hb dX9_undo_0 rfl (lv_at hl 0 rfl) ?_
    refine jv_iconst hx hb dX9_undo_1 ?_
    refine va_put (ci := 9) (v := .int (jz 0)) (ty := .int) (C := RX9) (T := TX9) (N := 19) hx hb hts wfX9 tyX9 tyX9_ok nmX9 hown hK.1 hP hD hS 0 rfl rfl 12 (by decide) (hts _ wm822) (fun _ h9 => h9) rfl (by decide +kernel) rfl rfl (Nat.le_of_ble_eq_true rfl) dX9_undo_2 (fun H locs hP hD hS => ?_)
    have hP : wP G [bMod G x xs xb xm xf xu xg xw kn bl ft vh vm vs ln 0 sp pl wr br aS aB aM aO aU aG aW] H := hP
    have hD : wD A [bMod G x xs xb xm xf xu xg xw kn bl ft vh vm vs ln 0 sp pl wr br aS aB aM aO aU aG aW] := hD
    refine lv_aload_n hx hb dX9_undo_5 rfl (lv_at hl 0 rfl) ?_
    refine va_get (ci := 9) (v := .int (jz kn)) (C := RX9) (T := TX9) (N := 19) hx hb hts wfX9 hown hK.1 hP 0 rfl rfl 2 (by decide) (hts _ wm812) (fun _ h9 => h9) rfl dX9_undo_6 ?_
    refine jv_if_ne (tgt := 18) hx hb dX9_undo_9 (by decide) (by omega) (fun c_1 => ?_) (fun c_1 => ?_)
    · exfalso; omega
    · refine lv_aload_n hx hb dX9_undo_12 rfl (lv_at hl 0 rfl) ?_
      refine jv_iconst hx hb dX9_undo_13 ?_
      refine kV ⟨hx, hb, hml, hown, hts⟩ hK hA hS hP hD [.int (jz 1)] [] (mX9_throwing l G x xs xb xm xf xu xg xw kn bl ft vh vm vs ln 0 sp pl wr br aS aB aM aO aU aG aW 1 ) lkX9_98 [0] [] (br := []) rfl rfl (by decide) 0 9 rfl rfl rfl rfl (Nat.le_of_ble_eq_true rfl) hl.1 dX9_undo_14 ⟨Nat.le_of_ble_eq_true rfl, Nat.le_of_ble_eq_true rfl⟩ ⟨Nat.le_of_ble_eq_true rfl, Nat.le_of_ble_eq_true rfl⟩ (fun u9 H locs hp9 hP hD hS => ?_)
      have hP : wP G [bMod G x xs xb xm xf xu xg xw kn bl ft vh vm vs ln 1 sp pl wr br aS aB aM aO aU aG aW] H := hP
      have hD : wD A [bMod G x xs xb xm xf xu xg xw kn bl ft vh vm vs ln 1 sp pl wr br aS aB aM aO aU aG aW] := hD
      show W p l e rmX9_undo_E s m args below meth c H locs 0 0 Q (F0 m 17 ls [.int (jz 0)])
      exact cret_i hx hb hr hlocks hS hP hD (Nat.le_of_ble_eq_true rfl) (Nat.le_of_ble_eq_true rfl) rfl dX9_undo_17 [0] (by decide) () rfl trivial (congrArg (fun z : Int => some (Value.int (jz z))) (show 0 = 0 from by first | rfl | omega | (split <;> first | rfl | omega | (exfalso; omega)))) hQ
  exact KH s.heap [] hP hD hS
abbrev rmX9_undo : Room := { frames := 0, cells := 0, slots := 0, locals := 0 }
set_option maxHeartbeats 4000000 in
set_option maxRecDepth 100000 in
theorem mX9_undo (l : Launch) (G : GG) (x : Nat) (xs : Nat) (xb : Nat) (xm : Nat) (xf : Nat) (xu : Nat) (xg : Nat) (xw : Nat) (kn : Int) (bl : Int) (ft : Int) (vh : Int) (vm : Int) (vs : Int) (ln : Int) (th : Int) (sp : Int) (pl : Int) (wr : Int) (br : Int) (aS : Int → Int) (aB : Int → Int) (aM : Int → Int) (aO : Int → Int) (aU : Int → Int) (aG : Int → Int) (aW : Int → Int) (hkn : 1 ≤ kn ∧ kn ≤ 6) : Ct l yX9_undo cX9_undo 2 (some .int) rmX9_undo G [.ref x] [bMod G x xs xb xm xf xu xg xw kn bl ft vh vm vs ln th sp pl wr br aS aB aM aO aU aG aW] (fun uo : (Int → Int) => some (.int (jz (kn - 1)))) (fun uo => (∀ k : Int, 0 ≤ k → k < 43 → uo k = aB (43 * (kn - 1) + k))) (fun uo => [bMod G x xs xb xm xf xu xg xw ((kn - 1)) bl ft vh vm vs ln 0 sp pl wr br uo aB aM aO aU aG aW]) := by
  refine cof (by decide) (Nat.le_of_ble_eq_true rfl) ?_
  intro p e s m args below meth c A ls hx hb hr hml hown hts hlocks hin hA hK hP hD hS hl Q hQ
  have hown : s.vm.findClass RX9 = some m.cls := hown
  have hl : lv_has ls 2 [(0, .ref x)] := hl
  have KH : ∀ (H : Heap) (locs : List Loc), wP G [bMod G x xs xb xm xf xu xg xw kn bl ft vh vm vs ln th sp pl wr br aS aB aM aO aU aG aW] H → wD A [bMod G x xs xb xm xf xu xg xw kn bl ft vh vm vs ln th sp pl wr br aS aB aM aO aU aG aW] → va_S A s.heap H locs → W p l e rmX9_undo s m args below meth c H locs 0 0 Q (F0 m 0 ls []) := by
    intro H locs hP hD hS
    refine lv_aload_n hx hb dX9_undo_0 rfl (lv_at hl 0 rfl) ?_
    refine jv_iconst hx hb dX9_undo_1 ?_
    refine va_put (ci := 9) (v := .int (jz 0)) (ty := .int) (C := RX9) (T := TX9) (N := 19) hx hb hts wfX9 tyX9 tyX9_ok nmX9 hown hK.1 hP hD hS 0 rfl rfl 12 (by decide) (hts _ wm822) (fun _ h9 => h9) rfl (by decide +kernel) rfl rfl (Nat.le_of_ble_eq_true rfl) dX9_undo_2 (fun H locs hP hD hS => ?_)
    have hP : wP G [bMod G x xs xb xm xf xu xg xw kn bl ft vh vm vs ln 0 sp pl wr br aS aB aM aO aU aG aW] H := hP
    have hD : wD A [bMod G x xs xb xm xf xu xg xw kn bl ft vh vm vs ln 0 sp pl wr br aS aB aM aO aU aG aW] := hD
    refine lv_aload_n hx hb dX9_undo_5 rfl (lv_at hl 0 rfl) ?_
    refine va_get (ci := 9) (v := .int (jz kn)) (C := RX9) (T := TX9) (N := 19) hx hb hts wfX9 hown hK.1 hP 0 rfl rfl 2 (by decide) (hts _ wm812) (fun _ h9 => h9) rfl dX9_undo_6 ?_
    refine jv_if_ne (tgt := 18) hx hb dX9_undo_9 (by decide) (by omega) (fun c_1 => ?_) (fun c_1 => ?_)
    · refine lv_aload_n hx hb dX9_undo_18 rfl (lv_at hl 0 rfl) ?_
      refine lv_dup hx hb dX9_undo_19 rfl ?_
      refine va_get (ci := 9) (v := .int (jz kn)) (C := RX9) (T := TX9) (N := 19) hx hb hts wfX9 hown hK.1 hP 0 rfl rfl 2 (by decide) (hts _ wm812) (fun _ h9 => h9) rfl dX9_undo_20 ?_
      refine jv_iconst hx hb dX9_undo_23 ?_
      refine jv_isub hx hb dX9_undo_24 ?_
      refine va_put (ci := 9) (v := .int (jz (kn - 1))) (ty := .int) (C := RX9) (T := TX9) (N := 19) hx hb hts wfX9 tyX9 tyX9_ok nmX9 hown hK.1 hP hD hS 0 rfl rfl 2 (by decide) (hts _ wm812) (fun _ h9 => h9) rfl (by decide +kernel) rfl rfl (Nat.le_of_ble_eq_true rfl) dX9_undo_25 (fun H locs hP hD hS => ?_)
      have hP : wP G [bMod G x xs xb xm xf xu xg xw (kn - 1) bl ft vh vm vs ln 0 sp pl wr br aS aB aM aO aU aG aW] H := hP
      have hD : wD A [bMod G x xs xb xm xf xu xg xw (kn - 1) bl ft vh vm vs ln 0 sp pl wr br aS aB aM aO aU aG aW] := hD
      refine jv_iconst hx hb dX9_undo_28 ?_
      refine lv_istore_n (lv' := [(1, .int (jz 0)), (0, .ref x)]) hx hb dX9_undo_29 rfl hl (by decide) rfl (fun ls hl => ?_)
      have K30 : ∀ (n9 : Nat) (k : Int) (f : Int → Int) , (((43 : Int) - k).toNat) < n9 → (0 ≤ k ∧ k ≤ 43) → (∀ q : Int, 0 ≤ q → q < k → f q = aB (43 * (kn - 1) + q)) → ∀ (H : Heap) (locs : List Loc) (ls : Array Slot), wP G [bMod G x xs xb xm xf xu xg xw ((kn - 1)) bl ft vh vm vs ln 0 sp pl wr br f aB aM aO aU aG aW] H → wD A [bMod G x xs xb xm xf xu xg xw ((kn - 1)) bl ft vh vm vs ln 0 sp pl wr br f aB aM aO aU aG aW] → va_S A s.heap H locs → lv_has ls 2 [(0, .ref x), (1, .int (jz k))] → W p l e rmX9_undo s m args below meth c H locs 0 0 Q (F0 m 30 ls []) := by
        intro n9
        induction n9 with
        | zero => intro k f hm9; exact absurd hm9 (Nat.not_lt_zero _)
        | succ n9 ih30 =>
          intro k f hm9 hk hf H locs ls hP hD hS hl
          refine lv_iload_n hx hb dX9_undo_30 rfl (lv_at hl 1 rfl) ?_
          refine jv_bipush hx hb dX9_undo_31 (by decide) ?_
          refine jv_icmp_ge (tgt := 62) hx hb dX9_undo_33 (by decide) (by omega) (by omega) (fun c_2 => ?_) (fun c_2 => ?_)
          · refine lv_aload_n hx hb dX9_undo_62 rfl (lv_at hl 0 rfl) ?_
            refine va_get (ci := 9) (v := .int (jz ((kn - 1)))) (C := RX9) (T := TX9) (N := 19) hx hb hts wfX9 hown hK.1 hP 0 rfl rfl 2 (by decide) (hts _ wm812) (fun _ h9 => h9) rfl dX9_undo_63 ?_
            exact cret_i hx hb hr hlocks hS hP hD (Nat.le_of_ble_eq_true rfl) (Nat.le_of_ble_eq_true rfl) rfl dX9_undo_66 [0] (by decide) f rfl (show ∀ k : Int, 0 ≤ k → k < 43 → f k = aB (43 * (kn - 1) + k) from by exact fun q h1 h2 => hf q h1 (by omega)) (congrArg (fun z : Int => some (Value.int (jz z))) (show ((kn - 1)) = kn - 1 from by first | rfl | omega | (split <;> first | rfl | omega | (exfalso; omega)))) hQ
          · refine lv_aload_n hx hb dX9_undo_36 rfl (lv_at hl 0 rfl) ?_
            refine va_get (ci := 9) (v := .ref xs) (C := RX9) (T := TX9) (N := 19) hx hb hts wfX9 hown hK.1 hP 0 rfl rfl 0 (by decide) (hts _ wm810) (fun _ h9 => h9) rfl dX9_undo_37 ?_
            refine lv_iload_n hx hb dX9_undo_40 rfl (lv_at hl 1 rfl) ?_
            refine lv_aload_n hx hb dX9_undo_41 rfl (lv_at hl 0 rfl) ?_
            refine va_get (ci := 9) (v := .ref xb) (C := RX9) (T := TX9) (N := 19) hx hb hts wfX9 hown hK.1 hP 0 rfl rfl 1 (by decide) (hts _ wm811) (fun _ h9 => h9) rfl dX9_undo_42 ?_
            refine jv_bipush hx hb dX9_undo_45 (by decide) ?_
            refine lv_aload_n hx hb dX9_undo_47 rfl (lv_at hl 0 rfl) ?_
            refine va_get (ci := 9) (v := .int (jz ((kn - 1)))) (C := RX9) (T := TX9) (N := 19) hx hb hts wfX9 hown hK.1 hP 0 rfl rfl 2 (by decide) (hts _ wm812) (fun _ h9 => h9) rfl dX9_undo_48 ?_
            refine jv_imul hx hb dX9_undo_51 ?_
            refine lv_iload_n hx hb dX9_undo_52 rfl (lv_at hl 1 rfl) ?_
            refine jv_iadd hx hb dX9_undo_53 ?_
            refine jv_iald hx hb hK.1 hP 2 (g := aB) rfl (by omega) (by omega) (by decide) dX9_undo_54 ?_
            refine jv_iast hx hb hK.1 hP hD hS 1 (g := f) rfl (by omega) (by omega) (by decide) dX9_undo_55 (fun H locs hP hD hS => ?_)
            have hP : wP G [bMod G x xs xb xm xf xu xg xw ((kn - 1)) bl ft vh vm vs ln 0 sp pl wr br (up f k (aB ((43 * ((kn - 1))) + k))) aB aM aO aU aG aW] H := hP
            have hD : wD A [bMod G x xs xb xm xf xu xg xw ((kn - 1)) bl ft vh vm vs ln 0 sp pl wr br (up f k (aB ((43 * ((kn - 1))) + k))) aB aM aO aU aG aW] := hD
            refine jv_iinc (lv' := [(1, .int (jz (k + 1))), (0, .ref x)]) (k := 1) hx hb dX9_undo_56 hl rfl (by decide) rfl (fun ls hl => ?_)
            refine lv_goto (tgt := 30) hx hb dX9_undo_59 (by decide) ?_
            exact ih30 (k + 1) (up f k (aB ((43 * ((kn - 1))) + k))) (by omega) (by omega) (by intro q h1 h2; unfold up; if e1 : q = k then (rw [if_pos e1, e1]) else (rw [if_neg e1]; exact hf q h1 (by omega))) H _ _ hP hD hS (lv_sub hl [1, 0] rfl)
      exact K30 ((((43 : Int) - 0).toNat) + 1) 0 aS (Nat.lt_succ_self _) (by omega) (by intro q h1 h2; omega) H _ _ hP hD hS (lv_sub hl [1, 0] rfl)
    · exfalso; omega
  exact KH s.heap [] hP hD hS
