abbrev rmX9_found : Room := { frames := 3, cells := 0, slots := 0, locals := 67 }
set_option maxHeartbeats 4000000 in
set_option maxRecDepth 100000 in
theorem mX9_found (l : Launch) (G : GG) (x : Nat) (xs : Nat) (xb : Nat) (xm : Nat) (xf : Nat) (xu : Nat) (xg : Nat) (xw : Nat) (kn : Int) (bl : Int) (ft : Int) (vh : Int) (vm : Int) (vs : Int) (ln : Int) (th : Int) (sp : Int) (pl : Int) (wr : Int) (br : Int) (aS : Int → Int) (aB : Int → Int) (aM : Int → Int) (aO : Int → Int) (aU : Int → Int) (aG : Int → Int) (aW : Int → Int) (hs0 : 0 ≤ aS 0 ∧ aS 0 ≤ 20) (hs1 : 0 ≤ aS 1 ∧ aS 1 ≤ 20) (hg0 : ∀ j : Int, 0 ≤ j → j < aS 0 → 0 ≤ T9 aS 0 j ∧ T9 aS 0 j < 4) (hg1 : ∀ j : Int, 0 ≤ j → j < aS 1 → 0 ≤ T9 aS 1 j ∧ T9 aS 1 j < 4) : Ct l yX9_found cX9_found 3 (some .int) rmX9_found G [.ref x] [bMod G x xs xb xm xf xu xg xw kn bl ft vh vm vs ln th sp pl wr br aS aB aM aO aU aG aW] (fun uo : (Int → Int) => some (.int (jz (D 0 (T9 aS 0) (T9 aS 1) (fdE (T9 aS 0) (T9 aS 1) (aS 0) (aS 1)) (aS 1))))) (fun uo => (∀ x y : Int, 0 ≤ x → x ≤ aS 0 → 0 ≤ y → y ≤ aS 1 → uo (21 * x + y) = D 0 (T9 aS 0) (T9 aS 1) x y)) (fun uo => [bMod G x xs xb xm xf xu xg xw kn bl ft vh vm vs ln th sp pl wr br aS aB aM aO aU uo aW]) := by
  refine cof (by decide) (Nat.le_of_ble_eq_true rfl) ?_
  intro p e s m args below meth c A ls hx hb hr hml hown hts hlocks hin hA hK hP hD hS hl Q hQ
  have hown : s.vm.findClass RX9 = some m.cls := hown
  have hl : lv_has ls 3 [(0, .ref x)] := hl
  have KH : ∀ (H : Heap) (locs : List Loc), wP G [bMod G x xs xb xm xf xu xg xw kn bl ft vh vm vs ln th sp pl wr br aS aB aM aO aU aG aW] H → wD A [bMod G x xs xb xm xf xu xg xw kn bl ft vh vm vs ln th sp pl wr br aS aB aM aO aU aG aW] → va_S A s.heap H locs → W p l e rmX9_found s m args below meth c H locs 0 0 Q (F0 m 0 ls []) := by
    intro H locs hP hD hS
    refine lv_aload_n hx hb dX9_found_0 rfl (lv_at hl 0 rfl) ?_
    refine jv_iconst hx hb dX9_found_1 ?_
    refine kV ⟨hx, hb, hml, hown, hts⟩ hK hA hS hP hD [.int (jz 1)] [] (mX9_lay l G x xs xb xm xf xu xg xw kn bl ft vh vm vs ln th sp pl wr br aS aB aM aO aU aG aW 1 0 (by omega) (by omega) (by exact hg0) (by exact hg1) (by omega) (by omega)) lkX9_60 [0] [] (br := []) rfl rfl (by decide) 0 9 rfl rfl rfl rfl (Nat.le_of_ble_eq_true rfl) hl.1 dX9_found_2 ⟨Nat.le_of_ble_eq_true rfl, Nat.le_of_ble_eq_true rfl⟩ ⟨Nat.le_of_ble_eq_true rfl, Nat.le_of_ble_eq_true rfl⟩ (fun u9 H locs hp9 hP hD hS => ?_)
    obtain ⟨u_1, rfl⟩ : ∃ z, z = u9 := ⟨_, rfl⟩
    have hc_2 : ∀ x y : Int, 0 ≤ x → x ≤ aS 0 → 0 ≤ y → y ≤ aS 1 → u_1 (21 * x + y) = D 0 (T9 aS 0) (T9 aS 1) x y := hp9
    have hP : wP G [bMod G x xs xb xm xf xu xg xw kn bl ft vh vm vs ln th sp pl wr br aS aB aM aO aU u_1 aW] H := hP
    have hD : wD A [bMod G x xs xb xm xf xu xg xw kn bl ft vh vm vs ln th sp pl wr br aS aB aM aO aU u_1 aW] := hD
    show W p l e rmX9_found s m args below meth c H locs 0 0 Q (F0 m 5 ls [])
    have hc1 := hc_2
    refine lv_aload_n hx hb dX9_found_5 rfl (lv_at hl 0 rfl) ?_
    refine jv_iconst hx hb dX9_found_6 ?_
    refine lv_aload_n hx hb dX9_found_7 rfl (lv_at hl 0 rfl) ?_
    refine va_get (ci := 9) (v := .ref xs) (C := RX9) (T := TX9) (N := 19) hx hb hts wfX9 hown hK.1 hP 0 rfl rfl 0 (by decide) (hts _ wm810) (fun _ h9 => h9) rfl dX9_found_8 ?_
    refine jv_iconst hx hb dX9_found_11 ?_
    refine jv_iald hx hb hK.1 hP 1 (g := aS) rfl (by omega) (by omega) (by decide) dX9_found_12 ?_
    refine kV ⟨hx, hb, hml, hown, hts⟩ hK hA hS hP hD [.int (jz 0), .int (jz (aS 1))] [] (mX9_d l G x xs xb xm xf xu xg xw kn bl ft vh vm vs ln th sp pl wr br aS aB aM aO aU u_1 aW 0 (aS 1) (by omega) (by omega)) lkX9_50 [0] [] (br := []) rfl rfl (by decide) 0 9 rfl rfl rfl rfl (Nat.le_of_ble_eq_true rfl) hl.1 dX9_found_13 ⟨Nat.le_of_ble_eq_true rfl, Nat.le_of_ble_eq_true rfl⟩ ⟨Nat.le_of_ble_eq_true rfl, Nat.le_of_ble_eq_true rfl⟩ (fun u9 H locs hp9 hP hD hS => ?_)
    have hP : wP G [bMod G x xs xb xm xf xu xg xw kn bl ft vh vm vs ln th sp pl wr br aS aB aM aO aU u_1 aW] H := hP
    have hD : wD A [bMod G x xs xb xm xf xu xg xw kn bl ft vh vm vs ln th sp pl wr br aS aB aM aO aU u_1 aW] := hD
    show W p l e rmX9_found s m args below meth c H locs 0 0 Q (F0 m 16 ls [.int (jz (u_1 (21 * 0 + (aS 1))))])
    refine lv_istore_n (lv' := [(1, .int (jz (u_1 (21 * 0 + (aS 1))))), (0, .ref x)]) hx hb dX9_found_16 rfl hl (by decide) rfl (fun ls hl => ?_)
    refine jv_iconst hx hb dX9_found_17 ?_
    refine lv_istore_n (lv' := [(2, .int (jz 1)), (1, .int (jz (u_1 (21 * 0 + (aS 1))))), (0, .ref x)]) hx hb dX9_found_18 rfl hl (by decide) rfl (fun ls hl => ?_)
    have K19 : ∀ (n9 : Nat) (v : Int) (k : Int) , ((aS 0 + 1 - k).toNat) < n9 → (1 ≤ k ∧ k ≤ aS 0 + 1) → (v = D 0 (T9 aS 0) (T9 aS 1) (argI (fun i => D 0 (T9 aS 0) (T9 aS 1) i (aS 1)) (k - 1)) (aS 1)) → (0 ≤ v ∧ v ≤ 100) → ∀ (H : Heap) (locs : List Loc) (ls : Array Slot), wP G [bMod G x xs xb xm xf xu xg xw kn bl ft vh vm vs ln th sp pl wr br aS aB aM aO aU u_1 aW] H → wD A [bMod G x xs xb xm xf xu xg xw kn bl ft vh vm vs ln th sp pl wr br aS aB aM aO aU u_1 aW] → va_S A s.heap H locs → lv_has ls 3 [(0, .ref x), (1, .int (jz v)), (2, .int (jz k))] → W p l e rmX9_found s m args below meth c H locs 0 0 Q (F0 m 19 ls []) := by
      intro n9
      induction n9 with
      | zero => intro v k hm9; exact absurd hm9 (Nat.not_lt_zero _)
      | succ n9 ih19 =>
        intro v k hm9 hk hv hvb H locs ls hP hD hS hl
        refine lv_iload_n hx hb dX9_found_19 rfl (lv_at hl 2 rfl) ?_
        refine lv_aload_n hx hb dX9_found_20 rfl (lv_at hl 0 rfl) ?_
        refine va_get (ci := 9) (v := .ref xs) (C := RX9) (T := TX9) (N := 19) hx hb hts wfX9 hown hK.1 hP 0 rfl rfl 0 (by decide) (hts _ wm810) (fun _ h9 => h9) rfl dX9_found_21 ?_
        refine jv_iconst hx hb dX9_found_24 ?_
        refine jv_iald hx hb hK.1 hP 1 (g := aS) rfl (by omega) (by omega) (by decide) dX9_found_25 ?_
        refine jv_icmp_gt (tgt := 66) hx hb dX9_found_26 (by decide) (by omega) (by omega) (fun c_4 => ?_) (fun c_4 => ?_)
        · refine lv_iload_n hx hb dX9_found_66 rfl (lv_at hl 1 rfl) ?_
          exact cret_i hx hb hr hlocks hS hP hD (Nat.le_of_ble_eq_true rfl) (Nat.le_of_ble_eq_true rfl) rfl dX9_found_67 [0] (by decide) u_1 rfl (show ∀ x y : Int, 0 ≤ x → x ≤ aS 0 → 0 ≤ y → y ≤ aS 1 → u_1 (21 * x + y) = D 0 (T9 aS 0) (T9 aS 1) x y from by exact hc1) (congrArg (fun z : Int => some (Value.int (jz z))) (show v = D 0 (T9 aS 0) (T9 aS 1) (fdE (T9 aS 0) (T9 aS 1) (aS 0) (aS 1)) (aS 1) from by rw [hv, show k - 1 = aS 0 by omega]; rfl)) hQ
        · have q1 := hc1 k (aS 1) (by omega) (by omega) (by omega) (by omega)
          have b1 := D_bd (c := 0) (Or.inl rfl) (T9 aS 0) (T9 aS 1) (i := k) (j := aS 1) (by omega) (by omega)
          refine lv_aload_n hx hb dX9_found_29 rfl (lv_at hl 0 rfl) ?_
          refine lv_iload_n hx hb dX9_found_30 rfl (lv_at hl 2 rfl) ?_
          refine lv_aload_n hx hb dX9_found_31 rfl (lv_at hl 0 rfl) ?_
          refine va_get (ci := 9) (v := .ref xs) (C := RX9) (T := TX9) (N := 19) hx hb hts wfX9 hown hK.1 hP 0 rfl rfl 0 (by decide) (hts _ wm810) (fun _ h9 => h9) rfl dX9_found_32 ?_
          refine jv_iconst hx hb dX9_found_35 ?_
          refine jv_iald hx hb hK.1 hP 1 (g := aS) rfl (by omega) (by omega) (by decide) dX9_found_36 ?_
          refine kV ⟨hx, hb, hml, hown, hts⟩ hK hA hS hP hD [.int (jz k), .int (jz (aS 1))] [] (mX9_d l G x xs xb xm xf xu xg xw kn bl ft vh vm vs ln th sp pl wr br aS aB aM aO aU u_1 aW k (aS 1) (by omega) (by omega)) lkX9_50 [0] [] (br := []) rfl rfl (by decide) 0 9 rfl rfl rfl rfl (Nat.le_of_ble_eq_true rfl) hl.1 dX9_found_37 ⟨Nat.le_of_ble_eq_true rfl, Nat.le_of_ble_eq_true rfl⟩ ⟨Nat.le_of_ble_eq_true rfl, Nat.le_of_ble_eq_true rfl⟩ (fun u9 H locs hp9 hP hD hS => ?_)
          have hP : wP G [bMod G x xs xb xm xf xu xg xw kn bl ft vh vm vs ln th sp pl wr br aS aB aM aO aU u_1 aW] H := hP
          have hD : wD A [bMod G x xs xb xm xf xu xg xw kn bl ft vh vm vs ln th sp pl wr br aS aB aM aO aU u_1 aW] := hD
          show W p l e rmX9_found s m args below meth c H locs 0 0 Q (F0 m 40 ls [.int (jz (u_1 (21 * k + (aS 1))))])
          refine lv_iload_n hx hb dX9_found_40 rfl (lv_at hl 1 rfl) ?_
          refine jv_icmp_ge (tgt := 58) hx hb dX9_found_41 (by decide) (by omega) (by omega) (fun c_6 => ?_) (fun c_6 => ?_)
          · refine lv_iload_n hx hb dX9_found_58 rfl (lv_at hl 1 rfl) ?_
            refine lv_istore_n (lv' := [(1, .int (jz v)), (0, .ref x), (2, .int (jz k))]) hx hb dX9_found_59 rfl hl (by decide) rfl (fun ls hl => ?_)
            refine jv_iinc (lv' := [(2, .int (jz (k + 1))), (1, .int (jz v)), (0, .ref x)]) (k := 2) hx hb dX9_found_60 hl rfl (by decide) rfl (fun ls hl => ?_)
            refine lv_goto (tgt := 19) hx hb dX9_found_63 (by decide) ?_
            exact ih19 v (k + 1) (by omega) (by omega) (by first | (rw [show k + 1 - 1 = k - 1 + 1 by omega, argI_s _ (by omega), if_pos (by show D 0 (T9 aS 0) (T9 aS 1) (k - 1 + 1) (aS 1) < D 0 (T9 aS 0) (T9 aS 1) (argI (fun i => D 0 (T9 aS 0) (T9 aS 1) i (aS 1)) (k - 1)) (aS 1); rw [show k - 1 + 1 = k by omega, ← hv]; omega), show k - 1 + 1 = k by omega]; exact q1) | (rw [show k + 1 - 1 = k - 1 + 1 by omega, argI_s _ (by omega), if_neg (by show ¬ D 0 (T9 aS 0) (T9 aS 1) (k - 1 + 1) (aS 1) < D 0 (T9 aS 0) (T9 aS 1) (argI (fun i => D 0 (T9 aS 0) (T9 aS 1) i (aS 1)) (k - 1)) (aS 1); rw [show k - 1 + 1 = k by omega, ← hv]; omega)]; exact hv)) (by omega) H _ _ hP hD hS (lv_sub hl [2, 1, 0] rfl)
          · refine lv_aload_n hx hb dX9_found_44 rfl (lv_at hl 0 rfl) ?_
            refine lv_iload_n hx hb dX9_found_45 rfl (lv_at hl 2 rfl) ?_
            refine lv_aload_n hx hb dX9_found_46 rfl (lv_at hl 0 rfl) ?_
            refine va_get (ci := 9) (v := .ref xs) (C := RX9) (T := TX9) (N := 19) hx hb hts wfX9 hown hK.1 hP 0 rfl rfl 0 (by decide) (hts _ wm810) (fun _ h9 => h9) rfl dX9_found_47 ?_
            refine jv_iconst hx hb dX9_found_50 ?_
            refine jv_iald hx hb hK.1 hP 1 (g := aS) rfl (by omega) (by omega) (by decide) dX9_found_51 ?_
            refine kV ⟨hx, hb, hml, hown, hts⟩ hK hA hS hP hD [.int (jz k), .int (jz (aS 1))] [] (mX9_d l G x xs xb xm xf xu xg xw kn bl ft vh vm vs ln th sp pl wr br aS aB aM aO aU u_1 aW k (aS 1) (by omega) (by omega)) lkX9_50 [0] [] (br := []) rfl rfl (by decide) 0 9 rfl rfl rfl rfl (Nat.le_of_ble_eq_true rfl) hl.1 dX9_found_52 ⟨Nat.le_of_ble_eq_true rfl, Nat.le_of_ble_eq_true rfl⟩ ⟨Nat.le_of_ble_eq_true rfl, Nat.le_of_ble_eq_true rfl⟩ (fun u9 H locs hp9 hP hD hS => ?_)
            have hP : wP G [bMod G x xs xb xm xf xu xg xw kn bl ft vh vm vs ln th sp pl wr br aS aB aM aO aU u_1 aW] H := hP
            have hD : wD A [bMod G x xs xb xm xf xu xg xw kn bl ft vh vm vs ln th sp pl wr br aS aB aM aO aU u_1 aW] := hD
            show W p l e rmX9_found s m args below meth c H locs 0 0 Q (F0 m 55 ls [.int (jz (u_1 (21 * k + (aS 1))))])
            refine lv_goto (tgt := 59) hx hb dX9_found_55 (by decide) ?_
            refine lv_istore_n (lv' := [(1, .int (jz (u_1 (21 * k + (aS 1))))), (0, .ref x), (2, .int (jz k))]) hx hb dX9_found_59 rfl hl (by decide) rfl (fun ls hl => ?_)
            refine jv_iinc (lv' := [(2, .int (jz (k + 1))), (1, .int (jz (u_1 (21 * k + (aS 1))))), (0, .ref x)]) (k := 2) hx hb dX9_found_60 hl rfl (by decide) rfl (fun ls hl => ?_)
            refine lv_goto (tgt := 19) hx hb dX9_found_63 (by decide) ?_
            exact ih19 (u_1 (21 * k + (aS 1))) (k + 1) (by omega) (by omega) (by first | (rw [show k + 1 - 1 = k - 1 + 1 by omega, argI_s _ (by omega), if_pos (by show D 0 (T9 aS 0) (T9 aS 1) (k - 1 + 1) (aS 1) < D 0 (T9 aS 0) (T9 aS 1) (argI (fun i => D 0 (T9 aS 0) (T9 aS 1) i (aS 1)) (k - 1)) (aS 1); rw [show k - 1 + 1 = k by omega, ← hv]; omega), show k - 1 + 1 = k by omega]; exact q1) | (rw [show k + 1 - 1 = k - 1 + 1 by omega, argI_s _ (by omega), if_neg (by show ¬ D 0 (T9 aS 0) (T9 aS 1) (k - 1 + 1) (aS 1) < D 0 (T9 aS 0) (T9 aS 1) (argI (fun i => D 0 (T9 aS 0) (T9 aS 1) i (aS 1)) (k - 1)) (aS 1); rw [show k - 1 + 1 = k by omega, ← hv]; omega)]; exact hv)) (by omega) H _ _ hP hD hS (lv_sub hl [2, 1, 0] rfl)
    exact K19 (((aS 0 + 1 - 1).toNat) + 1) (u_1 (21 * 0 + (aS 1))) 1 (Nat.lt_succ_self _) (by omega) (by rw [show (1 : Int) - 1 = 0 by omega, argI_0]; exact hc1 0 _ (by omega) (by omega) (by omega) (by omega)) (by rw [hc1 0 _ (by omega) (by omega) (by omega) (by omega)]; have b0 := D_bd (c := 0) (Or.inl rfl) (T9 aS 0) (T9 aS 1) (i := 0) (j := aS 1) (by omega) (by omega); omega) H _ _ hP hD hS (lv_sub hl [2, 1, 0] rfl)
  exact KH s.heap [] hP hD hS
abbrev rmX9_foundDistance : Room := { frames := 4, cells := 0, slots := 0, locals := 89 }
set_option maxHeartbeats 4000000 in
set_option maxRecDepth 100000 in
theorem mX9_foundDistance (l : Launch) (G : GG) (x : Nat) (xs : Nat) (xb : Nat) (xm : Nat) (xf : Nat) (xu : Nat) (xg : Nat) (xw : Nat) (kn : Int) (bl : Int) (ft : Int) (vh : Int) (vm : Int) (vs : Int) (ln : Int) (th : Int) (sp : Int) (pl : Int) (wr : Int) (br : Int) (aS : Int → Int) (aB : Int → Int) (aM : Int → Int) (aO : Int → Int) (aU : Int → Int) (aG : Int → Int) (aW : Int → Int) (hs0 : 0 ≤ aS 0 ∧ aS 0 ≤ 20) (hs1 : 0 ≤ aS 1 ∧ aS 1 ≤ 20) (hg0 : ∀ j : Int, 0 ≤ j → j < aS 0 → 0 ≤ T9 aS 0 j ∧ T9 aS 0 j < 4) (hg1 : ∀ j : Int, 0 ≤ j → j < aS 1 → 0 ≤ T9 aS 1 j ∧ T9 aS 1 j < 4) : Ct l yX9_foundDistance cX9_foundDistance 1 (some .int) rmX9_foundDistance G [.ref x] [bMod G x xs xb xm xf xu xg xw kn bl ft vh vm vs ln th sp pl wr br aS aB aM aO aU aG aW] (fun uo : (Int → Int) => some (.int (jz (D 0 (T9 aS 0) (T9 aS 1) (fdE (T9 aS 0) (T9 aS 1) (aS 0) (aS 1)) (aS 1))))) (fun uo => True) (fun uo => [bMod G x xs xb xm xf xu xg xw kn bl ft vh vm vs ln 0 sp pl wr br aS aB aM aO aU uo aW]) := by
  refine cof (by decide) (Nat.le_of_ble_eq_true rfl) ?_
  intro p e s m args below meth c A ls hx hb hr hml hown hts hlocks hin hA hK hP hD hS hl Q hQ
  have hown : s.vm.findClass RX9 = some m.cls := hown
  have hl : lv_has ls 1 [(0, .ref x)] := hl
  have KH : ∀ (H : Heap) (locs : List Loc), wP G [bMod G x xs xb xm xf xu xg xw kn bl ft vh vm vs ln th sp pl wr br aS aB aM aO aU aG aW] H → wD A [bMod G x xs xb xm xf xu xg xw kn bl ft vh vm vs ln th sp pl wr br aS aB aM aO aU aG aW] → va_S A s.heap H locs → W p l e rmX9_foundDistance s m args below meth c H locs 0 0 Q (F0 m 0 ls []) := by
    intro H locs hP hD hS
    refine lv_aload_n hx hb dX9_foundDistance_0 rfl (lv_at hl 0 rfl) ?_
    refine jv_iconst hx hb dX9_foundDistance_1 ?_
    refine va_put (ci := 9) (v := .int (jz 0)) (ty := .int) (C := RX9) (T := TX9) (N := 19) hx hb hts wfX9 tyX9 tyX9_ok nmX9 hown hK.1 hP hD hS 0 rfl rfl 12 (by decide) (hts _ wm822) (fun _ h9 => h9) rfl (by decide +kernel) rfl rfl (Nat.le_of_ble_eq_true rfl) dX9_foundDistance_2 (fun H locs hP hD hS => ?_)
    have hP : wP G [bMod G x xs xb xm xf xu xg xw kn bl ft vh vm vs ln 0 sp pl wr br aS aB aM aO aU aG aW] H := hP
    have hD : wD A [bMod G x xs xb xm xf xu xg xw kn bl ft vh vm vs ln 0 sp pl wr br aS aB aM aO aU aG aW] := hD
    refine lv_aload_n hx hb dX9_foundDistance_5 rfl (lv_at hl 0 rfl) ?_
    refine kV ⟨hx, hb, hml, hown, hts⟩ hK hA hS hP hD [] [] (mX9_found l G x xs xb xm xf xu xg xw kn bl ft vh vm vs ln 0 sp pl wr br aS aB aM aO aU aG aW (by omega) (by omega) (by exact hg0) (by exact hg1)) lkX9_123 [0] [] (br := []) rfl rfl (by decide) 0 9 rfl rfl rfl rfl (Nat.le_of_ble_eq_true rfl) hl.1 dX9_foundDistance_6 ⟨Nat.le_of_ble_eq_true rfl, Nat.le_of_ble_eq_true rfl⟩ ⟨Nat.le_of_ble_eq_true rfl, Nat.le_of_ble_eq_true rfl⟩ (fun u9 H locs hp9 hP hD hS => ?_)
    obtain ⟨u_1, rfl⟩ : ∃ z, z = u9 := ⟨_, rfl⟩
    have hg_2 : ∀ x y : Int, 0 ≤ x → x ≤ aS 0 → 0 ≤ y → y ≤ aS 1 → u_1 (21 * x + y) = D 0 (T9 aS 0) (T9 aS 1) x y := hp9
    have hP : wP G [bMod G x xs xb xm xf xu xg xw kn bl ft vh vm vs ln 0 sp pl wr br aS aB aM aO aU u_1 aW] H := hP
    have hD : wD A [bMod G x xs xb xm xf xu xg xw kn bl ft vh vm vs ln 0 sp pl wr br aS aB aM aO aU u_1 aW] := hD
    show W p l e rmX9_foundDistance s m args below meth c H locs 0 0 Q (F0 m 9 ls [.int (jz (D 0 (T9 aS 0) (T9 aS 1) (fdE (T9 aS 0) (T9 aS 1) (aS 0) (aS 1)) (aS 1)))])
    exact cret_i hx hb hr hlocks hS hP hD (Nat.le_of_ble_eq_true rfl) (Nat.le_of_ble_eq_true rfl) rfl dX9_foundDistance_9 [0] (by decide) u_1 rfl trivial (congrArg (fun z : Int => some (Value.int (jz z))) (show (D 0 (T9 aS 0) (T9 aS 1) (fdE (T9 aS 0) (T9 aS 1) (aS 0) (aS 1)) (aS 1)) = D 0 (T9 aS 0) (T9 aS 1) (fdE (T9 aS 0) (T9 aS 1) (aS 0) (aS 1)) (aS 1) from by first | rfl | omega | (split <;> first | rfl | omega | (exfalso; omega)))) hQ
  exact KH s.heap [] hP hD hS
abbrev rmX9_end : Room := { frames := 4, cells := 0, slots := 0, locals := 89 }
set_option maxHeartbeats 4000000 in
set_option maxRecDepth 100000 in
theorem mX9_end (l : Launch) (G : GG) (x : Nat) (xs : Nat) (xb : Nat) (xm : Nat) (xf : Nat) (xu : Nat) (xg : Nat) (xw : Nat) (kn : Int) (bl : Int) (ft : Int) (vh : Int) (vm : Int) (vs : Int) (ln : Int) (th : Int) (sp : Int) (pl : Int) (wr : Int) (br : Int) (aS : Int → Int) (aB : Int → Int) (aM : Int → Int) (aO : Int → Int) (aU : Int → Int) (aG : Int → Int) (aW : Int → Int) (hs0 : 0 ≤ aS 0 ∧ aS 0 ≤ 20) (hs1 : 0 ≤ aS 1 ∧ aS 1 ≤ 20) (hg0 : ∀ j : Int, 0 ≤ j → j < aS 0 → 0 ≤ T9 aS 0 j ∧ T9 aS 0 j < 4) (hg1 : ∀ j : Int, 0 ≤ j → j < aS 1 → 0 ≤ T9 aS 1 j ∧ T9 aS 1 j < 4) : Ct l yX9_end cX9_end 3 (some .int) rmX9_end G [.ref x] [bMod G x xs xb xm xf xu xg xw kn bl ft vh vm vs ln th sp pl wr br aS aB aM aO aU aG aW] (fun uo : (Int → Int) => some (.int (jz (fdE (T9 aS 0) (T9 aS 1) (aS 0) (aS 1))))) (fun uo => True) (fun uo => [bMod G x xs xb xm xf xu xg xw kn bl ft vh vm vs ln th sp pl wr br aS aB aM aO aU uo aW]) := by
  refine cof (by decide) (Nat.le_of_ble_eq_true rfl) ?_
  intro p e s m args below meth c A ls hx hb hr hml hown hts hlocks hin hA hK hP hD hS hl Q hQ
  have hown : s.vm.findClass RX9 = some m.cls := hown
  have hl : lv_has ls 3 [(0, .ref x)] := hl
  have KH : ∀ (H : Heap) (locs : List Loc), wP G [bMod G x xs xb xm xf xu xg xw kn bl ft vh vm vs ln th sp pl wr br aS aB aM aO aU aG aW] H → wD A [bMod G x xs xb xm xf xu xg xw kn bl ft vh vm vs ln th sp pl wr br aS aB aM aO aU aG aW] → va_S A s.heap H locs → W p l e rmX9_end s m args below meth c H locs 0 0 Q (F0 m 0 ls []) := by
    intro H locs hP hD hS
    have hab : 0 ≤ fdE (T9 aS 0) (T9 aS 1) (aS 0) (aS 1) ∧ fdE (T9 aS 0) (T9 aS 1) (aS 0) (aS 1) ≤ aS 0 := argI_bd (fun i => D 0 (T9 aS 0) (T9 aS 1) i (aS 1)) hs0.1
    have hbb := D_bd (c := 0) (Or.inl rfl) (T9 aS 0) (T9 aS 1) (i := fdE (T9 aS 0) (T9 aS 1) (aS 0) (aS 1)) (j := aS 1) (by omega) (by omega)
    refine lv_aload_n hx hb dX9_end_0 rfl (lv_at hl 0 rfl) ?_
    refine kV ⟨hx, hb, hml, hown, hts⟩ hK hA hS hP hD [] [] (mX9_found l G x xs xb xm xf xu xg xw kn bl ft vh vm vs ln th sp pl wr br aS aB aM aO aU aG aW (by omega) (by omega) (by exact hg0) (by exact hg1)) lkX9_123 [0] [] (br := []) rfl rfl (by decide) 0 9 rfl rfl rfl rfl (Nat.le_of_ble_eq_true rfl) hl.1 dX9_end_1 ⟨Nat.le_of_ble_eq_true rfl, Nat.le_of_ble_eq_true rfl⟩ ⟨Nat.le_of_ble_eq_true rfl, Nat.le_of_ble_eq_true rfl⟩ (fun u9 H locs hp9 hP hD hS => ?_)
    obtain ⟨u_1, rfl⟩ : ∃ z, z = u9 := ⟨_, rfl⟩
    have hg_2 : ∀ x y : Int, 0 ≤ x → x ≤ aS 0 → 0 ≤ y → y ≤ aS 1 → u_1 (21 * x + y) = D 0 (T9 aS 0) (T9 aS 1) x y := hp9
    have hP : wP G [bMod G x xs xb xm xf xu xg xw kn bl ft vh vm vs ln th sp pl wr br aS aB aM aO aU u_1 aW] H := hP
    have hD : wD A [bMod G x xs xb xm xf xu xg xw kn bl ft vh vm vs ln th sp pl wr br aS aB aM aO aU u_1 aW] := hD
    show W p l e rmX9_end s m args below meth c H locs 0 0 Q (F0 m 4 ls [.int (jz (D 0 (T9 aS 0) (T9 aS 1) (fdE (T9 aS 0) (T9 aS 1) (aS 0) (aS 1)) (aS 1)))])
    have hgd := hg_2
    refine lv_istore_n (lv' := [(1, .int (jz (D 0 (T9 aS 0) (T9 aS 1) (fdE (T9 aS 0) (T9 aS 1) (aS 0) (aS 1)) (aS 1)))), (0, .ref x)]) hx hb dX9_end_4 rfl hl (by decide) rfl (fun ls hl => ?_)
    refine jv_iconst hx hb dX9_end_5 ?_
    refine lv_istore_n (lv' := [(2, .int (jz 0)), (1, .int (jz (D 0 (T9 aS 0) (T9 aS 1) (fdE (T9 aS 0) (T9 aS 1) (aS 0) (aS 1)) (aS 1)))), (0, .ref x)]) hx hb dX9_end_6 rfl hl (by decide) rfl (fun ls hl => ?_)
    have K7 : ∀ (n9 : Nat) (k : Int) , ((fdE (T9 aS 0) (T9 aS 1) (aS 0) (aS 1) + 1 - k).toNat) < n9 → (0 ≤ k ∧ k ≤ fdE (T9 aS 0) (T9 aS 1) (aS 0) (aS 1)) → ∀ (H : Heap) (locs : List Loc) (ls : Array Slot), wP G [bMod G x xs xb xm xf xu xg xw kn bl ft vh vm vs ln th sp pl wr br aS aB aM aO aU u_1 aW] H → wD A [bMod G x xs xb xm xf xu xg xw kn bl ft vh vm vs ln th sp pl wr br aS aB aM aO aU u_1 aW] → va_S A s.heap H locs → lv_has ls 3 [(0, .ref x), (1, .int (jz (D 0 (T9 aS 0) (T9 aS 1) (fdE (T9 aS 0) (T9 aS 1) (aS 0) (aS 1)) (aS 1)))), (2, .int (jz k))] → W p l e rmX9_end s m args below meth c H locs 0 0 Q (F0 m 7 ls []) := by
      intro n9
      induction n9 with
      | zero => intro k hm9; exact absurd hm9 (Nat.not_lt_zero _)
      | succ n9 ih7 =>
        intro k hm9 hk H locs ls hP hD hS hl
        have q1 := hgd k (aS 1) (by omega) (by omega) (by omega) (by omega)
        have b1 := D_bd (c := 0) (Or.inl rfl) (T9 aS 0) (T9 aS 1) (i := k) (j := aS 1) (by omega) (by omega)
        refine lv_aload_n hx hb dX9_end_7 rfl (lv_at hl 0 rfl) ?_
        refine lv_iload_n hx hb dX9_end_8 rfl (lv_at hl 2 rfl) ?_
        refine lv_aload_n hx hb dX9_end_9 rfl (lv_at hl 0 rfl) ?_
        refine va_get (ci := 9) (v := .ref xs) (C := RX9) (T := TX9) (N := 19) hx hb hts wfX9 hown hK.1 hP 0 rfl rfl 0 (by decide) (hts _ wm810) (fun _ h9 => h9) rfl dX9_end_10 ?_
        refine jv_iconst hx hb dX9_end_13 ?_
        refine jv_iald hx hb hK.1 hP 1 (g := aS) rfl (by omega) (by omega) (by decide) dX9_end_14 ?_
        refine kV ⟨hx, hb, hml, hown, hts⟩ hK hA hS hP hD [.int (jz k), .int (jz (aS 1))] [] (mX9_d l G x xs xb xm xf xu xg xw kn bl ft vh vm vs ln th sp pl wr br aS aB aM aO aU u_1 aW k (aS 1) (by omega) (by omega)) lkX9_50 [0] [] (br := []) rfl rfl (by decide) 0 9 rfl rfl rfl rfl (Nat.le_of_ble_eq_true rfl) hl.1 dX9_end_15 ⟨Nat.le_of_ble_eq_true rfl, Nat.le_of_ble_eq_true rfl⟩ ⟨Nat.le_of_ble_eq_true rfl, Nat.le_of_ble_eq_true rfl⟩ (fun u9 H locs hp9 hP hD hS => ?_)
        have hP : wP G [bMod G x xs xb xm xf xu xg xw kn bl ft vh vm vs ln th sp pl wr br aS aB aM aO aU u_1 aW] H := hP
        have hD : wD A [bMod G x xs xb xm xf xu xg xw kn bl ft vh vm vs ln th sp pl wr br aS aB aM aO aU u_1 aW] := hD
        show W p l e rmX9_end s m args below meth c H locs 0 0 Q (F0 m 18 ls [.int (jz (u_1 (21 * k + (aS 1))))])
        refine lv_iload_n hx hb dX9_end_18 rfl (lv_at hl 1 rfl) ?_
        refine jv_icmp_eq (tgt := 28) hx hb dX9_end_19 (by decide) (by omega) (by omega) (fun c_4 => ?_) (fun c_4 => ?_)
        · refine lv_iload_n hx hb dX9_end_28 rfl (lv_at hl 2 rfl) ?_
          exact cret_i hx hb hr hlocks hS hP hD (Nat.le_of_ble_eq_true rfl) (Nat.le_of_ble_eq_true rfl) rfl dX9_end_29 [0] (by decide) u_1 rfl trivial (congrArg (fun z : Int => some (Value.int (jz z))) (show k = fdE (T9 aS 0) (T9 aS 1) (aS 0) (aS 1) from by rcases (show k = fdE (T9 aS 0) (T9 aS 1) (aS 0) (aS 1) ∨ k < fdE (T9 aS 0) (T9 aS 1) (aS 0) (aS 1) by omega) with e9 | e9; exact e9; (exfalso; have q2 := (argN_least (fun i => D 0 (T9 aS 0) (T9 aS 1) i (aS 1)) (aS 0).toNat k (by omega) (by omega)).2 e9; have q3 : D 0 (T9 aS 0) (T9 aS 1) (fdE (T9 aS 0) (T9 aS 1) (aS 0) (aS 1)) (aS 1) < D 0 (T9 aS 0) (T9 aS 1) k (aS 1) := q2; omega))) hQ
        · refine jv_iinc (lv' := [(2, .int (jz (k + 1))), (0, .ref x), (1, .int (jz (D 0 (T9 aS 0) (T9 aS 1) (fdE (T9 aS 0) (T9 aS 1) (aS 0) (aS 1)) (aS 1))))]) (k := 2) hx hb dX9_end_22 hl rfl (by decide) rfl (fun ls hl => ?_)
          refine lv_goto (tgt := 7) hx hb dX9_end_25 (by decide) ?_
          exact ih7 (k + 1) (by (rcases (show k = fdE (T9 aS 0) (T9 aS 1) (aS 0) (aS 1) ∨ k < fdE (T9 aS 0) (T9 aS 1) (aS 0) (aS 1) by omega) with e9 | e9; (exfalso; (have q2 : D 0 (T9 aS 0) (T9 aS 1) k (aS 1) = D 0 (T9 aS 0) (T9 aS 1) (fdE (T9 aS 0) (T9 aS 1) (aS 0) (aS 1)) (aS 1) := by rw [e9]); omega); omega)) (by rcases (show k = fdE (T9 aS 0) (T9 aS 1) (aS 0) (aS 1) ∨ k < fdE (T9 aS 0) (T9 aS 1) (aS 0) (aS 1) by omega) with e9 | e9; (exfalso; (have q2 : D 0 (T9 aS 0) (T9 aS 1) k (aS 1) = D 0 (T9 aS 0) (T9 aS 1) (fdE (T9 aS 0) (T9 aS 1) (aS 0) (aS 1)) (aS 1) := by rw [e9]); omega); omega) H _ _ hP hD hS (lv_sub hl [1, 2, 0] rfl)
    exact K7 (((fdE (T9 aS 0) (T9 aS 1) (aS 0) (aS 1) + 1 - 0).toNat) + 1) 0 (Nat.lt_succ_self _) (by omega) H _ _ hP hD hS (lv_sub hl [2, 1, 0] rfl)
  exact KH s.heap [] hP hD hS
abbrev rmX9_foundEnd : Room := { frames := 5, cells := 0, slots := 0, locals := 111 }
set_option maxHeartbeats 4000000 in
set_option maxRecDepth 100000 in
theorem mX9_foundEnd (l : Launch) (G : GG) (x : Nat) (xs : Nat) (xb : Nat) (xm : Nat) (xf : Nat) (xu : Nat) (xg : Nat) (xw : Nat) (kn : Int) (bl : Int) (ft : Int) (vh : Int) (vm : Int) (vs : Int) (ln : Int) (th : Int) (sp : Int) (pl : Int) (wr : Int) (br : Int) (aS : Int → Int) (aB : Int → Int) (aM : Int → Int) (aO : Int → Int) (aU : Int → Int) (aG : Int → Int) (aW : Int → Int) (hs0 : 0 ≤ aS 0 ∧ aS 0 ≤ 20) (hs1 : 0 ≤ aS 1 ∧ aS 1 ≤ 20) (hg0 : ∀ j : Int, 0 ≤ j → j < aS 0 → 0 ≤ T9 aS 0 j ∧ T9 aS 0 j < 4) (hg1 : ∀ j : Int, 0 ≤ j → j < aS 1 → 0 ≤ T9 aS 1 j ∧ T9 aS 1 j < 4) : Ct l yX9_foundEnd cX9_foundEnd 1 (some .int) rmX9_foundEnd G [.ref x] [bMod G x xs xb xm xf xu xg xw kn bl ft vh vm vs ln th sp pl wr br aS aB aM aO aU aG aW] (fun uo : (Int → Int) => some (.int (jz (fdE (T9 aS 0) (T9 aS 1) (aS 0) (aS 1))))) (fun uo => True) (fun uo => [bMod G x xs xb xm xf xu xg xw kn bl ft vh vm vs ln 0 sp pl wr br aS aB aM aO aU uo aW]) := by
  refine cof (by decide) (Nat.le_of_ble_eq_true rfl) ?_
  intro p e s m args below meth c A ls hx hb hr hml hown hts hlocks hin hA hK hP hD hS hl Q hQ
  have hown : s.vm.findClass RX9 = some m.cls := hown
  have hl : lv_has ls 1 [(0, .ref x)] := hl
  have KH : ∀ (H : Heap) (locs : List Loc), wP G [bMod G x xs xb xm xf xu xg xw kn bl ft vh vm vs ln th sp pl wr br aS aB aM aO aU aG aW] H → wD A [bMod G x xs xb xm xf xu xg xw kn bl ft vh vm vs ln th sp pl wr br aS aB aM aO aU aG aW] → va_S A s.heap H locs → W p l e rmX9_foundEnd s m args below meth c H locs 0 0 Q (F0 m 0 ls []) := by
    intro H locs hP hD hS
    refine lv_aload_n hx hb dX9_foundEnd_0 rfl (lv_at hl 0 rfl) ?_
    refine jv_iconst hx hb dX9_foundEnd_1 ?_
    refine va_put (ci := 9) (v := .int (jz 0)) (ty := .int) (C := RX9) (T := TX9) (N := 19) hx hb hts wfX9 tyX9 tyX9_ok nmX9 hown hK.1 hP hD hS 0 rfl rfl 12 (by decide) (hts _ wm822) (fun _ h9 => h9) rfl (by decide +kernel) rfl rfl (Nat.le_of_ble_eq_true rfl) dX9_foundEnd_2 (fun H locs hP hD hS => ?_)
    have hP : wP G [bMod G x xs xb xm xf xu xg xw kn bl ft vh vm vs ln 0 sp pl wr br aS aB aM aO aU aG aW] H := hP
    have hD : wD A [bMod G x xs xb xm xf xu xg xw kn bl ft vh vm vs ln 0 sp pl wr br aS aB aM aO aU aG aW] := hD
    refine lv_aload_n hx hb dX9_foundEnd_5 rfl (lv_at hl 0 rfl) ?_
    refine kV ⟨hx, hb, hml, hown, hts⟩ hK hA hS hP hD [] [] (mX9_end l G x xs xb xm xf xu xg xw kn bl ft vh vm vs ln 0 sp pl wr br aS aB aM aO aU aG aW (by omega) (by omega) (by exact hg0) (by exact hg1)) lkX9_126 [0] [] (br := []) rfl rfl (by decide) 0 9 rfl rfl rfl rfl (Nat.le_of_ble_eq_true rfl) hl.1 dX9_foundEnd_6 ⟨Nat.le_of_ble_eq_true rfl, Nat.le_of_ble_eq_true rfl⟩ ⟨Nat.le_of_ble_eq_true rfl, Nat.le_of_ble_eq_true rfl⟩ (fun u9 H locs hp9 hP hD hS => ?_)
    obtain ⟨u_1, rfl⟩ : ∃ z, z = u9 := ⟨_, rfl⟩
    have hP : wP G [bMod G x xs xb xm xf xu xg xw kn bl ft vh vm vs ln 0 sp pl wr br aS aB aM aO aU u_1 aW] H := hP
    have hD : wD A [bMod G x xs xb xm xf xu xg xw kn bl ft vh vm vs ln 0 sp pl wr br aS aB aM aO aU u_1 aW] := hD
    show W p l e rmX9_foundEnd s m args below meth c H locs 0 0 Q (F0 m 9 ls [.int (jz (fdE (T9 aS 0) (T9 aS 1) (aS 0) (aS 1)))])
    exact cret_i hx hb hr hlocks hS hP hD (Nat.le_of_ble_eq_true rfl) (Nat.le_of_ble_eq_true rfl) rfl dX9_foundEnd_9 [0] (by decide) u_1 rfl trivial (congrArg (fun z : Int => some (Value.int (jz z))) (show (fdE (T9 aS 0) (T9 aS 1) (aS 0) (aS 1)) = fdE (T9 aS 0) (T9 aS 1) (aS 0) (aS 1) from by first | rfl | omega | (split <;> first | rfl | omega | (exfalso; omega)))) hQ
  exact KH s.heap [] hP hD hS
