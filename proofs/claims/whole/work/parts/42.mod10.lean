abbrev rmX9_similarity : Room := { frames := 4, cells := 0, slots := 0, locals := 87 }
set_option maxHeartbeats 4000000 in
set_option maxRecDepth 100000 in
theorem mX9_similarity (l : Launch) (G : GG) (x : Nat) (xs : Nat) (xb : Nat) (xm : Nat) (xf : Nat) (xu : Nat) (xg : Nat) (xw : Nat) (kn : Int) (bl : Int) (ft : Int) (vh : Int) (vm : Int) (vs : Int) (ln : Int) (th : Int) (sp : Int) (pl : Int) (wr : Int) (br : Int) (aS : Int → Int) (aB : Int → Int) (aM : Int → Int) (aO : Int → Int) (aU : Int → Int) (aG : Int → Int) (aW : Int → Int) (hs0 : 0 ≤ aS 0 ∧ aS 0 ≤ 20) (hs1 : 0 ≤ aS 1 ∧ aS 1 ≤ 20) (hg0 : ∀ j : Int, 0 ≤ j → j < aS 0 → 0 ≤ T9 aS 0 j ∧ T9 aS 0 j < 4) (hg1 : ∀ j : Int, 0 ≤ j → j < aS 1 → 0 ≤ T9 aS 1 j ∧ T9 aS 1 j < 4) : Ct l yX9_similarity cX9_similarity 2 (some .double) rmX9_similarity G [.ref x] [bMod G x xs xb xm xf xu xg xw kn bl ft vh vm vs ln th sp pl wr br aS aB aM aO aU aG aW] (fun uo : (Int → Int) => some (.double (sim (D 1 (T9 aS 0) (T9 aS 1) (aS 0) (aS 1)) (max (aS 0) (aS 1))))) (fun uo => True) (fun uo => [bMod G x xs xb xm xf xu xg xw kn bl ft vh vm vs ln 0 sp pl wr br aS aB aM aO aU uo aW]) := by
  refine cof (by decide) (Nat.le_of_ble_eq_true rfl) ?_
  intro p e s m args below meth c A ls hx hb hr hml hown hts hlocks hin hA hK hP hD hS hl Q hQ
  have hown : s.vm.findClass RX9 = some m.cls := hown
  have hl : lv_has ls 2 [(0, .ref x)] := hl
  have KH : ∀ (H : Heap) (locs : List Loc), wP G [bMod G x xs xb xm xf xu xg xw kn bl ft vh vm vs ln th sp pl wr br aS aB aM aO aU aG aW] H → wD A [bMod G x xs xb xm xf xu xg xw kn bl ft vh vm vs ln th sp pl wr br aS aB aM aO aU aG aW] → va_S A s.heap H locs → W p l e rmX9_similarity s m args below meth c H locs 0 0 Q (F0 m 0 ls []) := by
    intro H locs hP hD hS
    have hdb := D_bd (c := 1) (Or.inr rfl) (T9 aS 0) (T9 aS 1) (i := aS 0) (j := aS 1) (by omega) (by omega)
    refine lv_aload_n hx hb dX9_similarity_0 rfl (lv_at hl 0 rfl) ?_
    refine jv_iconst hx hb dX9_similarity_1 ?_
    refine va_put (ci := 9) (v := .int (jz 0)) (ty := .int) (C := RX9) (T := TX9) (N := 19) hx hb hts wfX9 tyX9 tyX9_ok nmX9 hown hK.1 hP hD hS 0 rfl rfl 12 (by decide) (hts _ wm822) (fun _ h9 => h9) rfl (by decide +kernel) rfl rfl (Nat.le_of_ble_eq_true rfl) dX9_similarity_2 (fun H locs hP hD hS => ?_)
    have hP : wP G [bMod G x xs xb xm xf xu xg xw kn bl ft vh vm vs ln 0 sp pl wr br aS aB aM aO aU aG aW] H := hP
    have hD : wD A [bMod G x xs xb xm xf xu xg xw kn bl ft vh vm vs ln 0 sp pl wr br aS aB aM aO aU aG aW] := hD
    refine lv_aload_n hx hb dX9_similarity_5 rfl (lv_at hl 0 rfl) ?_
    refine va_get (ci := 9) (v := .ref xs) (C := RX9) (T := TX9) (N := 19) hx hb hts wfX9 hown hK.1 hP 0 rfl rfl 0 (by decide) (hts _ wm810) (fun _ h9 => h9) rfl dX9_similarity_6 ?_
    refine jv_iconst hx hb dX9_similarity_9 ?_
    refine jv_iald hx hb hK.1 hP 1 (g := aS) rfl (by omega) (by omega) (by decide) dX9_similarity_10 ?_
    refine lv_aload_n hx hb dX9_similarity_11 rfl (lv_at hl 0 rfl) ?_
    refine va_get (ci := 9) (v := .ref xs) (C := RX9) (T := TX9) (N := 19) hx hb hts wfX9 hown hK.1 hP 0 rfl rfl 0 (by decide) (hts _ wm810) (fun _ h9 => h9) rfl dX9_similarity_12 ?_
    refine jv_iconst hx hb dX9_similarity_15 ?_
    refine jv_iald hx hb hK.1 hP 1 (g := aS) rfl (by omega) (by omega) (by decide) dX9_similarity_16 ?_
    refine jv_icmp_le (tgt := 29) hx hb dX9_similarity_17 (by decide) (by omega) (by omega) (fun c_1 => ?_) (fun c_1 => ?_)
    · refine lv_aload_n hx hb dX9_similarity_29 rfl (lv_at hl 0 rfl) ?_
      refine va_get (ci := 9) (v := .ref xs) (C := RX9) (T := TX9) (N := 19) hx hb hts wfX9 hown hK.1 hP 0 rfl rfl 0 (by decide) (hts _ wm810) (fun _ h9 => h9) rfl dX9_similarity_30 ?_
      refine jv_iconst hx hb dX9_similarity_33 ?_
      refine jv_iald hx hb hK.1 hP 1 (g := aS) rfl (by omega) (by omega) (by decide) dX9_similarity_34 ?_
      refine lv_istore_n (lv' := [(1, .int (jz (aS 1))), (0, .ref x)]) hx hb dX9_similarity_35 rfl hl (by decide) rfl (fun ls hl => ?_)
      refine lv_iload_n hx hb dX9_similarity_36 rfl (lv_at hl 0 rfl) ?_
      refine jv_if_ne (tgt := 44) hx hb dX9_similarity_37 (by decide) (by omega) (fun c_2 => ?_) (fun c_2 => ?_)
      · refine lv_dconst1 hx hb dX9_similarity_44 ?_
        refine lv_aload_n hx hb dX9_similarity_45 rfl (lv_at hl 1 rfl) ?_
        refine kV ⟨hx, hb, hml, hown, hts⟩ hK hA hS hP hD [] [.double FP.dconst1] (mX9_whole l G x xs xb xm xf xu xg xw kn bl ft vh vm vs ln 0 sp pl wr br aS aB aM aO aU aG aW (by omega) (by omega) (by exact hg0) (by exact hg1)) lkX9_112 [0] [] (br := []) rfl rfl (by decide) 0 9 rfl rfl rfl rfl (Nat.le_of_ble_eq_true rfl) hl.1 dX9_similarity_46 ⟨Nat.le_of_ble_eq_true rfl, Nat.le_of_ble_eq_true rfl⟩ ⟨Nat.le_of_ble_eq_true rfl, Nat.le_of_ble_eq_true rfl⟩ (fun u9 H locs hp9 hP hD hS => ?_)
        obtain ⟨u_3, rfl⟩ : ∃ z, z = u9 := ⟨_, rfl⟩
        have hP : wP G [bMod G x xs xb xm xf xu xg xw kn bl ft vh vm vs ln 0 sp pl wr br aS aB aM aO aU u_3 aW] H := hP
        have hD : wD A [bMod G x xs xb xm xf xu xg xw kn bl ft vh vm vs ln 0 sp pl wr br aS aB aM aO aU u_3 aW] := hD
        show W p l e rmX9_similarity s m args below meth c H locs 0 0 Q (F0 m 49 ls [.int (jz (D 1 (T9 aS 0) (T9 aS 1) (aS 0) (aS 1))), .double FP.dconst1])
        refine lv_i2d hx hb dX9_similarity_49 ?_
        refine lv_iload_n hx hb dX9_similarity_50 rfl (lv_at hl 0 rfl) ?_
        refine lv_i2d hx hb dX9_similarity_51 ?_
        refine lv_ddiv hx hb dX9_similarity_52 (by exact (dbl_ok (by omega) (by omega) (by omega) (by omega)).1) ?_
        refine lv_dsub hx hb dX9_similarity_53 (by exact (dbl_ok (by omega) (by omega) (by omega) (by omega)).2) ?_
        exact cret_d hx hb hr hlocks hS hP hD (Nat.le_of_ble_eq_true rfl) (Nat.le_of_ble_eq_true rfl) dX9_similarity_54 [0] (by decide) u_3 rfl trivial (congrArg (fun z : UInt64 => some (Value.double z)) (show (FP.dsub FP.dconst1 (FP.ddiv (FP.i2d (jz (D 1 (T9 aS 0) (T9 aS 1) (aS 0) (aS 1)))) (FP.i2d (jz (aS 1))))) = sim (D 1 (T9 aS 0) (T9 aS 1) (aS 0) (aS 1)) (max (aS 0) (aS 1)) from by (first | rw [show max (aS 0) (aS 1) = aS 0 by omega] | rw [show max (aS 0) (aS 1) = aS 1 by omega]); unfold sim; (first | rw [if_pos (by omega)] | rw [if_neg (by omega)]))) hQ
      · refine lv_dconst1 hx hb dX9_similarity_40 ?_
        refine lv_goto (tgt := 54) hx hb dX9_similarity_41 (by decide) ?_
        exact cret_d hx hb hr hlocks hS hP hD (Nat.le_of_ble_eq_true rfl) (Nat.le_of_ble_eq_true rfl) dX9_similarity_54 [0] (by decide) aG rfl trivial (congrArg (fun z : UInt64 => some (Value.double z)) (show FP.dconst1 = sim (D 1 (T9 aS 0) (T9 aS 1) (aS 0) (aS 1)) (max (aS 0) (aS 1)) from by (first | rw [show max (aS 0) (aS 1) = aS 0 by omega] | rw [show max (aS 0) (aS 1) = aS 1 by omega]); unfold sim; (first | rw [if_pos (by omega)] | rw [if_neg (by omega)]))) hQ
    · refine lv_aload_n hx hb dX9_similarity_20 rfl (lv_at hl 0 rfl) ?_
      refine va_get (ci := 9) (v := .ref xs) (C := RX9) (T := TX9) (N := 19) hx hb hts wfX9 hown hK.1 hP 0 rfl rfl 0 (by decide) (hts _ wm810) (fun _ h9 => h9) rfl dX9_similarity_21 ?_
      refine jv_iconst hx hb dX9_similarity_24 ?_
      refine jv_iald hx hb hK.1 hP 1 (g := aS) rfl (by omega) (by omega) (by decide) dX9_similarity_25 ?_
      refine lv_goto (tgt := 35) hx hb dX9_similarity_26 (by decide) ?_
      refine lv_istore_n (lv' := [(1, .int (jz (aS 0))), (0, .ref x)]) hx hb dX9_similarity_35 rfl hl (by decide) rfl (fun ls hl => ?_)
      refine lv_iload_n hx hb dX9_similarity_36 rfl (lv_at hl 0 rfl) ?_
      refine jv_if_ne (tgt := 44) hx hb dX9_similarity_37 (by decide) (by omega) (fun c_4 => ?_) (fun c_4 => ?_)
      · refine lv_dconst1 hx hb dX9_similarity_44 ?_
        refine lv_aload_n hx hb dX9_similarity_45 rfl (lv_at hl 1 rfl) ?_
        refine kV ⟨hx, hb, hml, hown, hts⟩ hK hA hS hP hD [] [.double FP.dconst1] (mX9_whole l G x xs xb xm xf xu xg xw kn bl ft vh vm vs ln 0 sp pl wr br aS aB aM aO aU aG aW (by omega) (by omega) (by exact hg0) (by exact hg1)) lkX9_112 [0] [] (br := []) rfl rfl (by decide) 0 9 rfl rfl rfl rfl (Nat.le_of_ble_eq_true rfl) hl.1 dX9_similarity_46 ⟨Nat.le_of_ble_eq_true rfl, Nat.le_of_ble_eq_true rfl⟩ ⟨Nat.le_of_ble_eq_true rfl, Nat.le_of_ble_eq_true rfl⟩ (fun u9 H locs hp9 hP hD hS => ?_)
        obtain ⟨u_5, rfl⟩ : ∃ z, z = u9 := ⟨_, rfl⟩
        have hP : wP G [bMod G x xs xb xm xf xu xg xw kn bl ft vh vm vs ln 0 sp pl wr br aS aB aM aO aU u_5 aW] H := hP
        have hD : wD A [bMod G x xs xb xm xf xu xg xw kn bl ft vh vm vs ln 0 sp pl wr br aS aB aM aO aU u_5 aW] := hD
        show W p l e rmX9_similarity s m args below meth c H locs 0 0 Q (F0 m 49 ls [.int (jz (D 1 (T9 aS 0) (T9 aS 1) (aS 0) (aS 1))), .double FP.dconst1])
        refine lv_i2d hx hb dX9_similarity_49 ?_
        refine lv_iload_n hx hb dX9_similarity_50 rfl (lv_at hl 0 rfl) ?_
        refine lv_i2d hx hb dX9_similarity_51 ?_
        refine lv_ddiv hx hb dX9_similarity_52 (by exact (dbl_ok (by omega) (by omega) (by omega) (by omega)).1) ?_
        refine lv_dsub hx hb dX9_similarity_53 (by exact (dbl_ok (by omega) (by omega) (by omega) (by omega)).2) ?_
        exact cret_d hx hb hr hlocks hS hP hD (Nat.le_of_ble_eq_true rfl) (Nat.le_of_ble_eq_true rfl) dX9_similarity_54 [0] (by decide) u_5 rfl trivial (congrArg (fun z : UInt64 => some (Value.double z)) (show (FP.dsub FP.dconst1 (FP.ddiv (FP.i2d (jz (D 1 (T9 aS 0) (T9 aS 1) (aS 0) (aS 1)))) (FP.i2d (jz (aS 0))))) = sim (D 1 (T9 aS 0) (T9 aS 1) (aS 0) (aS 1)) (max (aS 0) (aS 1)) from by (first | rw [show max (aS 0) (aS 1) = aS 0 by omega] | rw [show max (aS 0) (aS 1) = aS 1 by omega]); unfold sim; (first | rw [if_pos (by omega)] | rw [if_neg (by omega)]))) hQ
      · refine lv_dconst1 hx hb dX9_similarity_40 ?_
        refine lv_goto (tgt := 54) hx hb dX9_similarity_41 (by decide) ?_
        exact cret_d hx hb hr hlocks hS hP hD (Nat.le_of_ble_eq_true rfl) (Nat.le_of_ble_eq_true rfl) dX9_similarity_54 [0] (by decide) aG rfl trivial (congrArg (fun z : UInt64 => some (Value.double z)) (show FP.dconst1 = sim (D 1 (T9 aS 0) (T9 aS 1) (aS 0) (aS 1)) (max (aS 0) (aS 1)) from by (first | rw [show max (aS 0) (aS 1) = aS 0 by omega] | rw [show max (aS 0) (aS 1) = aS 1 by omega]); unfold sim; (first | rw [if_pos (by omega)] | rw [if_neg (by omega)]))) hQ
  exact KH s.heap [] hP hD hS
abbrev rmX9_band : Room := { frames := 1, cells := 0, slots := 0, locals := 22 }
set_option maxHeartbeats 4000000 in
set_option maxRecDepth 100000 in
theorem mX9_band (l : Launch) (G : GG) (x : Nat) (xs : Nat) (xb : Nat) (xm : Nat) (xf : Nat) (xu : Nat) (xg : Nat) (xw : Nat) (kn : Int) (bl : Int) (ft : Int) (vh : Int) (vm : Int) (vs : Int) (ln : Int) (th : Int) (sp : Int) (pl : Int) (wr : Int) (br : Int) (aS : Int → Int) (aB : Int → Int) (aM : Int → Int) (aO : Int → Int) (aU : Int → Int) (aG : Int → Int) (aW : Int → Int) (z : Int) (hs0 : 0 ≤ aS 0 ∧ aS 0 ≤ 20) (hs1 : 0 ≤ aS 1 ∧ aS 1 ≤ 20) (hz : 0 ≤ z ∧ z ≤ 20) : Ct l yX9_band cX9_band 5 (some .int) rmX9_band G [.ref x, .int (jz z)] [bMod G x xs xb xm xf xu xg xw kn bl ft vh vm vs ln th sp pl wr br aS aB aM aO aU aG aW] (fun uo : Unit => some (.int (jz (bandI z (aS 1) (aS 0 + 1))))) (fun uo => True) (fun uo => [bMod G x xs xb xm xf xu xg xw kn bl ft vh vm vs ln 0 sp pl wr br aS aB aM aO aU aG aW]) := by
  refine cof (by decide) (Nat.le_of_ble_eq_true rfl) ?_
  intro p e s m args below meth c A ls hx hb hr hml hown hts hlocks hin hA hK hP hD hS hl Q hQ
  have hown : s.vm.findClass RX9 = some m.cls := hown
  have hl : lv_has ls 5 [(0, .ref x), (1, .int (jz z))] := hl
  have KH : ∀ (H : Heap) (locs : List Loc), wP G [bMod G x xs xb xm xf xu xg xw kn bl ft vh vm vs ln th sp pl wr br aS aB aM aO aU aG aW] H → wD A [bMod G x xs xb xm xf xu xg xw kn bl ft vh vm vs ln th sp pl wr br aS aB aM aO aU aG aW] → va_S A s.heap H locs → W p l e rmX9_band s m args below meth c H locs 0 0 Q (F0 m 0 ls []) := by
    intro H locs hP hD hS
    refine lv_aload_n hx hb dX9_band_0 rfl (lv_at hl 0 rfl) ?_
    refine jv_iconst hx hb dX9_band_1 ?_
    refine va_put (ci := 9) (v := .int (jz 0)) (ty := .int) (C := RX9) (T := TX9) (N := 19) hx hb hts wfX9 tyX9 tyX9_ok nmX9 hown hK.1 hP hD hS 0 rfl rfl 12 (by decide) (hts _ wm822) (fun _ h9 => h9) rfl (by decide +kernel) rfl rfl (Nat.le_of_ble_eq_true rfl) dX9_band_2 (fun H locs hP hD hS => ?_)
    have hP : wP G [bMod G x xs xb xm xf xu xg xw kn bl ft vh vm vs ln 0 sp pl wr br aS aB aM aO aU aG aW] H := hP
    have hD : wD A [bMod G x xs xb xm xf xu xg xw kn bl ft vh vm vs ln 0 sp pl wr br aS aB aM aO aU aG aW] := hD
    refine lv_iload_n hx hb dX9_band_5 rfl (lv_at hl 1 rfl) ?_
    refine jv_iconst hx hb dX9_band_6 ?_
    refine jv_bipush hx hb dX9_band_7 (by decide) ?_
    refine kS ⟨hx, hb, hml, hown, hts⟩ hK hA hS hP hD [.int (jz z), .int (jz 0), .int (jz 20)] [] (mX9_in_T l G z 0 20 (by omega) (by omega) (by omega) (by omega)) lkX9_42 [] [0] (br := [bMod G x xs xb xm xf xu xg xw kn bl ft vh vm vs ln 0 sp pl wr br aS aB aM aO aU aG aW]) rfl rfl (by decide) rfl rfl (Nat.le_of_ble_eq_true rfl) hl.1 dX9_band_9 ⟨Nat.le_of_ble_eq_true rfl, Nat.le_of_ble_eq_true rfl⟩ ⟨Nat.le_of_ble_eq_true rfl, Nat.le_of_ble_eq_true rfl⟩ (fun u9 H locs hp9 hP hD hS => ?_)
    have hP : wP G [bMod G x xs xb xm xf xu xg xw kn bl ft vh vm vs ln 0 sp pl wr br aS aB aM aO aU aG aW] H := hP
    have hD : wD A [bMod G x xs xb xm xf xu xg xw kn bl ft vh vm vs ln 0 sp pl wr br aS aB aM aO aU aG aW] := hD
    show W p l e rmX9_band s m args below meth c H locs 0 0 Q (F0 m 12 ls [.int (jz 1)])
    refine jv_if_ne (tgt := 21) hx hb dX9_band_12 (by decide) (by omega) (fun c_2 => ?_) (fun c_2 => ?_)
    · refine jv_iconst hx hb dX9_band_21 ?_
      refine lv_istore_n (lv' := [(2, .int (jz 0)), (0, .ref x), (1, .int (jz z))]) hx hb dX9_band_22 rfl hl (by decide) rfl (fun ls hl => ?_)
      refine jv_iconst hx hb dX9_band_23 ?_
      refine lv_istore_n (lv' := [(3, .int (jz 0)), (2, .int (jz 0)), (0, .ref x), (1, .int (jz z))]) hx hb dX9_band_24 rfl hl (by decide) rfl (fun ls hl => ?_)
      have K25 : ∀ (n9 : Nat) (r : Int) (i : Int) , ((aS 0 + 1 - i).toNat) < n9 → (0 ≤ i ∧ i ≤ aS 0 + 1) → (r = bandI z (aS 1) i) → ∀ (H : Heap) (locs : List Loc) (ls : Array Slot), wP G [bMod G x xs xb xm xf xu xg xw kn bl ft vh vm vs ln 0 sp pl wr br aS aB aM aO aU aG aW] H → wD A [bMod G x xs xb xm xf xu xg xw kn bl ft vh vm vs ln 0 sp pl wr br aS aB aM aO aU aG aW] → va_S A s.heap H locs → lv_has ls 5 [(0, .ref x), (1, .int (jz z)), (2, .int (jz r)), (3, .int (jz i))] → W p l e rmX9_band s m args below meth c H locs 0 0 Q (F0 m 25 ls []) := by
        intro n9
        induction n9 with
        | zero => intro r i hm9; exact absurd hm9 (Nat.not_lt_zero _)
        | succ n9 ih25 =>
          intro r i hm9 hi hr9 H locs ls hP hD hS hl
          refine lv_iload_n hx hb dX9_band_25 rfl (lv_at hl 3 rfl) ?_
          refine lv_aload_n hx hb dX9_band_26 rfl (lv_at hl 0 rfl) ?_
          refine va_get (ci := 9) (v := .ref xs) (C := RX9) (T := TX9) (N := 19) hx hb hts wfX9 hown hK.1 hP 0 rfl rfl 0 (by decide) (hts _ wm810) (fun _ h9 => h9) rfl dX9_band_27 ?_
          refine jv_iconst hx hb dX9_band_30 ?_
          refine jv_iald hx hb hK.1 hP 1 (g := aS) rfl (by omega) (by omega) (by decide) dX9_band_31 ?_
          refine jv_icmp_gt (tgt := 82) hx hb dX9_band_32 (by decide) (by omega) (by omega) (fun c_3 => ?_) (fun c_3 => ?_)
          · refine lv_iload_n hx hb dX9_band_82 rfl (lv_at hl 2 rfl) ?_
            exact cret_i hx hb hr hlocks hS hP hD (Nat.le_of_ble_eq_true rfl) (Nat.le_of_ble_eq_true rfl) rfl dX9_band_83 [0] (by decide) () rfl trivial (congrArg (fun z : Int => some (Value.int (jz z))) (show r = bandI z (aS 1) (aS 0 + 1) from by rw [hr9, show i = aS 0 + 1 by omega])) hQ
          · refine jv_iconst hx hb dX9_band_35 ?_
            refine lv_istore (lv' := [(4, .int (jz 0)), (0, .ref x), (1, .int (jz z)), (2, .int (jz r)), (3, .int (jz i))]) hx hb dX9_band_36 hl (by decide) rfl (fun ls hl => ?_)
            have K38 : ∀ (n9 : Nat) (r2 : Int) (j : Int) , ((aS 1 + 1 - j).toNat) < n9 → (0 ≤ j ∧ j ≤ aS 1 + 1) → (r2 = r + max 0 (min (j - 1) (i + z) - max 0 (i - z) + 1)) → ∀ (H : Heap) (locs : List Loc) (ls : Array Slot), wP G [bMod G x xs xb xm xf xu xg xw kn bl ft vh vm vs ln 0 sp pl wr br aS aB aM aO aU aG aW] H → wD A [bMod G x xs xb xm xf xu xg xw kn bl ft vh vm vs ln 0 sp pl wr br aS aB aM aO aU aG aW] → va_S A s.heap H locs → lv_has ls 5 [(0, .ref x), (1, .int (jz z)), (2, .int (jz r2)), (3, .int (jz i)), (4, .int (jz j))] → W p l e rmX9_band s m args below meth c H locs 0 0 Q (F0 m 38 ls []) := by
              intro n9
              induction n9 with
              | zero => intro r2 j hm9; exact absurd hm9 (Nat.not_lt_zero _)
              | succ n9 ih38 =>
                intro r2 j hm9 hj hr2 H locs ls hP hD hS hl
                refine lv_iload hx hb dX9_band_38 (lv_at hl 4 rfl) ?_
                refine lv_aload_n hx hb dX9_band_40 rfl (lv_at hl 0 rfl) ?_
                refine va_get (ci := 9) (v := .ref xs) (C := RX9) (T := TX9) (N := 19) hx hb hts wfX9 hown hK.1 hP 0 rfl rfl 0 (by decide) (hts _ wm810) (fun _ h9 => h9) rfl dX9_band_41 ?_
                refine jv_iconst hx hb dX9_band_44 ?_
                refine jv_iald hx hb hK.1 hP 1 (g := aS) rfl (by omega) (by omega) (by decide) dX9_band_45 ?_
                refine jv_icmp_gt (tgt := 76) hx hb dX9_band_46 (by decide) (by omega) (by omega) (fun c_4 => ?_) (fun c_4 => ?_)
                · refine jv_iinc (lv' := [(3, .int (jz (i + 1))), (0, .ref x), (1, .int (jz z)), (2, .int (jz r2)), (4, .int (jz j))]) (k := 3) hx hb dX9_band_76 hl rfl (by decide) rfl (fun ls hl => ?_)
                  refine lv_goto (tgt := 25) hx hb dX9_band_79 (by decide) ?_
                  exact ih25 r2 (i + 1) (by omega) (by omega) (by rw [bandI_s z (aS 1) (by omega)]; omega) H _ _ hP hD hS (lv_sub hl [1, 2, 3, 0] rfl)
                · refine lv_iload_n hx hb dX9_band_49 rfl (lv_at hl 2 rfl) ?_
                  refine lv_iload_n hx hb dX9_band_50 rfl (lv_at hl 3 rfl) ?_
                  refine lv_iload hx hb dX9_band_51 (lv_at hl 4 rfl) ?_
                  refine jv_isub hx hb dX9_band_53 ?_
                  refine lv_iload_n hx hb dX9_band_54 rfl (lv_at hl 1 rfl) ?_
                  refine jv_ineg hx hb dX9_band_55 ?_
                  refine lv_iload_n hx hb dX9_band_56 rfl (lv_at hl 1 rfl) ?_
                  refine kS ⟨hx, hb, hml, hown, hts⟩ hK hA hS hP hD [.int (jz (i - j)), .int (jz (-z)), .int (jz z)] [.int (jz r2)] (mX9_in l G (i - j) (-z) z (by omega) (by omega) (by omega)) lkX9_42 [] [0] (br := [bMod G x xs xb xm xf xu xg xw kn bl ft vh vm vs ln 0 sp pl wr br aS aB aM aO aU aG aW]) rfl rfl (by decide) rfl rfl (Nat.le_of_ble_eq_true rfl) hl.1 dX9_band_57 ⟨Nat.le_of_ble_eq_true rfl, Nat.le_of_ble_eq_true rfl⟩ ⟨Nat.le_of_ble_eq_true rfl, Nat.le_of_ble_eq_true rfl⟩ (fun u9 H locs hp9 hP hD hS => ?_)
                  have hP : wP G [bMod G x xs xb xm xf xu xg xw kn bl ft vh vm vs ln 0 sp pl wr br aS aB aM aO aU aG aW] H := hP
                  have hD : wD A [bMod G x xs xb xm xf xu xg xw kn bl ft vh vm vs ln 0 sp pl wr br aS aB aM aO aU aG aW] := hD
                  show W p l e rmX9_band s m args below meth c H locs 0 0 Q (F0 m 60 ls [.int (jz (if (-z) ≤ (i - j) ∧ (i - j) ≤ z then 1 else 0)), .int (jz r2)])
                  refine jv_top (fun r_6 er_6 => ?_)
                  refine jv_if_eq (tgt := 67) hx hb dX9_band_60 (by decide) (by rw [er_6]; split <;> omega) (fun c_7 => ?_) (fun c_7 => ?_)
                  · have hlt9 : ¬ (-z ≤ i - j ∧ i - j ≤ z) := by have q9 := er_6; split at q9 <;> omega
                    refine jv_iconst hx hb dX9_band_67 ?_
                    refine jv_iadd hx hb dX9_band_68 ?_
                    refine lv_istore_n (lv' := [(2, .int (jz (r2 + 0))), (0, .ref x), (1, .int (jz z)), (3, .int (jz i)), (4, .int (jz j))]) hx hb dX9_band_69 rfl hl (by decide) rfl (fun ls hl => ?_)
                    refine jv_iinc (lv' := [(4, .int (jz (j + 1))), (2, .int (jz (r2 + 0))), (0, .ref x), (1, .int (jz z)), (3, .int (jz i))]) (k := 4) hx hb dX9_band_70 hl rfl (by decide) rfl (fun ls hl => ?_)
                    refine lv_goto (tgt := 38) hx hb dX9_band_73 (by decide) ?_
                    exact ih38 (r2 + 0) (j + 1) (by omega) (by omega) (by omega) H _ _ hP hD hS (lv_sub hl [2, 3, 1, 4, 0] rfl)
                  · have hlt9 : -z ≤ i - j ∧ i - j ≤ z := by have q9 := er_6; split at q9 <;> omega
                    refine jv_iconst hx hb dX9_band_63 ?_
                    refine lv_goto (tgt := 68) hx hb dX9_band_64 (by decide) ?_
                    refine jv_iadd hx hb dX9_band_68 ?_
                    refine lv_istore_n (lv' := [(2, .int (jz (r2 + 1))), (0, .ref x), (1, .int (jz z)), (3, .int (jz i)), (4, .int (jz j))]) hx hb dX9_band_69 rfl hl (by decide) rfl (fun ls hl => ?_)
                    refine jv_iinc (lv' := [(4, .int (jz (j + 1))), (2, .int (jz (r2 + 1))), (0, .ref x), (1, .int (jz z)), (3, .int (jz i))]) (k := 4) hx hb dX9_band_70 hl rfl (by decide) rfl (fun ls hl => ?_)
                    refine lv_goto (tgt := 38) hx hb dX9_band_73 (by decide) ?_
                    exact ih38 (r2 + 1) (j + 1) (by omega) (by omega) (by omega) H _ _ hP hD hS (lv_sub hl [2, 3, 1, 4, 0] rfl)
            exact K38 (((aS 1 + 1 - 0).toNat) + 1) r 0 (Nat.lt_succ_self _) (by omega) (by omega) H _ _ hP hD hS (lv_sub hl [1, 2, 3, 4, 0] rfl)
      exact K25 (((aS 0 + 1 - 0).toNat) + 1) 0 0 (Nat.lt_succ_self _) (by omega) (by rfl) H _ _ hP hD hS (lv_sub hl [2, 3, 1, 0] rfl)
    · exfalso; omega
  exact KH s.heap [] hP hD hS
abbrev rmX9_setAlphabet_1 : Room := { frames := 1, cells := 0, slots := 0, locals := 22 }
set_option maxHeartbeats 4000000 in
set_option maxRecDepth 100000 in
theorem mX9_setAlphabet_1 (l : Launch) (G : GG) (x : Nat) (xs : Nat) (xb : Nat) (xm : Nat) (xf : Nat) (xu : Nat) (xg : Nat) (xw : Nat) (kn : Int) (bl : Int) (ft : Int) (vh : Int) (vm : Int) (vs : Int) (ln : Int) (th : Int) (sp : Int) (pl : Int) (wr : Int) (br : Int) (aS : Int → Int) (aB : Int → Int) (aM : Int → Int) (aO : Int → Int) (aU : Int → Int) (aG : Int → Int) (aW : Int → Int) (z : Int) (hzj : jr z) (hz : ¬ (2 ≤ z ∧ z ≤ 4)) : Ct l yX9_setAlphabet cX9_setAlphabet 3 (some .int) rmX9_setAlphabet_1 G [.ref x, .int (jz z)] [bMod G x xs xb xm xf xu xg xw kn bl ft vh vm vs ln th sp pl wr br aS aB aM aO aU aG aW] (fun uo : Unit => some (.int (jz 0))) (fun uo => True) (fun uo => [bMod G x xs xb xm xf xu xg xw kn bl ft vh vm vs ln 1 sp pl wr br aS aB aM aO aU aG aW]) := by
  refine cof (by decide) (Nat.le_of_ble_eq_true rfl) ?_
  intro p e s m args below meth c A ls hx hb hr hml hown hts hlocks hin hA hK hP hD hS hl Q hQ
  have hown : s.vm.findClass RX9 = some m.cls := hown
  have hl : lv_has ls 3 [(0, .ref x), (1, .int (jz z))] := hl
  have KH : ∀ (H : Heap) (locs : List Loc), wP G [bMod G x xs xb xm xf xu xg xw kn bl ft vh vm vs ln th sp pl wr br aS aB aM aO aU aG aW] H → wD A [bMod G x xs xb xm xf xu xg xw kn bl ft vh vm vs ln th sp pl wr br aS aB aM aO aU aG aW] → va_S A s.heap H locs → W p l e rmX9_setAlphabet_1 s m args below meth c H locs 0 0 Q (F0 m 0 ls []) := by
    intro H locs hP hD hS
    refine lv_aload_n hx hb dX9_setAlphabet_0 rfl (lv_at hl 0 rfl) ?_
    refine jv_iconst hx hb dX9_setAlphabet_1 ?_
    refine va_put (ci := 9) (v := .int (jz 0)) (ty := .int) (C := RX9) (T := TX9) (N := 19) hx hb hts wfX9 tyX9 tyX9_ok nmX9 hown hK.1 hP hD hS 0 rfl rfl 12 (by decide) (hts _ wm822) (fun _ h9 => h9) rfl (by decide +kernel) rfl rfl (Nat.le_of_ble_eq_true rfl) dX9_setAlphabet_2 (fun H locs hP hD hS => ?_)
    have hP : wP G [bMod G x xs xb xm xf xu xg xw kn bl ft vh vm vs ln 0 sp pl wr br aS aB aM aO aU aG aW] H := hP
    have hD : wD A [bMod G x xs xb xm xf xu xg xw kn bl ft vh vm vs ln 0 sp pl wr br aS aB aM aO aU aG aW] := hD
    refine lv_iload_n hx hb dX9_setAlphabet_5 rfl (lv_at hl 1 rfl) ?_
    refine jv_iconst hx hb dX9_setAlphabet_6 ?_
    refine jv_iconst hx hb dX9_setAlphabet_7 ?_
    refine kS ⟨hx, hb, hml, hown, hts⟩ hK hA hS hP hD [.int (jz z), .int (jz 2), .int (jz 4)] [] (mX9_in_F l G z 2 4 (by omega) (by omega) (by omega) (by omega)) lkX9_42 [] [0] (br := [bMod G x xs xb xm xf xu xg xw kn bl ft vh vm vs ln 0 sp pl wr br aS aB aM aO aU aG aW]) rfl rfl (by decide) rfl rfl (Nat.le_of_ble_eq_true rfl) hl.1 dX9_setAlphabet_8 ⟨Nat.le_of_ble_eq_true rfl, Nat.le_of_ble_eq_true rfl⟩ ⟨Nat.le_of_ble_eq_true rfl, Nat.le_of_ble_eq_true rfl⟩ (fun u9 H locs hp9 hP hD hS => ?_)
    have hP : wP G [bMod G x xs xb xm xf xu xg xw kn bl ft vh vm vs ln 0 sp pl wr br aS aB aM aO aU aG aW] H := hP
    have hD : wD A [bMod G x xs xb xm xf xu xg xw kn bl ft vh vm vs ln 0 sp pl wr br aS aB aM aO aU aG aW] := hD
    show W p l e rmX9_setAlphabet_1 s m args below meth c H locs 0 0 Q (F0 m 11 ls [.int (jz 0)])
    refine jv_if_ne (tgt := 20) hx hb dX9_setAlphabet_11 (by decide) (by omega) (fun c_2 => ?_) (fun c_2 => ?_)
    · exfalso; omega
    · refine lv_aload_n hx hb dX9_setAlphabet_14 rfl (lv_at hl 0 rfl) ?_
      refine jv_iconst hx hb dX9_setAlphabet_15 ?_
      refine kV ⟨hx, hb, hml, hown, hts⟩ hK hA hS hP hD [.int (jz 1)] [] (mX9_throwing l G x xs xb xm xf xu xg xw kn bl ft vh vm vs ln 0 sp pl wr br aS aB aM aO aU aG aW 1 ) lkX9_98 [0] [] (br := []) rfl rfl (by decide) 0 9 rfl rfl rfl rfl (Nat.le_of_ble_eq_true rfl) hl.1 dX9_setAlphabet_16 ⟨Nat.le_of_ble_eq_true rfl, Nat.le_of_ble_eq_true rfl⟩ ⟨Nat.le_of_ble_eq_true rfl, Nat.le_of_ble_eq_true rfl⟩ (fun u9 H locs hp9 hP hD hS => ?_)
      have hP : wP G [bMod G x xs xb xm xf xu xg xw kn bl ft vh vm vs ln 1 sp pl wr br aS aB aM aO aU aG aW] H := hP
      have hD : wD A [bMod G x xs xb xm xf xu xg xw kn bl ft vh vm vs ln 1 sp pl wr br aS aB aM aO aU aG aW] := hD
      show W p l e rmX9_setAlphabet_1 s m args below meth c H locs 0 0 Q (F0 m 19 ls [.int (jz 0)])
      exact cret_i hx hb hr hlocks hS hP hD (Nat.le_of_ble_eq_true rfl) (Nat.le_of_ble_eq_true rfl) rfl dX9_setAlphabet_19 [0] (by decide) () rfl trivial (congrArg (fun z : Int => some (Value.int (jz z))) (show 0 = 0 from by first | rfl | omega | (split <;> first | rfl | omega | (exfalso; omega)))) hQ
  exact KH s.heap [] hP hD hS
abbrev rmX9_setAlphabet : Room := { frames := 1, cells := 0, slots := 0, locals := 22 }
set_option maxHeartbeats 4000000 in
set_option maxRecDepth 100000 in
theorem mX9_setAlphabet (l : Launch) (G : GG) (x : Nat) (xs : Nat) (xb : Nat) (xm : Nat) (xf : Nat) (xu : Nat) (xg : Nat) (xw : Nat) (kn : Int) (bl : Int) (ft : Int) (vh : Int) (vm : Int) (vs : Int) (ln : Int) (th : Int) (sp : Int) (pl : Int) (wr : Int) (br : Int) (aS : Int → Int) (aB : Int → Int) (aM : Int → Int) (aO : Int → Int) (aU : Int → Int) (aG : Int → Int) (aW : Int → Int) (z : Int) (hs0 : 0 ≤ aS 0 ∧ aS 0 ≤ 20) (hs1 : 0 ≤ aS 1 ∧ aS 1 ≤ 20) (hg0 : ∀ j : Int, 0 ≤ j → j < aS 0 → 0 ≤ T9 aS 0 j ∧ T9 aS 0 j < 4) (hg1 : ∀ j : Int, 0 ≤ j → j < aS 1 → 0 ≤ T9 aS 1 j ∧ T9 aS 1 j < 4) (hkn : 0 ≤ kn ∧ kn ≤ 6) (hz : 2 ≤ z ∧ z ≤ 4) (hkeep : (∀ j : Int, 0 ≤ j → j < aS 0 → T9 aS 0 j < z) ∧ (∀ j : Int, 0 ≤ j → j < aS 1 → T9 aS 1 j < z)) : Ct l yX9_setAlphabet cX9_setAlphabet 3 (some .int) rmX9_setAlphabet G [.ref x, .int (jz z)] [bMod G x xs xb xm xf xu xg xw kn bl ft vh vm vs ln th sp pl wr br aS aB aM aO aU aG aW] (fun uo : Int × (Int → Int) => some (.int (jz (aS 2)))) (fun uo => ((uo.1 = min (kn + 1) 6) ∧ (∀ k : Int, 0 ≤ k → k < 43 * (uo.1 - 1) → uo.2 k = aB (k + 43 * (kn + 1 - uo.1))) ∧ (∀ k : Int, 0 ≤ k → k < 43 → uo.2 (43 * (uo.1 - 1) + k) = aS k))) (fun uo => [bMod G x xs xb xm xf xu xg xw uo.1 bl ft vh vm vs ln 0 sp pl wr br ((up aS 2 z)) uo.2 aM aO aU aG aW]) := by
  refine cof (by decide) (Nat.le_of_ble_eq_true rfl) ?_
  intro p e s m args below meth c A ls hx hb hr hml hown hts hlocks hin hA hK hP hD hS hl Q hQ
  have hown : s.vm.findClass RX9 = some m.cls := hown
  have hl : lv_has ls 3 [(0, .ref x), (1, .int (jz z))] := hl
  have KH : ∀ (H : Heap) (locs : List Loc), wP G [bMod G x xs xb xm xf xu xg xw kn bl ft vh vm vs ln th sp pl wr br aS aB aM aO aU aG aW] H → wD A [bMod G x xs xb xm xf xu xg xw kn bl ft vh vm vs ln th sp pl wr br aS aB aM aO aU aG aW] → va_S A s.heap H locs → W p l e rmX9_setAlphabet s m args below meth c H locs 0 0 Q (F0 m 0 ls []) := by
    intro H locs hP hD hS
    refine lv_aload_n hx hb dX9_setAlphabet_0 rfl (lv_at hl 0 rfl) ?_
    refine jv_iconst hx hb dX9_setAlphabet_1 ?_
    refine va_put (ci := 9) (v := .int (jz 0)) (ty := .int) (C := RX9) (T := TX9) (N := 19) hx hb hts wfX9 tyX9 tyX9_ok nmX9 hown hK.1 hP hD hS 0 rfl rfl 12 (by decide) (hts _ wm822) (fun _ h9 => h9) rfl (by decide +kernel) rfl rfl (Nat.le_of_ble_eq_true rfl) dX9_setAlphabet_2 (fun H locs hP hD hS => ?_)
    have hP : wP G [bMod G x xs xb xm xf xu xg xw kn bl ft vh vm vs ln 0 sp pl wr br aS aB aM aO aU aG aW] H := hP
    have hD : wD A [bMod G x xs xb xm xf xu xg xw kn bl ft vh vm vs ln 0 sp pl wr br aS aB aM aO aU aG aW] := hD
    refine lv_iload_n hx hb dX9_setAlphabet_5 rfl (lv_at hl 1 rfl) ?_
    refine jv_iconst hx hb dX9_setAlphabet_6 ?_
    refine jv_iconst hx hb dX9_setAlphabet_7 ?_
    refine kS ⟨hx, hb, hml, hown, hts⟩ hK hA hS hP hD [.int (jz z), .int (jz 2), .int (jz 4)] [] (mX9_in_T l G z 2 4 (by omega) (by omega) (by omega) (by omega)) lkX9_42 [] [0] (br := [bMod G x xs xb xm xf xu xg xw kn bl ft vh vm vs ln 0 sp pl wr br aS aB aM aO aU aG aW]) rfl rfl (by decide) rfl rfl (Nat.le_of_ble_eq_true rfl) hl.1 dX9_setAlphabet_8 ⟨Nat.le_of_ble_eq_true rfl, Nat.le_of_ble_eq_true rfl⟩ ⟨Nat.le_of_ble_eq_true rfl, Nat.le_of_ble_eq_true rfl⟩ (fun u9 H locs hp9 hP hD hS => ?_)
    have hP : wP G [bMod G x xs xb xm xf xu xg xw kn bl ft vh vm vs ln 0 sp pl wr br aS aB aM aO aU aG aW] H := hP
    have hD : wD A [bMod G x xs xb xm xf xu xg xw kn bl ft vh vm vs ln 0 sp pl wr br aS aB aM aO aU aG aW] := hD
    show W p l e rmX9_setAlphabet s m args below meth c H locs 0 0 Q (F0 m 11 ls [.int (jz 1)])
    refine jv_if_ne (tgt := 20) hx hb dX9_setAlphabet_11 (by decide) (by omega) (fun c_2 => ?_) (fun c_2 => ?_)
    · refine jv_iconst hx hb dX9_setAlphabet_20 ?_
      refine lv_istore_n (lv' := [(2, .int (jz 0)), (0, .ref x), (1, .int (jz z))]) hx hb dX9_setAlphabet_21 rfl hl (by decide) rfl (fun ls hl => ?_)
      have K22 : ∀ (n9 : Nat) (k : Int) , (((40 : Int) - k).toNat) < n9 → (0 ≤ k ∧ k ≤ 40) → ∀ (H : Heap) (locs : List Loc) (ls : Array Slot), wP G [bMod G x xs xb xm xf xu xg xw kn bl ft vh vm vs ln 0 sp pl wr br aS aB aM aO aU aG aW] H → wD A [bMod G x xs xb xm xf xu xg xw kn bl ft vh vm vs ln 0 sp pl wr br aS aB aM aO aU aG aW] → va_S A s.heap H locs → lv_has ls 3 [(0, .ref x), (1, .int (jz z)), (2, .int (jz k))] → W p l e rmX9_setAlphabet s m args below meth c H locs 0 0 Q (F0 m 22 ls []) := by
        intro n9
        induction n9 with
        | zero => intro k hm9; exact absurd hm9 (Nat.not_lt_zero _)
        | succ n9 ih22 =>
          intro k hm9 hk H locs ls hP hD hS hl
          refine lv_iload_n hx hb dX9_setAlphabet_22 rfl (lv_at hl 2 rfl) ?_
          refine jv_bipush hx hb dX9_setAlphabet_23 (by decide) ?_
          refine jv_icmp_ge (tgt := 68) hx hb dX9_setAlphabet_25 (by decide) (by omega) (by omega) (fun c_3 => ?_) (fun c_3 => ?_)
          · refine lv_aload_n hx hb dX9_setAlphabet_68 rfl (lv_at hl 0 rfl) ?_
            refine kV ⟨hx, hb, hml, hown, hts⟩ hK hA hS hP hD [] [] (mX9_save l G x xs xb xm xf xu xg xw kn bl ft vh vm vs ln 0 sp pl wr br aS aB aM aO aU aG aW (by omega)) lkX9_106 [0] [] (br := []) rfl rfl (by decide) 0 9 rfl rfl rfl rfl (Nat.le_of_ble_eq_true rfl) hl.1 dX9_setAlphabet_69 ⟨Nat.le_of_ble_eq_true rfl, Nat.le_of_ble_eq_true rfl⟩ ⟨Nat.le_of_ble_eq_true rfl, Nat.le_of_ble_eq_true rfl⟩ (fun u9 H locs hp9 hP hD hS => ?_)
            obtain ⟨u_4, u_5⟩ := u9
            have hc_6 : u_4 = min (kn + 1) 6 := hp9.1
            have hd_7 : ∀ k : Int, 0 ≤ k → k < 43 * (u_4 - 1) → u_5 k = aB (k + 43 * (kn + 1 - u_4)) := hp9.2.1
            have hf_8 : ∀ k : Int, 0 ≤ k → k < 43 → u_5 (43 * (u_4 - 1) + k) = aS k := hp9.2.2
            have hP : wP G [bMod G x xs xb xm xf xu xg xw u_4 bl ft vh vm vs ln 0 sp pl wr br aS u_5 aM aO aU aG aW] H := hP
            have hD : wD A [bMod G x xs xb xm xf xu xg xw u_4 bl ft vh vm vs ln 0 sp pl wr br aS u_5 aM aO aU aG aW] := hD
            show W p l e rmX9_setAlphabet s m args below meth c H locs 0 0 Q (F0 m 72 ls [])
            have hsvp := And.intro hc_6 (And.intro hd_7 hf_8)
            refine lv_aload_n hx hb dX9_setAlphabet_72 rfl (lv_at hl 0 rfl) ?_
            refine va_get (ci := 9) (v := .ref xs) (C := RX9) (T := TX9) (N := 19) hx hb hts wfX9 hown hK.1 hP 0 rfl rfl 0 (by decide) (hts _ wm810) (fun _ h9 => h9) rfl dX9_setAlphabet_73 ?_
            refine jv_iconst hx hb dX9_setAlphabet_76 ?_
            refine jv_iald hx hb hK.1 hP 1 (g := aS) rfl (by omega) (by omega) (by decide) dX9_setAlphabet_77 ?_
            refine lv_istore_n (lv' := [(2, .int (jz (aS 2))), (0, .ref x), (1, .int (jz z))]) hx hb dX9_setAlphabet_78 rfl hl (by decide) rfl (fun ls hl => ?_)
            refine lv_aload_n hx hb dX9_setAlphabet_79 rfl (lv_at hl 1 rfl) ?_
            refine va_get (ci := 9) (v := .ref xs) (C := RX9) (T := TX9) (N := 19) hx hb hts wfX9 hown hK.1 hP 0 rfl rfl 0 (by decide) (hts _ wm810) (fun _ h9 => h9) rfl dX9_setAlphabet_80 ?_
            refine jv_iconst hx hb dX9_setAlphabet_83 ?_
            refine lv_iload_n hx hb dX9_setAlphabet_84 rfl (lv_at hl 2 rfl) ?_
            refine jv_iast hx hb hK.1 hP hD hS 1 (g := aS) rfl (by omega) (by omega) (by decide) dX9_setAlphabet_85 (fun H locs hP hD hS => ?_)
            have hP : wP G [bMod G x xs xb xm xf xu xg xw u_4 bl ft vh vm vs ln 0 sp pl wr br (up aS 2 z) u_5 aM aO aU aG aW] H := hP
            have hD : wD A [bMod G x xs xb xm xf xu xg xw u_4 bl ft vh vm vs ln 0 sp pl wr br (up aS 2 z) u_5 aM aO aU aG aW] := hD
            refine lv_iload_n hx hb dX9_setAlphabet_86 rfl (lv_at hl 0 rfl) ?_
            exact cret_i hx hb hr hlocks hS hP hD (Nat.le_of_ble_eq_true rfl) (Nat.le_of_ble_eq_true rfl) rfl dX9_setAlphabet_87 [0] (by decide) ⟨u_4, u_5⟩ rfl (show (u_4 = min (kn + 1) 6) ∧ (∀ k : Int, 0 ≤ k → k < 43 * (u_4 - 1) → u_5 k = aB (k + 43 * (kn + 1 - u_4))) ∧ (∀ k : Int, 0 ≤ k → k < 43 → u_5 (43 * (u_4 - 1) + k) = aS k) from by exact hsvp) (congrArg (fun z : Int => some (Value.int (jz z))) (show (aS 2) = aS 2 from by first | rfl | omega | (split <;> first | rfl | omega | (exfalso; omega)))) hQ
          · by_cases e9 : k < 20
            · skip
              refine lv_iload_n hx hb dX9_setAlphabet_28 rfl (lv_at hl 2 rfl) ?_
              refine jv_bipush hx hb dX9_setAlphabet_29 (by decide) ?_
              refine jv_irem hx hb dX9_setAlphabet_31 (by omega) (by omega) (by omega) (by omega) ?_
              refine jv_to (z' := k) (by omega) ?_
              refine lv_aload_n hx hb dX9_setAlphabet_32 rfl (lv_at hl 0 rfl) ?_
              refine va_get (ci := 9) (v := .ref xs) (C := RX9) (T := TX9) (N := 19) hx hb hts wfX9 hown hK.1 hP 0 rfl rfl 0 (by decide) (hts _ wm810) (fun _ h9 => h9) rfl dX9_setAlphabet_33 ?_
              refine lv_iload_n hx hb dX9_setAlphabet_36 rfl (lv_at hl 2 rfl) ?_
              refine jv_bipush hx hb dX9_setAlphabet_37 (by decide) ?_
              refine jv_idiv hx hb dX9_setAlphabet_39 (by omega) (by omega) (by omega) (by omega) ?_
              refine jv_to (z' := 0) (by omega) ?_
              refine jv_iald hx hb hK.1 hP 1 (g := aS) rfl (by omega) (by omega) (by decide) dX9_setAlphabet_40 ?_
              refine jv_icmp_ge (tgt := 62) hx hb dX9_setAlphabet_41 (by decide) (by omega) (by omega) (fun c_9 => ?_) (fun c_9 => ?_)
              · refine jv_iinc (lv' := [(2, .int (jz (k + 1))), (0, .ref x), (1, .int (jz z))]) (k := 2) hx hb dX9_setAlphabet_62 hl rfl (by decide) rfl (fun ls hl => ?_)
                refine lv_goto (tgt := 22) hx hb dX9_setAlphabet_65 (by decide) ?_
                exact ih22 (k + 1) (by omega) (by omega) H _ _ hP hD hS (lv_sub hl [1, 2, 0] rfl)
              · refine lv_aload_n hx hb dX9_setAlphabet_44 rfl (lv_at hl 0 rfl) ?_
                refine va_get (ci := 9) (v := .ref xs) (C := RX9) (T := TX9) (N := 19) hx hb hts wfX9 hown hK.1 hP 0 rfl rfl 0 (by decide) (hts _ wm810) (fun _ h9 => h9) rfl dX9_setAlphabet_45 ?_
                refine jv_iconst hx hb dX9_setAlphabet_48 ?_
                refine lv_iload_n hx hb dX9_setAlphabet_49 rfl (lv_at hl 2 rfl) ?_
                refine jv_iadd hx hb dX9_setAlphabet_50 ?_
                refine jv_iald hx hb hK.1 hP 1 (g := aS) rfl (by omega) (by omega) (by decide) dX9_setAlphabet_51 ?_
                have la : 0 ≤ aS (3 + k) ∧ aS (3 + k) < 4 := by rw [(show (3 : Int) + k = 3 + 20 * 0 + k by omega)]; exact hg0 k (by omega) (by omega)
                have lb : aS (3 + k) < z := by rw [(show (3 : Int) + k = 3 + 20 * 0 + k by omega)]; exact hkeep.1 k (by omega) (by omega)
                refine lv_iload_n hx hb dX9_setAlphabet_52 rfl (lv_at hl 1 rfl) ?_
                refine jv_icmp_lt (tgt := 62) hx hb dX9_setAlphabet_53 (by decide) (by omega) (by omega) (fun c_10 => ?_) (fun c_10 => ?_)
                · refine jv_iinc (lv' := [(2, .int (jz (k + 1))), (0, .ref x), (1, .int (jz z))]) (k := 2) hx hb dX9_setAlphabet_62 hl rfl (by decide) rfl (fun ls hl => ?_)
                  refine lv_goto (tgt := 22) hx hb dX9_setAlphabet_65 (by decide) ?_
                  exact ih22 (k + 1) (by omega) (by omega) H _ _ hP hD hS (lv_sub hl [1, 2, 0] rfl)
                · exfalso; omega
            · skip
              refine lv_iload_n hx hb dX9_setAlphabet_28 rfl (lv_at hl 2 rfl) ?_
              refine jv_bipush hx hb dX9_setAlphabet_29 (by decide) ?_
              refine jv_irem hx hb dX9_setAlphabet_31 (by omega) (by omega) (by omega) (by omega) ?_
              refine jv_to (z' := k - 20) (by omega) ?_
              refine lv_aload_n hx hb dX9_setAlphabet_32 rfl (lv_at hl 0 rfl) ?_
              refine va_get (ci := 9) (v := .ref xs) (C := RX9) (T := TX9) (N := 19) hx hb hts wfX9 hown hK.1 hP 0 rfl rfl 0 (by decide) (hts _ wm810) (fun _ h9 => h9) rfl dX9_setAlphabet_33 ?_
              refine lv_iload_n hx hb dX9_setAlphabet_36 rfl (lv_at hl 2 rfl) ?_
              refine jv_bipush hx hb dX9_setAlphabet_37 (by decide) ?_
              refine jv_idiv hx hb dX9_setAlphabet_39 (by omega) (by omega) (by omega) (by omega) ?_
              refine jv_to (z' := 1) (by omega) ?_
              refine jv_iald hx hb hK.1 hP 1 (g := aS) rfl (by omega) (by omega) (by decide) dX9_setAlphabet_40 ?_
              refine jv_icmp_ge (tgt := 62) hx hb dX9_setAlphabet_41 (by decide) (by omega) (by omega) (fun c_11 => ?_) (fun c_11 => ?_)
              · refine jv_iinc (lv' := [(2, .int (jz (k + 1))), (0, .ref x), (1, .int (jz z))]) (k := 2) hx hb dX9_setAlphabet_62 hl rfl (by decide) rfl (fun ls hl => ?_)
                refine lv_goto (tgt := 22) hx hb dX9_setAlphabet_65 (by decide) ?_
                exact ih22 (k + 1) (by omega) (by omega) H _ _ hP hD hS (lv_sub hl [1, 2, 0] rfl)
              · refine lv_aload_n hx hb dX9_setAlphabet_44 rfl (lv_at hl 0 rfl) ?_
                refine va_get (ci := 9) (v := .ref xs) (C := RX9) (T := TX9) (N := 19) hx hb hts wfX9 hown hK.1 hP 0 rfl rfl 0 (by decide) (hts _ wm810) (fun _ h9 => h9) rfl dX9_setAlphabet_45 ?_
                refine jv_iconst hx hb dX9_setAlphabet_48 ?_
                refine lv_iload_n hx hb dX9_setAlphabet_49 rfl (lv_at hl 2 rfl) ?_
                refine jv_iadd hx hb dX9_setAlphabet_50 ?_
                refine jv_iald hx hb hK.1 hP 1 (g := aS) rfl (by omega) (by omega) (by decide) dX9_setAlphabet_51 ?_
                have la : 0 ≤ aS (3 + k) ∧ aS (3 + k) < 4 := by rw [(show (3 : Int) + k = 3 + 20 * 1 + (k - 20) by omega)]; exact hg1 (k - 20) (by omega) (by omega)
                have lb : aS (3 + k) < z := by rw [(show (3 : Int) + k = 3 + 20 * 1 + (k - 20) by omega)]; exact hkeep.2 (k - 20) (by omega) (by omega)
                refine lv_iload_n hx hb dX9_setAlphabet_52 rfl (lv_at hl 1 rfl) ?_
                refine jv_icmp_lt (tgt := 62) hx hb dX9_setAlphabet_53 (by decide) (by omega) (by omega) (fun c_12 => ?_) (fun c_12 => ?_)
                · refine jv_iinc (lv' := [(2, .int (jz (k + 1))), (0, .ref x), (1, .int (jz z))]) (k := 2) hx hb dX9_setAlphabet_62 hl rfl (by decide) rfl (fun ls hl => ?_)
                  refine lv_goto (tgt := 22) hx hb dX9_setAlphabet_65 (by decide) ?_
                  exact ih22 (k + 1) (by omega) (by omega) H _ _ hP hD hS (lv_sub hl [1, 2, 0] rfl)
                · exfalso; omega
      exact K22 ((((40 : Int) - 0).toNat) + 1) 0 (Nat.lt_succ_self _) (by omega) H _ _ hP hD hS (lv_sub hl [1, 2, 0] rfl)
    · exfalso; omega
  exact KH s.heap [] hP hD hS
abbrev rmX9_setAlphabet_2 : Room := { frames := 1, cells := 0, slots := 0, locals := 22 }
set_option maxHeartbeats 4000000 in
set_option maxRecDepth 100000 in
theorem mX9_setAlphabet_2 (l : Launch) (G : GG) (x : Nat) (xs : Nat) (xb : Nat) (xm : Nat) (xf : Nat) (xu : Nat) (xg : Nat) (xw : Nat) (kn : Int) (bl : Int) (ft : Int) (vh : Int) (vm : Int) (vs : Int) (ln : Int) (th : Int) (sp : Int) (pl : Int) (wr : Int) (br : Int) (aS : Int → Int) (aB : Int → Int) (aM : Int → Int) (aO : Int → Int) (aU : Int → Int) (aG : Int → Int) (aW : Int → Int) (z : Int) (hs0 : 0 ≤ aS 0 ∧ aS 0 ≤ 20) (hs1 : 0 ≤ aS 1 ∧ aS 1 ≤ 20) (hg0 : ∀ j : Int, 0 ≤ j → j < aS 0 → 0 ≤ T9 aS 0 j ∧ T9 aS 0 j < 4) (hg1 : ∀ j : Int, 0 ≤ j → j < aS 1 → 0 ≤ T9 aS 1 j ∧ T9 aS 1 j < 4) (hz : 2 ≤ z ∧ z ≤ 4) (hbad : ¬ ((∀ j : Int, 0 ≤ j → j < aS 0 → T9 aS 0 j < z) ∧ (∀ j : Int, 0 ≤ j → j < aS 1 → T9 aS 1 j < z))) : Ct l yX9_setAlphabet cX9_setAlphabet 3 (some .int) rmX9_setAlphabet_2 G [.ref x, .int (jz z)] [bMod G x xs xb xm xf xu xg xw kn bl ft vh vm vs ln th sp pl wr br aS aB aM aO aU aG aW] (fun uo : Unit => some (.int (jz 0))) (fun uo => True) (fun uo => [bMod G x xs xb xm xf xu xg xw kn bl ft vh vm vs ln 2 sp pl wr br aS aB aM aO aU aG aW]) := by
  refine cof (by decide) (Nat.le_of_ble_eq_true rfl) ?_
  intro p e s m args below meth c A ls hx hb hr hml hown hts hlocks hin hA hK hP hD hS hl Q hQ
  have hown : s.vm.findClass RX9 = some m.cls := hown
  have hl : lv_has ls 3 [(0, .ref x), (1, .int (jz z))] := hl
  have KH : ∀ (H : Heap) (locs : List Loc), wP G [bMod G x xs xb xm xf xu xg xw kn bl ft vh vm vs ln th sp pl wr br aS aB aM aO aU aG aW] H → wD A [bMod G x xs xb xm xf xu xg xw kn bl ft vh vm vs ln th sp pl wr br aS aB aM aO aU aG aW] → va_S A s.heap H locs → W p l e rmX9_setAlphabet_2 s m args below meth c H locs 0 0 Q (F0 m 0 ls []) := by
    intro H locs hP hD hS
    refine lv_aload_n hx hb dX9_setAlphabet_0 rfl (lv_at hl 0 rfl) ?_
    refine jv_iconst hx hb dX9_setAlphabet_1 ?_
    refine va_put (ci := 9) (v := .int (jz 0)) (ty := .int) (C := RX9) (T := TX9) (N := 19) hx hb hts wfX9 tyX9 tyX9_ok nmX9 hown hK.1 hP hD hS 0 rfl rfl 12 (by decide) (hts _ wm822) (fun _ h9 => h9) rfl (by decide +kernel) rfl rfl (Nat.le_of_ble_eq_true rfl) dX9_setAlphabet_2 (fun H locs hP hD hS => ?_)
    have hP : wP G [bMod G x xs xb xm xf xu xg xw kn bl ft vh vm vs ln 0 sp pl wr br aS aB aM aO aU aG aW] H := hP
    have hD : wD A [bMod G x xs xb xm xf xu xg xw kn bl ft vh vm vs ln 0 sp pl wr br aS aB aM aO aU aG aW] := hD
    refine lv_iload_n hx hb dX9_setAlphabet_5 rfl (lv_at hl 1 rfl) ?_
    refine jv_iconst hx hb dX9_setAlphabet_6 ?_
    refine jv_iconst hx hb dX9_setAlphabet_7 ?_
    refine kS ⟨hx, hb, hml, hown, hts⟩ hK hA hS hP hD [.int (jz z), .int (jz 2), .int (jz 4)] [] (mX9_in_T l G z 2 4 (by omega) (by omega) (by omega) (by omega)) lkX9_42 [] [0] (br := [bMod G x xs xb xm xf xu xg xw kn bl ft vh vm vs ln 0 sp pl wr br aS aB aM aO aU aG aW]) rfl rfl (by decide) rfl rfl (Nat.le_of_ble_eq_true rfl) hl.1 dX9_setAlphabet_8 ⟨Nat.le_of_ble_eq_true rfl, Nat.le_of_ble_eq_true rfl⟩ ⟨Nat.le_of_ble_eq_true rfl, Nat.le_of_ble_eq_true rfl⟩ (fun u9 H locs hp9 hP hD hS => ?_)
    have hP : wP G [bMod G x xs xb xm xf xu xg xw kn bl ft vh vm vs ln 0 sp pl wr br aS aB aM aO aU aG aW] H := hP
    have hD : wD A [bMod G x xs xb xm xf xu xg xw kn bl ft vh vm vs ln 0 sp pl wr br aS aB aM aO aU aG aW] := hD
    show W p l e rmX9_setAlphabet_2 s m args below meth c H locs 0 0 Q (F0 m 11 ls [.int (jz 1)])
    refine jv_if_ne (tgt := 20) hx hb dX9_setAlphabet_11 (by decide) (by omega) (fun c_2 => ?_) (fun c_2 => ?_)
    · refine jv_iconst hx hb dX9_setAlphabet_20 ?_
      refine lv_istore_n (lv' := [(2, .int (jz 0)), (0, .ref x), (1, .int (jz z))]) hx hb dX9_setAlphabet_21 rfl hl (by decide) rfl (fun ls hl => ?_)
      have K22 : ∀ (n9 : Nat) (k : Int) , (((40 : Int) - k).toNat) < n9 → (0 ≤ k ∧ k ≤ 40) → (∀ q : Int, 0 ≤ q → q < k → (q < 20 → q < aS 0 → aS (3 + q) < z) ∧ (20 ≤ q → q - 20 < aS 1 → aS (3 + q) < z)) → ∀ (H : Heap) (locs : List Loc) (ls : Array Slot), wP G [bMod G x xs xb xm xf xu xg xw kn bl ft vh vm vs ln 0 sp pl wr br aS aB aM aO aU aG aW] H → wD A [bMod G x xs xb xm xf xu xg xw kn bl ft vh vm vs ln 0 sp pl wr br aS aB aM aO aU aG aW] → va_S A s.heap H locs → lv_has ls 3 [(0, .ref x), (1, .int (jz z)), (2, .int (jz k))] → W p l e rmX9_setAlphabet_2 s m args below meth c H locs 0 0 Q (F0 m 22 ls []) := by
        intro n9
        induction n9 with
        | zero => intro k hm9; exact absurd hm9 (Nat.not_lt_zero _)
        | succ n9 ih22 =>
          intro k hm9 hk hs H locs ls hP hD hS hl
          refine lv_iload_n hx hb dX9_setAlphabet_22 rfl (lv_at hl 2 rfl) ?_
          refine jv_bipush hx hb dX9_setAlphabet_23 (by decide) ?_
          refine jv_icmp_ge (tgt := 68) hx hb dX9_setAlphabet_25 (by decide) (by omega) (by omega) (fun c_3 => ?_) (fun c_3 => ?_)
          · exact absurd ⟨fun j q1 q2 => (by show aS (3 + 20 * 0 + j) < z; rw [show (3 : Int) + 20 * 0 + j = 3 + j by omega]; exact (hs j q1 (by omega)).1 (by omega) q2), fun j q1 q2 => (by show aS (3 + 20 * 1 + j) < z; rw [show (3 : Int) + 20 * 1 + j = 3 + (j + 20) by omega]; exact (hs (j + 20) (by omega) (by omega)).2 (by omega) (by omega))⟩ hbad
          · by_cases e9 : k < 20
            · skip
              refine lv_iload_n hx hb dX9_setAlphabet_28 rfl (lv_at hl 2 rfl) ?_
              refine jv_bipush hx hb dX9_setAlphabet_29 (by decide) ?_
              refine jv_irem hx hb dX9_setAlphabet_31 (by omega) (by omega) (by omega) (by omega) ?_
              refine jv_to (z' := k) (by omega) ?_
              refine lv_aload_n hx hb dX9_setAlphabet_32 rfl (lv_at hl 0 rfl) ?_
              refine va_get (ci := 9) (v := .ref xs) (C := RX9) (T := TX9) (N := 19) hx hb hts wfX9 hown hK.1 hP 0 rfl rfl 0 (by decide) (hts _ wm810) (fun _ h9 => h9) rfl dX9_setAlphabet_33 ?_
              refine lv_iload_n hx hb dX9_setAlphabet_36 rfl (lv_at hl 2 rfl) ?_
              refine jv_bipush hx hb dX9_setAlphabet_37 (by decide) ?_
              refine jv_idiv hx hb dX9_setAlphabet_39 (by omega) (by omega) (by omega) (by omega) ?_
              refine jv_to (z' := 0) (by omega) ?_
              refine jv_iald hx hb hK.1 hP 1 (g := aS) rfl (by omega) (by omega) (by decide) dX9_setAlphabet_40 ?_
              refine jv_icmp_ge (tgt := 62) hx hb dX9_setAlphabet_41 (by decide) (by omega) (by omega) (fun c_4 => ?_) (fun c_4 => ?_)
              · refine jv_iinc (lv' := [(2, .int (jz (k + 1))), (0, .ref x), (1, .int (jz z))]) (k := 2) hx hb dX9_setAlphabet_62 hl rfl (by decide) rfl (fun ls hl => ?_)
                refine lv_goto (tgt := 22) hx hb dX9_setAlphabet_65 (by decide) ?_
                exact ih22 (k + 1) (by omega) (by omega) (by intro q h1 h2; rcases (show q = k ∨ q < k by omega) with e8 | e8; (rw [e8]; exact ⟨fun _ _ => by omega, fun _ _ => by omega⟩); exact hs q h1 e8) H _ _ hP hD hS (lv_sub hl [1, 2, 0] rfl)
              · refine lv_aload_n hx hb dX9_setAlphabet_44 rfl (lv_at hl 0 rfl) ?_
                refine va_get (ci := 9) (v := .ref xs) (C := RX9) (T := TX9) (N := 19) hx hb hts wfX9 hown hK.1 hP 0 rfl rfl 0 (by decide) (hts _ wm810) (fun _ h9 => h9) rfl dX9_setAlphabet_45 ?_
                refine jv_iconst hx hb dX9_setAlphabet_48 ?_
                refine lv_iload_n hx hb dX9_setAlphabet_49 rfl (lv_at hl 2 rfl) ?_
                refine jv_iadd hx hb dX9_setAlphabet_50 ?_
                refine jv_iald hx hb hK.1 hP 1 (g := aS) rfl (by omega) (by omega) (by decide) dX9_setAlphabet_51 ?_
                have la : 0 ≤ aS (3 + k) ∧ aS (3 + k) < 4 := by rw [(show (3 : Int) + k = 3 + 20 * 0 + k by omega)]; exact hg0 k (by omega) (by omega)
                refine lv_iload_n hx hb dX9_setAlphabet_52 rfl (lv_at hl 1 rfl) ?_
                refine jv_icmp_lt (tgt := 62) hx hb dX9_setAlphabet_53 (by decide) (by omega) (by omega) (fun c_5 => ?_) (fun c_5 => ?_)
                · refine jv_iinc (lv' := [(2, .int (jz (k + 1))), (0, .ref x), (1, .int (jz z))]) (k := 2) hx hb dX9_setAlphabet_62 hl rfl (by decide) rfl (fun ls hl => ?_)
                  refine lv_goto (tgt := 22) hx hb dX9_setAlphabet_65 (by decide) ?_
                  exact ih22 (k + 1) (by omega) (by omega) (by intro q h1 h2; rcases (show q = k ∨ q < k by omega) with e8 | e8; (rw [e8]; exact ⟨fun _ _ => by omega, fun _ _ => by omega⟩); exact hs q h1 e8) H _ _ hP hD hS (lv_sub hl [1, 2, 0] rfl)
                · refine lv_aload_n hx hb dX9_setAlphabet_56 rfl (lv_at hl 0 rfl) ?_
                  refine jv_iconst hx hb dX9_setAlphabet_57 ?_
                  refine kV ⟨hx, hb, hml, hown, hts⟩ hK hA hS hP hD [.int (jz 2)] [] (mX9_throwing l G x xs xb xm xf xu xg xw kn bl ft vh vm vs ln 0 sp pl wr br aS aB aM aO aU aG aW 2 ) lkX9_98 [0] [] (br := []) rfl rfl (by decide) 0 9 rfl rfl rfl rfl (Nat.le_of_ble_eq_true rfl) hl.1 dX9_setAlphabet_58 ⟨Nat.le_of_ble_eq_true rfl, Nat.le_of_ble_eq_true rfl⟩ ⟨Nat.le_of_ble_eq_true rfl, Nat.le_of_ble_eq_true rfl⟩ (fun u9 H locs hp9 hP hD hS => ?_)
                  have hP : wP G [bMod G x xs xb xm xf xu xg xw kn bl ft vh vm vs ln 2 sp pl wr br aS aB aM aO aU aG aW] H := hP
                  have hD : wD A [bMod G x xs xb xm xf xu xg xw kn bl ft vh vm vs ln 2 sp pl wr br aS aB aM aO aU aG aW] := hD
                  show W p l e rmX9_setAlphabet_2 s m args below meth c H locs 0 0 Q (F0 m 61 ls [.int (jz 0)])
                  exact cret_i hx hb hr hlocks hS hP hD (Nat.le_of_ble_eq_true rfl) (Nat.le_of_ble_eq_true rfl) rfl dX9_setAlphabet_61 [0] (by decide) () rfl trivial (congrArg (fun z : Int => some (Value.int (jz z))) (show 0 = 0 from by first | rfl | omega | (split <;> first | rfl | omega | (exfalso; omega)))) hQ
            · skip
              refine lv_iload_n hx hb dX9_setAlphabet_28 rfl (lv_at hl 2 rfl) ?_
              refine jv_bipush hx hb dX9_setAlphabet_29 (by decide) ?_
              refine jv_irem hx hb dX9_setAlphabet_31 (by omega) (by omega) (by omega) (by omega) ?_
              refine jv_to (z' := k - 20) (by omega) ?_
              refine lv_aload_n hx hb dX9_setAlphabet_32 rfl (lv_at hl 0 rfl) ?_
              refine va_get (ci := 9) (v := .ref xs) (C := RX9) (T := TX9) (N := 19) hx hb hts wfX9 hown hK.1 hP 0 rfl rfl 0 (by decide) (hts _ wm810) (fun _ h9 => h9) rfl dX9_setAlphabet_33 ?_
              refine lv_iload_n hx hb dX9_setAlphabet_36 rfl (lv_at hl 2 rfl) ?_
              refine jv_bipush hx hb dX9_setAlphabet_37 (by decide) ?_
              refine jv_idiv hx hb dX9_setAlphabet_39 (by omega) (by omega) (by omega) (by omega) ?_
              refine jv_to (z' := 1) (by omega) ?_
              refine jv_iald hx hb hK.1 hP 1 (g := aS) rfl (by omega) (by omega) (by decide) dX9_setAlphabet_40 ?_
              refine jv_icmp_ge (tgt := 62) hx hb dX9_setAlphabet_41 (by decide) (by omega) (by omega) (fun c_7 => ?_) (fun c_7 => ?_)
              · refine jv_iinc (lv' := [(2, .int (jz (k + 1))), (0, .ref x), (1, .int (jz z))]) (k := 2) hx hb dX9_setAlphabet_62 hl rfl (by decide) rfl (fun ls hl => ?_)
                refine lv_goto (tgt := 22) hx hb dX9_setAlphabet_65 (by decide) ?_
                exact ih22 (k + 1) (by omega) (by omega) (by intro q h1 h2; rcases (show q = k ∨ q < k by omega) with e8 | e8; (rw [e8]; exact ⟨fun _ _ => by omega, fun _ _ => by omega⟩); exact hs q h1 e8) H _ _ hP hD hS (lv_sub hl [1, 2, 0] rfl)
              · refine lv_aload_n hx hb dX9_setAlphabet_44 rfl (lv_at hl 0 rfl) ?_
                refine va_get (ci := 9) (v := .ref xs) (C := RX9) (T := TX9) (N := 19) hx hb hts wfX9 hown hK.1 hP 0 rfl rfl 0 (by decide) (hts _ wm810) (fun _ h9 => h9) rfl dX9_setAlphabet_45 ?_
                refine jv_iconst hx hb dX9_setAlphabet_48 ?_
                refine lv_iload_n hx hb dX9_setAlphabet_49 rfl (lv_at hl 2 rfl) ?_
                refine jv_iadd hx hb dX9_setAlphabet_50 ?_
                refine jv_iald hx hb hK.1 hP 1 (g := aS) rfl (by omega) (by omega) (by decide) dX9_setAlphabet_51 ?_
                have la : 0 ≤ aS (3 + k) ∧ aS (3 + k) < 4 := by rw [(show (3 : Int) + k = 3 + 20 * 1 + (k - 20) by omega)]; exact hg1 (k - 20) (by omega) (by omega)
                refine lv_iload_n hx hb dX9_setAlphabet_52 rfl (lv_at hl 1 rfl) ?_
                refine jv_icmp_lt (tgt := 62) hx hb dX9_setAlphabet_53 (by decide) (by omega) (by omega) (fun c_8 => ?_) (fun c_8 => ?_)
                · refine jv_iinc (lv' := [(2, .int (jz (k + 1))), (0, .ref x), (1, .int (jz z))]) (k := 2) hx hb dX9_setAlphabet_62 hl rfl (by decide) rfl (fun ls hl => ?_)
                  refine lv_goto (tgt := 22) hx hb dX9_setAlphabet_65 (by decide) ?_
                  exact ih22 (k + 1) (by omega) (by omega) (by intro q h1 h2; rcases (show q = k ∨ q < k by omega) with e8 | e8; (rw [e8]; exact ⟨fun _ _ => by omega, fun _ _ => by omega⟩); exact hs q h1 e8) H _ _ hP hD hS (lv_sub hl [1, 2, 0] rfl)
                · refine lv_aload_n hx hb dX9_setAlphabet_56 rfl (lv_at hl 0 rfl) ?_
                  refine jv_iconst hx hb dX9_setAlphabet_57 ?_
                  refine kV ⟨hx, hb, hml, hown, hts⟩ hK hA hS hP hD [.int (jz 2)] [] (mX9_throwing l G x xs xb xm xf xu xg xw kn bl ft vh vm vs ln 0 sp pl wr br aS aB aM aO aU aG aW 2 ) lkX9_98 [0] [] (br := []) rfl rfl (by decide) 0 9 rfl rfl rfl rfl (Nat.le_of_ble_eq_true rfl) hl.1 dX9_setAlphabet_58 ⟨Nat.le_of_ble_eq_true rfl, Nat.le_of_ble_eq_true rfl⟩ ⟨Nat.le_of_ble_eq_true rfl, Nat.le_of_ble_eq_true rfl⟩ (fun u9 H locs hp9 hP hD hS => ?_)
                  have hP : wP G [bMod G x xs xb xm xf xu xg xw kn bl ft vh vm vs ln 2 sp pl wr br aS aB aM aO aU aG aW] H := hP
                  have hD : wD A [bMod G x xs xb xm xf xu xg xw kn bl ft vh vm vs ln 2 sp pl wr br aS aB aM aO aU aG aW] := hD
                  show W p l e rmX9_setAlphabet_2 s m args below meth c H locs 0 0 Q (F0 m 61 ls [.int (jz 0)])
                  exact cret_i hx hb hr hlocks hS hP hD (Nat.le_of_ble_eq_true rfl) (Nat.le_of_ble_eq_true rfl) rfl dX9_setAlphabet_61 [0] (by decide) () rfl trivial (congrArg (fun z : Int => some (Value.int (jz z))) (show 0 = 0 from by first | rfl | omega | (split <;> first | rfl | omega | (exfalso; omega)))) hQ
      exact K22 ((((40 : Int) - 0).toNat) + 1) 0 (Nat.lt_succ_self _) (by omega) (by intro q h1 h2; omega) H _ _ hP hD hS (lv_sub hl [1, 2, 0] rfl)
    · exfalso; omega
  exact KH s.heap [] hP hD hS
