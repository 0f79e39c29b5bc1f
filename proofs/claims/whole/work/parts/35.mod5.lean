abbrev rmX9_keyOf_1 : Room := { frames := 1, cells := 0, slots := 0, locals := 22 }
set_option maxHeartbeats 4000000 in
set_option maxRecDepth 100000 in
theorem mX9_keyOf_1 (l : Launch) (G : GG) (x : Nat) (xs : Nat) (xb : Nat) (xm : Nat) (xf : Nat) (xu : Nat) (xg : Nat) (xw : Nat) (kn : Int) (ft : Int) (vh : Int) (vm : Int) (vs : Int) (ln : Int) (th : Int) (sp : Int) (pl : Int) (wr : Int) (br : Int) (aS : Int → Int) (aB : Int → Int) (aM : Int → Int) (aO : Int → Int) (aU : Int → Int) (aG : Int → Int) (aW : Int → Int) (i : Int) (j : Int) (hs0 : 0 ≤ aS 0 ∧ aS 0 ≤ 20) (hs1 : 0 ≤ aS 1 ∧ aS 1 ≤ 20) (hi : 1 ≤ i ∧ i + 1 - 1 ≤ aS 0) (hj : 1 ≤ j ∧ j + 1 - 1 ≤ aS 1) (hgr : ∀ x y : Int, 0 ≤ x → x ≤ aS 0 → 0 ≤ y → y ≤ aS 1 → aG (21 * x + y) = D 1 (T9 aS 0) (T9 aS 1) x y) : Ct l yX9_keyOf cX9_keyOf 5 (some .int) rmX9_keyOf_1 G [.ref x, .int (jz i), .int (jz j)] [bMod G x xs xb xm xf xu xg xw kn 1 ft vh vm vs ln th sp pl wr br aS aB aM aO aU aG aW] (fun uo : Unit => some (.int (jz (keyM 1 (T9 aS 0) (T9 aS 1) i j)))) (fun uo => True) (fun uo => [bMod G x xs xb xm xf xu xg xw kn 1 ft vh vm vs ln th sp pl wr br aS aB aM aO aU aG aW]) := by
  refine cof (by decide) (Nat.le_of_ble_eq_true rfl) ?_
  intro p e s m args below meth c A ls hx hb hr hml hown hts hlocks hin hA hK hP hD hS hl Q hQ
  have hown : s.vm.findClass RX9 = some m.cls := hown
  have hl : lv_has ls 5 [(0, .ref x), (1, .int (jz i)), (2, .int (jz j))] := hl
  have KH : ∀ (H : Heap) (locs : List Loc), wP G [bMod G x xs xb xm xf xu xg xw kn 1 ft vh vm vs ln th sp pl wr br aS aB aM aO aU aG aW] H → wD A [bMod G x xs xb xm xf xu xg xw kn 1 ft vh vm vs ln th sp pl wr br aS aB aM aO aU aG aW] → va_S A s.heap H locs → W p l e rmX9_keyOf_1 s m args below meth c H locs 0 0 Q (F0 m 0 ls []) := by
    intro H locs hP hD hS
    have s1 : aG (21 * (i - 1) + (j + 0)) = D 1 (T9 aS 0) (T9 aS 1) (i - 1) (j + 0) := hgr (i - 1) (j + 0) (by omega) (by omega) (by omega) (by omega)
    have s2 : aG (21 * (i - 1) + (j + 0 - 1)) = D 1 (T9 aS 0) (T9 aS 1) (i - 1) (j + 0 - 1) := hgr (i - 1) (j + 0 - 1) (by omega) (by omega) (by omega) (by omega)
    have s3 : aG (21 * (i + 0) + (j - 1)) = D 1 (T9 aS 0) (T9 aS 1) (i + 0) (j - 1) := hgr (i + 0) (j - 1) (by omega) (by omega) (by omega) (by omega)
    have s4 : aG (21 * (i + 0 - 1) + (j - 1)) = D 1 (T9 aS 0) (T9 aS 1) (i + 0 - 1) (j - 1) := hgr (i + 0 - 1) (j - 1) (by omega) (by omega) (by omega) (by omega)
    refine jv_iconst hx hb dX9_keyOf_0 ?_
    refine lv_istore_n (lv' := [(3, .int (jz 0)), (0, .ref x), (1, .int (jz i)), (2, .int (jz j))]) hx hb dX9_keyOf_1 rfl hl (by decide) rfl (fun ls hl => ?_)
    refine jv_iconst hx hb dX9_keyOf_2 ?_
    refine lv_istore (lv' := [(4, .int (jz 0)), (3, .int (jz 0)), (0, .ref x), (1, .int (jz i)), (2, .int (jz j))]) hx hb dX9_keyOf_3 hl (by decide) rfl (fun ls hl => ?_)
    refine lv_iload hx hb dX9_keyOf_5 (lv_at hl 0 rfl) ?_
    refine lv_aload_n hx hb dX9_keyOf_7 rfl (lv_at hl 2 rfl) ?_
    refine va_get (ci := 9) (v := .int (jz 1)) (C := RX9) (T := TX9) (N := 19) hx hb hts wfX9 hown hK.1 hP 0 rfl rfl 3 (by decide) (hts _ wm813) (fun _ h9 => h9) rfl dX9_keyOf_8 ?_
    refine jv_icmp_ge (tgt := 36) hx hb dX9_keyOf_11 (by decide) (by omega) (by omega) (fun c_1 => ?_) (fun c_1 => ?_)
    · exfalso; omega
    · refine jv_iconst hx hb dX9_keyOf_14 ?_
      refine lv_iload_n hx hb dX9_keyOf_15 rfl (lv_at hl 1 rfl) ?_
      refine jv_imul hx hb dX9_keyOf_16 ?_
      refine lv_aload_n hx hb dX9_keyOf_17 rfl (lv_at hl 2 rfl) ?_
      refine jv_iconst hx hb dX9_keyOf_18 ?_
      refine lv_iload_n hx hb dX9_keyOf_19 rfl (lv_at hl 3 rfl) ?_
      refine lv_iload hx hb dX9_keyOf_20 (lv_at hl 0 rfl) ?_
      refine jv_iadd hx hb dX9_keyOf_22 ?_
      refine jv_iconst hx hb dX9_keyOf_23 ?_
      refine jv_isub hx hb dX9_keyOf_24 ?_
      refine kV ⟨hx, hb, hml, hown, hts⟩ hK hA hS hP hD [.int (jz 0), .int (jz ((i + 0) - 1))] [.int (jz (4 * 0))] (mX9_of l G x xs xb xm xf xu xg xw kn 1 ft vh vm vs ln th sp pl wr br aS aB aM aO aU aG aW 0 ((i + 0) - 1) (by omega) (by omega)) lkX9_46 [0] [] (br := []) rfl rfl (by decide) 0 9 rfl rfl rfl rfl (Nat.le_of_ble_eq_true rfl) hl.1 dX9_keyOf_25 ⟨Nat.le_of_ble_eq_true rfl, Nat.le_of_ble_eq_true rfl⟩ ⟨Nat.le_of_ble_eq_true rfl, Nat.le_of_ble_eq_true rfl⟩ (fun u9 H locs hp9 hP hD hS => ?_)
      have hP : wP G [bMod G x xs xb xm xf xu xg xw kn 1 ft vh vm vs ln th sp pl wr br aS aB aM aO aU aG aW] H := hP
      have hD : wD A [bMod G x xs xb xm xf xu xg xw kn 1 ft vh vm vs ln th sp pl wr br aS aB aM aO aU aG aW] := hD
      show W p l e rmX9_keyOf_1 s m args below meth c H locs 0 0 Q (F0 m 28 ls [.int (jz (T9 aS 0 ((i + 0) - 1))), .int (jz (4 * 0))])
      refine jv_iadd hx hb dX9_keyOf_28 ?_
      refine lv_istore_n (lv' := [(3, .int (jz ((4 * 0) + (T9 aS 0 ((i + 0) - 1))))), (4, .int (jz 0)), (0, .ref x), (1, .int (jz i)), (2, .int (jz j))]) hx hb dX9_keyOf_29 rfl hl (by decide) rfl (fun ls hl => ?_)
      refine jv_iinc (lv' := [(4, .int (jz (0 + 1))), (3, .int (jz ((4 * 0) + (T9 aS 0 ((i + 0) - 1))))), (0, .ref x), (1, .int (jz i)), (2, .int (jz j))]) (k := 1) hx hb dX9_keyOf_30 hl rfl (by decide) rfl (fun ls hl => ?_)
      refine lv_goto (tgt := 5) hx hb dX9_keyOf_33 (by decide) ?_
      refine lv_iload hx hb dX9_keyOf_5 (lv_at hl 0 rfl) ?_
      refine lv_aload_n hx hb dX9_keyOf_7 rfl (lv_at hl 2 rfl) ?_
      refine va_get (ci := 9) (v := .int (jz 1)) (C := RX9) (T := TX9) (N := 19) hx hb hts wfX9 hown hK.1 hP 0 rfl rfl 3 (by decide) (hts _ wm813) (fun _ h9 => h9) rfl dX9_keyOf_8 ?_
      refine jv_icmp_ge (tgt := 36) hx hb dX9_keyOf_11 (by decide) (by omega) (by omega) (fun c_3 => ?_) (fun c_3 => ?_)
      · refine jv_iconst hx hb dX9_keyOf_36 ?_
        refine lv_istore (lv' := [(4, .int (jz 0)), (3, .int (jz ((4 * 0) + (T9 aS 0 ((i + 0) - 1))))), (0, .ref x), (1, .int (jz i)), (2, .int (jz j))]) hx hb dX9_keyOf_37 hl (by decide) rfl (fun ls hl => ?_)
        refine lv_iload hx hb dX9_keyOf_39 (lv_at hl 0 rfl) ?_
        refine lv_aload_n hx hb dX9_keyOf_41 rfl (lv_at hl 2 rfl) ?_
        refine va_get (ci := 9) (v := .int (jz 1)) (C := RX9) (T := TX9) (N := 19) hx hb hts wfX9 hown hK.1 hP 0 rfl rfl 3 (by decide) (hts _ wm813) (fun _ h9 => h9) rfl dX9_keyOf_42 ?_
        refine jv_icmp_ge (tgt := 70) hx hb dX9_keyOf_45 (by decide) (by omega) (by omega) (fun c_4 => ?_) (fun c_4 => ?_)
        · exfalso; omega
        · refine jv_iconst hx hb dX9_keyOf_48 ?_
          refine lv_iload_n hx hb dX9_keyOf_49 rfl (lv_at hl 1 rfl) ?_
          refine jv_imul hx hb dX9_keyOf_50 ?_
          refine lv_aload_n hx hb dX9_keyOf_51 rfl (lv_at hl 2 rfl) ?_
          refine jv_iconst hx hb dX9_keyOf_52 ?_
          refine lv_iload_n hx hb dX9_keyOf_53 rfl (lv_at hl 4 rfl) ?_
          refine lv_iload hx hb dX9_keyOf_54 (lv_at hl 0 rfl) ?_
          refine jv_iadd hx hb dX9_keyOf_56 ?_
          refine jv_iconst hx hb dX9_keyOf_57 ?_
          refine jv_isub hx hb dX9_keyOf_58 ?_
          refine kV ⟨hx, hb, hml, hown, hts⟩ hK hA hS hP hD [.int (jz 1), .int (jz ((j + 0) - 1))] [.int (jz (4 * ((4 * 0) + (T9 aS 0 ((i + 0) - 1)))))] (mX9_of l G x xs xb xm xf xu xg xw kn 1 ft vh vm vs ln th sp pl wr br aS aB aM aO aU aG aW 1 ((j + 0) - 1) (by omega) (by omega)) lkX9_46 [0] [] (br := []) rfl rfl (by decide) 0 9 rfl rfl rfl rfl (Nat.le_of_ble_eq_true rfl) hl.1 dX9_keyOf_59 ⟨Nat.le_of_ble_eq_true rfl, Nat.le_of_ble_eq_true rfl⟩ ⟨Nat.le_of_ble_eq_true rfl, Nat.le_of_ble_eq_true rfl⟩ (fun u9 H locs hp9 hP hD hS => ?_)
          have hP : wP G [bMod G x xs xb xm xf xu xg xw kn 1 ft vh vm vs ln th sp pl wr br aS aB aM aO aU aG aW] H := hP
          have hD : wD A [bMod G x xs xb xm xf xu xg xw kn 1 ft vh vm vs ln th sp pl wr br aS aB aM aO aU aG aW] := hD
          show W p l e rmX9_keyOf_1 s m args below meth c H locs 0 0 Q (F0 m 62 ls [.int (jz (T9 aS 1 ((j + 0) - 1))), .int (jz (4 * ((4 * 0) + (T9 aS 0 ((i + 0) - 1)))))])
          refine jv_iadd hx hb dX9_keyOf_62 ?_
          refine lv_istore_n (lv' := [(3, .int (jz ((4 * ((4 * 0) + (T9 aS 0 ((i + 0) - 1)))) + (T9 aS 1 ((j + 0) - 1))))), (4, .int (jz 0)), (0, .ref x), (1, .int (jz i)), (2, .int (jz j))]) hx hb dX9_keyOf_63 rfl hl (by decide) rfl (fun ls hl => ?_)
          refine jv_iinc (lv' := [(4, .int (jz (0 + 1))), (3, .int (jz ((4 * ((4 * 0) + (T9 aS 0 ((i + 0) - 1)))) + (T9 aS 1 ((j + 0) - 1))))), (0, .ref x), (1, .int (jz i)), (2, .int (jz j))]) (k := 1) hx hb dX9_keyOf_64 hl rfl (by decide) rfl (fun ls hl => ?_)
          refine lv_goto (tgt := 39) hx hb dX9_keyOf_67 (by decide) ?_
          refine lv_iload hx hb dX9_keyOf_39 (lv_at hl 0 rfl) ?_
          refine lv_aload_n hx hb dX9_keyOf_41 rfl (lv_at hl 2 rfl) ?_
          refine va_get (ci := 9) (v := .int (jz 1)) (C := RX9) (T := TX9) (N := 19) hx hb hts wfX9 hown hK.1 hP 0 rfl rfl 3 (by decide) (hts _ wm813) (fun _ h9 => h9) rfl dX9_keyOf_42 ?_
          refine jv_icmp_ge (tgt := 70) hx hb dX9_keyOf_45 (by decide) (by omega) (by omega) (fun c_6 => ?_) (fun c_6 => ?_)
          · refine jv_iconst hx hb dX9_keyOf_70 ?_
            refine lv_istore (lv' := [(4, .int (jz 0)), (3, .int (jz ((4 * ((4 * 0) + (T9 aS 0 ((i + 0) - 1)))) + (T9 aS 1 ((j + 0) - 1))))), (0, .ref x), (1, .int (jz i)), (2, .int (jz j))]) hx hb dX9_keyOf_71 hl (by decide) rfl (fun ls hl => ?_)
            refine lv_iload hx hb dX9_keyOf_73 (lv_at hl 0 rfl) ?_
            refine lv_aload_n hx hb dX9_keyOf_75 rfl (lv_at hl 2 rfl) ?_
            refine va_get (ci := 9) (v := .int (jz 1)) (C := RX9) (T := TX9) (N := 19) hx hb hts wfX9 hown hK.1 hP 0 rfl rfl 3 (by decide) (hts _ wm813) (fun _ h9 => h9) rfl dX9_keyOf_76 ?_
            refine jv_icmp_ge (tgt := 120) hx hb dX9_keyOf_79 (by decide) (by omega) (by omega) (fun c_7 => ?_) (fun c_7 => ?_)
            · exfalso; omega
            · refine jv_iconst hx hb dX9_keyOf_82 ?_
              refine lv_iload_n hx hb dX9_keyOf_83 rfl (lv_at hl 1 rfl) ?_
              refine jv_imul hx hb dX9_keyOf_84 ?_
              refine jv_iconst hx hb dX9_keyOf_85 ?_
              refine jv_iadd hx hb dX9_keyOf_86 ?_
              refine lv_aload_n hx hb dX9_keyOf_87 rfl (lv_at hl 2 rfl) ?_
              refine lv_iload_n hx hb dX9_keyOf_88 rfl (lv_at hl 3 rfl) ?_
              refine jv_iconst hx hb dX9_keyOf_89 ?_
              refine jv_isub hx hb dX9_keyOf_90 ?_
              refine lv_iload_n hx hb dX9_keyOf_91 rfl (lv_at hl 4 rfl) ?_
              refine lv_iload hx hb dX9_keyOf_92 (lv_at hl 0 rfl) ?_
              refine jv_iadd hx hb dX9_keyOf_94 ?_
              refine kV ⟨hx, hb, hml, hown, hts⟩ hK hA hS hP hD [.int (jz (i - 1)), .int (jz (j + 0))] [.int (jz ((3 * ((4 * ((4 * 0) + (T9 aS 0 ((i + 0) - 1)))) + (T9 aS 1 ((j + 0) - 1)))) + 1))] (mX9_d l G x xs xb xm xf xu xg xw kn 1 ft vh vm vs ln th sp pl wr br aS aB aM aO aU aG aW (i - 1) (j + 0) (by omega) (by omega)) lkX9_50 [0] [] (br := []) rfl rfl (by decide) 0 9 rfl rfl rfl rfl (Nat.le_of_ble_eq_true rfl) hl.1 dX9_keyOf_95 ⟨Nat.le_of_ble_eq_true rfl, Nat.le_of_ble_eq_true rfl⟩ ⟨Nat.le_of_ble_eq_true rfl, Nat.le_of_ble_eq_true rfl⟩ (fun u9 H locs hp9 hP hD hS => ?_)
              have hP : wP G [bMod G x xs xb xm xf xu xg xw kn 1 ft vh vm vs ln th sp pl wr br aS aB aM aO aU aG aW] H := hP
              have hD : wD A [bMod G x xs xb xm xf xu xg xw kn 1 ft vh vm vs ln th sp pl wr br aS aB aM aO aU aG aW] := hD
              show W p l e rmX9_keyOf_1 s m args below meth c H locs 0 0 Q (F0 m 98 ls [.int (jz (aG (21 * (i - 1) + (j + 0)))), .int (jz ((3 * ((4 * ((4 * 0) + (T9 aS 0 ((i + 0) - 1)))) + (T9 aS 1 ((j + 0) - 1)))) + 1))])
              refine jv_iadd hx hb dX9_keyOf_98 ?_
              refine lv_aload_n hx hb dX9_keyOf_99 rfl (lv_at hl 2 rfl) ?_
              refine lv_iload_n hx hb dX9_keyOf_100 rfl (lv_at hl 3 rfl) ?_
              refine jv_iconst hx hb dX9_keyOf_101 ?_
              refine jv_isub hx hb dX9_keyOf_102 ?_
              refine lv_iload_n hx hb dX9_keyOf_103 rfl (lv_at hl 4 rfl) ?_
              refine lv_iload hx hb dX9_keyOf_104 (lv_at hl 0 rfl) ?_
              refine jv_iadd hx hb dX9_keyOf_106 ?_
              refine jv_iconst hx hb dX9_keyOf_107 ?_
              refine jv_isub hx hb dX9_keyOf_108 ?_
              refine kV ⟨hx, hb, hml, hown, hts⟩ hK hA hS hP hD [.int (jz (i - 1)), .int (jz ((j + 0) - 1))] [.int (jz (((3 * ((4 * ((4 * 0) + (T9 aS 0 ((i + 0) - 1)))) + (T9 aS 1 ((j + 0) - 1)))) + 1) + (aG (21 * (i - 1) + (j + 0)))))] (mX9_d l G x xs xb xm xf xu xg xw kn 1 ft vh vm vs ln th sp pl wr br aS aB aM aO aU aG aW (i - 1) ((j + 0) - 1) (by omega) (by omega)) lkX9_50 [0] [] (br := []) rfl rfl (by decide) 0 9 rfl rfl rfl rfl (Nat.le_of_ble_eq_true rfl) hl.1 dX9_keyOf_109 ⟨Nat.le_of_ble_eq_true rfl, Nat.le_of_ble_eq_true rfl⟩ ⟨Nat.le_of_ble_eq_true rfl, Nat.le_of_ble_eq_true rfl⟩ (fun u9 H locs hp9 hP hD hS => ?_)
              have hP : wP G [bMod G x xs xb xm xf xu xg xw kn 1 ft vh vm vs ln th sp pl wr br aS aB aM aO aU aG aW] H := hP
              have hD : wD A [bMod G x xs xb xm xf xu xg xw kn 1 ft vh vm vs ln th sp pl wr br aS aB aM aO aU aG aW] := hD
              show W p l e rmX9_keyOf_1 s m args below meth c H locs 0 0 Q (F0 m 112 ls [.int (jz (aG (21 * (i - 1) + ((j + 0) - 1)))), .int (jz (((3 * ((4 * ((4 * 0) + (T9 aS 0 ((i + 0) - 1)))) + (T9 aS 1 ((j + 0) - 1)))) + 1) + (aG (21 * (i - 1) + (j + 0)))))])
              refine jv_isub hx hb dX9_keyOf_112 ?_
              refine lv_istore_n (lv' := [(3, .int (jz ((((3 * ((4 * ((4 * 0) + (T9 aS 0 ((i + 0) - 1)))) + (T9 aS 1 ((j + 0) - 1)))) + 1) + (aG (21 * (i - 1) + (j + 0)))) - (aG (21 * (i - 1) + ((j + 0) - 1)))))), (4, .int (jz 0)), (0, .ref x), (1, .int (jz i)), (2, .int (jz j))]) hx hb dX9_keyOf_113 rfl hl (by decide) rfl (fun ls hl => ?_)
              refine jv_iinc (lv' := [(4, .int (jz (0 + 1))), (3, .int (jz ((((3 * ((4 * ((4 * 0) + (T9 aS 0 ((i + 0) - 1)))) + (T9 aS 1 ((j + 0) - 1)))) + 1) + (aG (21 * (i - 1) + (j + 0)))) - (aG (21 * (i - 1) + ((j + 0) - 1)))))), (0, .ref x), (1, .int (jz i)), (2, .int (jz j))]) (k := 1) hx hb dX9_keyOf_114 hl rfl (by decide) rfl (fun ls hl => ?_)
              refine lv_goto (tgt := 73) hx hb dX9_keyOf_117 (by decide) ?_
              refine lv_iload hx hb dX9_keyOf_73 (lv_at hl 0 rfl) ?_
              refine lv_aload_n hx hb dX9_keyOf_75 rfl (lv_at hl 2 rfl) ?_
              refine va_get (ci := 9) (v := .int (jz 1)) (C := RX9) (T := TX9) (N := 19) hx hb hts wfX9 hown hK.1 hP 0 rfl rfl 3 (by decide) (hts _ wm813) (fun _ h9 => h9) rfl dX9_keyOf_76 ?_
              refine jv_icmp_ge (tgt := 120) hx hb dX9_keyOf_79 (by decide) (by omega) (by omega) (fun c_10 => ?_) (fun c_10 => ?_)
              · refine jv_iconst hx hb dX9_keyOf_120 ?_
                refine lv_istore (lv' := [(4, .int (jz 0)), (3, .int (jz ((((3 * ((4 * ((4 * 0) + (T9 aS 0 ((i + 0) - 1)))) + (T9 aS 1 ((j + 0) - 1)))) + 1) + (aG (21 * (i - 1) + (j + 0)))) - (aG (21 * (i - 1) + ((j + 0) - 1)))))), (0, .ref x), (1, .int (jz i)), (2, .int (jz j))]) hx hb dX9_keyOf_121 hl (by decide) rfl (fun ls hl => ?_)
                refine lv_iload hx hb dX9_keyOf_123 (lv_at hl 0 rfl) ?_
                refine lv_aload_n hx hb dX9_keyOf_125 rfl (lv_at hl 2 rfl) ?_
                refine va_get (ci := 9) (v := .int (jz 1)) (C := RX9) (T := TX9) (N := 19) hx hb hts wfX9 hown hK.1 hP 0 rfl rfl 3 (by decide) (hts _ wm813) (fun _ h9 => h9) rfl dX9_keyOf_126 ?_
                refine jv_icmp_ge (tgt := 170) hx hb dX9_keyOf_129 (by decide) (by omega) (by omega) (fun c_11 => ?_) (fun c_11 => ?_)
                · exfalso; omega
                · refine jv_iconst hx hb dX9_keyOf_132 ?_
                  refine lv_iload_n hx hb dX9_keyOf_133 rfl (lv_at hl 1 rfl) ?_
                  refine jv_imul hx hb dX9_keyOf_134 ?_
                  refine jv_iconst hx hb dX9_keyOf_135 ?_
                  refine jv_iadd hx hb dX9_keyOf_136 ?_
                  refine lv_aload_n hx hb dX9_keyOf_137 rfl (lv_at hl 2 rfl) ?_
                  refine lv_iload_n hx hb dX9_keyOf_138 rfl (lv_at hl 3 rfl) ?_
                  refine lv_iload hx hb dX9_keyOf_139 (lv_at hl 0 rfl) ?_
                  refine jv_iadd hx hb dX9_keyOf_141 ?_
                  refine lv_iload_n hx hb dX9_keyOf_142 rfl (lv_at hl 4 rfl) ?_
                  refine jv_iconst hx hb dX9_keyOf_143 ?_
                  refine jv_isub hx hb dX9_keyOf_144 ?_
                  refine kV ⟨hx, hb, hml, hown, hts⟩ hK hA hS hP hD [.int (jz (i + 0)), .int (jz (j - 1))] [.int (jz ((3 * ((((3 * ((4 * ((4 * 0) + (T9 aS 0 ((i + 0) - 1)))) + (T9 aS 1 ((j + 0) - 1)))) + 1) + (aG (21 * (i - 1) + (j + 0)))) - (aG (21 * (i - 1) + ((j + 0) - 1))))) + 1))] (mX9_d l G x xs xb xm xf xu xg xw kn 1 ft vh vm vs ln th sp pl wr br aS aB aM aO aU aG aW (i + 0) (j - 1) (by omega) (by omega)) lkX9_50 [0] [] (br := []) rfl rfl (by decide) 0 9 rfl rfl rfl rfl (Nat.le_of_ble_eq_true rfl) hl.1 dX9_keyOf_145 ⟨Nat.le_of_ble_eq_true rfl, Nat.le_of_ble_eq_true rfl⟩ ⟨Nat.le_of_ble_eq_true rfl, Nat.le_of_ble_eq_true rfl⟩ (fun u9 H locs hp9 hP hD hS => ?_)
                  have hP : wP G [bMod G x xs xb xm xf xu xg xw kn 1 ft vh vm vs ln th sp pl wr br aS aB aM aO aU aG aW] H := hP
                  have hD : wD A [bMod G x xs xb xm xf xu xg xw kn 1 ft vh vm vs ln th sp pl wr br aS aB aM aO aU aG aW] := hD
                  show W p l e rmX9_keyOf_1 s m args below meth c H locs 0 0 Q (F0 m 148 ls [.int (jz (aG (21 * (i + 0) + (j - 1)))), .int (jz ((3 * ((((3 * ((4 * ((4 * 0) + (T9 aS 0 ((i + 0) - 1)))) + (T9 aS 1 ((j + 0) - 1)))) + 1) + (aG (21 * (i - 1) + (j + 0)))) - (aG (21 * (i - 1) + ((j + 0) - 1))))) + 1))])
                  refine jv_iadd hx hb dX9_keyOf_148 ?_
                  refine lv_aload_n hx hb dX9_keyOf_149 rfl (lv_at hl 2 rfl) ?_
                  refine lv_iload_n hx hb dX9_keyOf_150 rfl (lv_at hl 3 rfl) ?_
                  refine lv_iload hx hb dX9_keyOf_151 (lv_at hl 0 rfl) ?_
                  refine jv_iadd hx hb dX9_keyOf_153 ?_
                  refine jv_iconst hx hb dX9_keyOf_154 ?_
                  refine jv_isub hx hb dX9_keyOf_155 ?_
                  refine lv_iload_n hx hb dX9_keyOf_156 rfl (lv_at hl 4 rfl) ?_
                  refine jv_iconst hx hb dX9_keyOf_157 ?_
                  refine jv_isub hx hb dX9_keyOf_158 ?_
                  refine kV ⟨hx, hb, hml, hown, hts⟩ hK hA hS hP hD [.int (jz ((i + 0) - 1)), .int (jz (j - 1))] [.int (jz (((3 * ((((3 * ((4 * ((4 * 0) + (T9 aS 0 ((i + 0) - 1)))) + (T9 aS 1 ((j + 0) - 1)))) + 1) + (aG (21 * (i - 1) + (j + 0)))) - (aG (21 * (i - 1) + ((j + 0) - 1))))) + 1) + (aG (21 * (i + 0) + (j - 1)))))] (mX9_d l G x xs xb xm xf xu xg xw kn 1 ft vh vm vs ln th sp pl wr br aS aB aM aO aU aG aW ((i + 0) - 1) (j - 1) (by omega) (by omega)) lkX9_50 [0] [] (br := []) rfl rfl (by decide) 0 9 rfl rfl rfl rfl (Nat.le_of_ble_eq_true rfl) hl.1 dX9_keyOf_159 ⟨Nat.le_of_ble_eq_true rfl, Nat.le_of_ble_eq_true rfl⟩ ⟨Nat.le_of_ble_eq_true rfl, Nat.le_of_ble_eq_true rfl⟩ (fun u9 H locs hp9 hP hD hS => ?_)
                  have hP : wP G [bMod G x xs xb xm xf xu xg xw kn 1 ft vh vm vs ln th sp pl wr br aS aB aM aO aU aG aW] H := hP
                  have hD : wD A [bMod G x xs xb xm xf xu xg xw kn 1 ft vh vm vs ln th sp pl wr br aS aB aM aO aU aG aW] := hD
                  show W p l e rmX9_keyOf_1 s m args below meth c H locs 0 0 Q (F0 m 162 ls [.int (jz (aG (21 * ((i + 0) - 1) + (j - 1)))), .int (jz (((3 * ((((3 * ((4 * ((4 * 0) + (T9 aS 0 ((i + 0) - 1)))) + (T9 aS 1 ((j + 0) - 1)))) + 1) + (aG (21 * (i - 1) + (j + 0)))) - (aG (21 * (i - 1) + ((j + 0) - 1))))) + 1) + (aG (21 * (i + 0) + (j - 1)))))])
                  refine jv_isub hx hb dX9_keyOf_162 ?_
                  refine lv_istore_n (lv' := [(3, .int (jz ((((3 * ((((3 * ((4 * ((4 * 0) + (T9 aS 0 ((i + 0) - 1)))) + (T9 aS 1 ((j + 0) - 1)))) + 1) + (aG (21 * (i - 1) + (j + 0)))) - (aG (21 * (i - 1) + ((j + 0) - 1))))) + 1) + (aG (21 * (i + 0) + (j - 1)))) - (aG (21 * ((i + 0) - 1) + (j - 1)))))), (4, .int (jz 0)), (0, .ref x), (1, .int (jz i)), (2, .int (jz j))]) hx hb dX9_keyOf_163 rfl hl (by decide) rfl (fun ls hl => ?_)
                  refine jv_iinc (lv' := [(4, .int (jz (0 + 1))), (3, .int (jz ((((3 * ((((3 * ((4 * ((4 * 0) + (T9 aS 0 ((i + 0) - 1)))) + (T9 aS 1 ((j + 0) - 1)))) + 1) + (aG (21 * (i - 1) + (j + 0)))) - (aG (21 * (i - 1) + ((j + 0) - 1))))) + 1) + (aG (21 * (i + 0) + (j - 1)))) - (aG (21 * ((i + 0) - 1) + (j - 1)))))), (0, .ref x), (1, .int (jz i)), (2, .int (jz j))]) (k := 1) hx hb dX9_keyOf_164 hl rfl (by decide) rfl (fun ls hl => ?_)
                  refine lv_goto (tgt := 123) hx hb dX9_keyOf_167 (by decide) ?_
                  refine lv_iload hx hb dX9_keyOf_123 (lv_at hl 0 rfl) ?_
                  refine lv_aload_n hx hb dX9_keyOf_125 rfl (lv_at hl 2 rfl) ?_
                  refine va_get (ci := 9) (v := .int (jz 1)) (C := RX9) (T := TX9) (N := 19) hx hb hts wfX9 hown hK.1 hP 0 rfl rfl 3 (by decide) (hts _ wm813) (fun _ h9 => h9) rfl dX9_keyOf_126 ?_
                  refine jv_icmp_ge (tgt := 170) hx hb dX9_keyOf_129 (by decide) (by omega) (by omega) (fun c_14 => ?_) (fun c_14 => ?_)
                  · refine lv_iload_n hx hb dX9_keyOf_170 rfl (lv_at hl 1 rfl) ?_
                    exact cret_i hx hb hr hlocks hS hP hD (Nat.le_of_ble_eq_true rfl) (Nat.le_of_ble_eq_true rfl) rfl dX9_keyOf_171 [0] (by decide) () rfl trivial (congrArg (fun z : Int => some (Value.int (jz z))) (show ((((3 * ((((3 * ((4 * ((4 * 0) + (T9 aS 0 ((i + 0) - 1)))) + (T9 aS 1 ((j + 0) - 1)))) + 1) + (aG (21 * (i - 1) + (j + 0)))) - (aG (21 * (i - 1) + ((j + 0) - 1))))) + 1) + (aG (21 * (i + 0) + (j - 1)))) - (aG (21 * ((i + 0) - 1) + (j - 1)))) = keyM 1 (T9 aS 0) (T9 aS 1) i j from by unfold keyM dA dB; rw [if_pos rfl]; omega)) hQ
                  · exfalso; omega
              · exfalso; omega
          · exfalso; omega
      · exfalso; omega
  exact KH s.heap [] hP hD hS
abbrev rmX9_keyOf_2 : Room := { frames := 1, cells := 0, slots := 0, locals := 22 }
set_option maxHeartbeats 4000000 in
set_option maxRecDepth 100000 in
theorem mX9_keyOf_2 (l : Launch) (G : GG) (x : Nat) (xs : Nat) (xb : Nat) (xm : Nat) (xf : Nat) (xu : Nat) (xg : Nat) (xw : Nat) (kn : Int) (ft : Int) (vh : Int) (vm : Int) (vs : Int) (ln : Int) (th : Int) (sp : Int) (pl : Int) (wr : Int) (br : Int) (aS : Int → Int) (aB : Int → Int) (aM : Int → Int) (aO : Int → Int) (aU : Int → Int) (aG : Int → Int) (aW : Int → Int) (i : Int) (j : Int) (hs0 : 0 ≤ aS 0 ∧ aS 0 ≤ 20) (hs1 : 0 ≤ aS 1 ∧ aS 1 ≤ 20) (hi : 1 ≤ i ∧ i + 2 - 1 ≤ aS 0) (hj : 1 ≤ j ∧ j + 2 - 1 ≤ aS 1) (hgr : ∀ x y : Int, 0 ≤ x → x ≤ aS 0 → 0 ≤ y → y ≤ aS 1 → aG (21 * x + y) = D 1 (T9 aS 0) (T9 aS 1) x y) : Ct l yX9_keyOf cX9_keyOf 5 (some .int) rmX9_keyOf_2 G [.ref x, .int (jz i), .int (jz j)] [bMod G x xs xb xm xf xu xg xw kn 2 ft vh vm vs ln th sp pl wr br aS aB aM aO aU aG aW] (fun uo : Unit => some (.int (jz (keyM 2 (T9 aS 0) (T9 aS 1) i j)))) (fun uo => True) (fun uo => [bMod G x xs xb xm xf xu xg xw kn 2 ft vh vm vs ln th sp pl wr br aS aB aM aO aU aG aW]) := by
  refine cof (by decide) (Nat.le_of_ble_eq_true rfl) ?_
  intro p e s m args below meth c A ls hx hb hr hml hown hts hlocks hin hA hK hP hD hS hl Q hQ
  have hown : s.vm.findClass RX9 = some m.cls := hown
  have hl : lv_has ls 5 [(0, .ref x), (1, .int (jz i)), (2, .int (jz j))] := hl
  have KH : ∀ (H : Heap) (locs : List Loc), wP G [bMod G x xs xb xm xf xu xg xw kn 2 ft vh vm vs ln th sp pl wr br aS aB aM aO aU aG aW] H → wD A [bMod G x xs xb xm xf xu xg xw kn 2 ft vh vm vs ln th sp pl wr br aS aB aM aO aU aG aW] → va_S A s.heap H locs → W p l e rmX9_keyOf_2 s m args below meth c H locs 0 0 Q (F0 m 0 ls []) := by
    intro H locs hP hD hS
    have s1 : aG (21 * (i - 1) + (j + 0)) = D 1 (T9 aS 0) (T9 aS 1) (i - 1) (j + 0) := hgr (i - 1) (j + 0) (by omega) (by omega) (by omega) (by omega)
    have s2 : aG (21 * (i - 1) + (j + 0 - 1)) = D 1 (T9 aS 0) (T9 aS 1) (i - 1) (j + 0 - 1) := hgr (i - 1) (j + 0 - 1) (by omega) (by omega) (by omega) (by omega)
    have s3 : aG (21 * (i + 0) + (j - 1)) = D 1 (T9 aS 0) (T9 aS 1) (i + 0) (j - 1) := hgr (i + 0) (j - 1) (by omega) (by omega) (by omega) (by omega)
    have s4 : aG (21 * (i + 0 - 1) + (j - 1)) = D 1 (T9 aS 0) (T9 aS 1) (i + 0 - 1) (j - 1) := hgr (i + 0 - 1) (j - 1) (by omega) (by omega) (by omega) (by omega)
    have s5 : aG (21 * (i - 1) + (j + (0 + 1))) = D 1 (T9 aS 0) (T9 aS 1) (i - 1) (j + 1) := hgr (i - 1) (j + 1) (by omega) (by omega) (by omega) (by omega)
    have s6 : aG (21 * (i - 1) + (j + (0 + 1) - 1)) = D 1 (T9 aS 0) (T9 aS 1) (i - 1) (j + 1 - 1) := hgr (i - 1) (j + 1 - 1) (by omega) (by omega) (by omega) (by omega)
    have s7 : aG (21 * (i + (0 + 1)) + (j - 1)) = D 1 (T9 aS 0) (T9 aS 1) (i + 1) (j - 1) := hgr (i + 1) (j - 1) (by omega) (by omega) (by omega) (by omega)
    have s8 : aG (21 * (i + (0 + 1) - 1) + (j - 1)) = D 1 (T9 aS 0) (T9 aS 1) (i + 1 - 1) (j - 1) := hgr (i + 1 - 1) (j - 1) (by omega) (by omega) (by omega) (by omega)
    have t1 : T9 aS 0 (i + (0 + 1) - 1) = T9 aS 0 (i + 1 - 1) := rfl
    have t2 : T9 aS 1 (j + (0 + 1) - 1) = T9 aS 1 (j + 1 - 1) := rfl
    refine jv_iconst hx hb dX9_keyOf_0 ?_
    refine lv_istore_n (lv' := [(3, .int (jz 0)), (0, .ref x), (1, .int (jz i)), (2, .int (jz j))]) hx hb dX9_keyOf_1 rfl hl (by decide) rfl (fun ls hl => ?_)
    refine jv_iconst hx hb dX9_keyOf_2 ?_
    refine lv_istore (lv' := [(4, .int (jz 0)), (3, .int (jz 0)), (0, .ref x), (1, .int (jz i)), (2, .int (jz j))]) hx hb dX9_keyOf_3 hl (by decide) rfl (fun ls hl => ?_)
    refine lv_iload hx hb dX9_keyOf_5 (lv_at hl 0 rfl) ?_
    refine lv_aload_n hx hb dX9_keyOf_7 rfl (lv_at hl 2 rfl) ?_
    refine va_get (ci := 9) (v := .int (jz 2)) (C := RX9) (T := TX9) (N := 19) hx hb hts wfX9 hown hK.1 hP 0 rfl rfl 3 (by decide) (hts _ wm813) (fun _ h9 => h9) rfl dX9_keyOf_8 ?_
    refine jv_icmp_ge (tgt := 36) hx hb dX9_keyOf_11 (by decide) (by omega) (by omega) (fun c_1 => ?_) (fun c_1 => ?_)
    · exfalso; omega
    · refine jv_iconst hx hb dX9_keyOf_14 ?_
      refine lv_iload_n hx hb dX9_keyOf_15 rfl (lv_at hl 1 rfl) ?_
      refine jv_imul hx hb dX9_keyOf_16 ?_
      refine lv_aload_n hx hb dX9_keyOf_17 rfl (lv_at hl 2 rfl) ?_
      refine jv_iconst hx hb dX9_keyOf_18 ?_
      refine lv_iload_n hx hb dX9_keyOf_19 rfl (lv_at hl 3 rfl) ?_
      refine lv_iload hx hb dX9_keyOf_20 (lv_at hl 0 rfl) ?_
      refine jv_iadd hx hb dX9_keyOf_22 ?_
      refine jv_iconst hx hb dX9_keyOf_23 ?_
      refine jv_isub hx hb dX9_keyOf_24 ?_
      refine kV ⟨hx, hb, hml, hown, hts⟩ hK hA hS hP hD [.int (jz 0), .int (jz ((i + 0) - 1))] [.int (jz (4 * 0))] (mX9_of l G x xs xb xm xf xu xg xw kn 2 ft vh vm vs ln th sp pl wr br aS aB aM aO aU aG aW 0 ((i + 0) - 1) (by omega) (by omega)) lkX9_46 [0] [] (br := []) rfl rfl (by decide) 0 9 rfl rfl rfl rfl (Nat.le_of_ble_eq_true rfl) hl.1 dX9_keyOf_25 ⟨Nat.le_of_ble_eq_true rfl, Nat.le_of_ble_eq_true rfl⟩ ⟨Nat.le_of_ble_eq_true rfl, Nat.le_of_ble_eq_true rfl⟩ (fun u9 H locs hp9 hP hD hS => ?_)
      have hP : wP G [bMod G x xs xb xm xf xu xg xw kn 2 ft vh vm vs ln th sp pl wr br aS aB aM aO aU aG aW] H := hP
      have hD : wD A [bMod G x xs xb xm xf xu xg xw kn 2 ft vh vm vs ln th sp pl wr br aS aB aM aO aU aG aW] := hD
      show W p l e rmX9_keyOf_2 s m args below meth c H locs 0 0 Q (F0 m 28 ls [.int (jz (T9 aS 0 ((i + 0) - 1))), .int (jz (4 * 0))])
      refine jv_iadd hx hb dX9_keyOf_28 ?_
      refine lv_istore_n (lv' := [(3, .int (jz ((4 * 0) + (T9 aS 0 ((i + 0) - 1))))), (4, .int (jz 0)), (0, .ref x), (1, .int (jz i)), (2, .int (jz j))]) hx hb dX9_keyOf_29 rfl hl (by decide) rfl (fun ls hl => ?_)
      refine jv_iinc (lv' := [(4, .int (jz (0 + 1))), (3, .int (jz ((4 * 0) + (T9 aS 0 ((i + 0) - 1))))), (0, .ref x), (1, .int (jz i)), (2, .int (jz j))]) (k := 1) hx hb dX9_keyOf_30 hl rfl (by decide) rfl (fun ls hl => ?_)
      refine lv_goto (tgt := 5) hx hb dX9_keyOf_33 (by decide) ?_
      refine lv_iload hx hb dX9_keyOf_5 (lv_at hl 0 rfl) ?_
      refine lv_aload_n hx hb dX9_keyOf_7 rfl (lv_at hl 2 rfl) ?_
      refine va_get (ci := 9) (v := .int (jz 2)) (C := RX9) (T := TX9) (N := 19) hx hb hts wfX9 hown hK.1 hP 0 rfl rfl 3 (by decide) (hts _ wm813) (fun _ h9 => h9) rfl dX9_keyOf_8 ?_
      refine jv_icmp_ge (tgt := 36) hx hb dX9_keyOf_11 (by decide) (by omega) (by omega) (fun c_3 => ?_) (fun c_3 => ?_)
      · exfalso; omega
      · refine jv_iconst hx hb dX9_keyOf_14 ?_
        refine lv_iload_n hx hb dX9_keyOf_15 rfl (lv_at hl 1 rfl) ?_
        refine jv_imul hx hb dX9_keyOf_16 ?_
        refine lv_aload_n hx hb dX9_keyOf_17 rfl (lv_at hl 2 rfl) ?_
        refine jv_iconst hx hb dX9_keyOf_18 ?_
        refine lv_iload_n hx hb dX9_keyOf_19 rfl (lv_at hl 3 rfl) ?_
        refine lv_iload hx hb dX9_keyOf_20 (lv_at hl 0 rfl) ?_
        refine jv_iadd hx hb dX9_keyOf_22 ?_
        refine jv_iconst hx hb dX9_keyOf_23 ?_
        refine jv_isub hx hb dX9_keyOf_24 ?_
        refine kV ⟨hx, hb, hml, hown, hts⟩ hK hA hS hP hD [.int (jz 0), .int (jz ((i + (0 + 1)) - 1))] [.int (jz (4 * ((4 * 0) + (T9 aS 0 ((i + 0) - 1)))))] (mX9_of l G x xs xb xm xf xu xg xw kn 2 ft vh vm vs ln th sp pl wr br aS aB aM aO aU aG aW 0 ((i + (0 + 1)) - 1) (by omega) (by omega)) lkX9_46 [0] [] (br := []) rfl rfl (by decide) 0 9 rfl rfl rfl rfl (Nat.le_of_ble_eq_true rfl) hl.1 dX9_keyOf_25 ⟨Nat.le_of_ble_eq_true rfl, Nat.le_of_ble_eq_true rfl⟩ ⟨Nat.le_of_ble_eq_true rfl, Nat.le_of_ble_eq_true rfl⟩ (fun u9 H locs hp9 hP hD hS => ?_)
        have hP : wP G [bMod G x xs xb xm xf xu xg xw kn 2 ft vh vm vs ln th sp pl wr br aS aB aM aO aU aG aW] H := hP
        have hD : wD A [bMod G x xs xb xm xf xu xg xw kn 2 ft vh vm vs ln th sp pl wr br aS aB aM aO aU aG aW] := hD
        show W p l e rmX9_keyOf_2 s m args below meth c H locs 0 0 Q (F0 m 28 ls [.int (jz (T9 aS 0 ((i + (0 + 1)) - 1))), .int (jz (4 * ((4 * 0) + (T9 aS 0 ((i + 0) - 1)))))])
        refine jv_iadd hx hb dX9_keyOf_28 ?_
        refine lv_istore_n (lv' := [(3, .int (jz ((4 * ((4 * 0) + (T9 aS 0 ((i + 0) - 1)))) + (T9 aS 0 ((i + (0 + 1)) - 1))))), (4, .int (jz (0 + 1))), (0, .ref x), (1, .int (jz i)), (2, .int (jz j))]) hx hb dX9_keyOf_29 rfl hl (by decide) rfl (fun ls hl => ?_)
        refine jv_iinc (lv' := [(4, .int (jz ((0 + 1) + 1))), (3, .int (jz ((4 * ((4 * 0) + (T9 aS 0 ((i + 0) - 1)))) + (T9 aS 0 ((i + (0 + 1)) - 1))))), (0, .ref x), (1, .int (jz i)), (2, .int (jz j))]) (k := 1) hx hb dX9_keyOf_30 hl rfl (by decide) rfl (fun ls hl => ?_)
        refine lv_goto (tgt := 5) hx hb dX9_keyOf_33 (by decide) ?_
        refine lv_iload hx hb dX9_keyOf_5 (lv_at hl 0 rfl) ?_
        refine lv_aload_n hx hb dX9_keyOf_7 rfl (lv_at hl 2 rfl) ?_
        refine va_get (ci := 9) (v := .int (jz 2)) (C := RX9) (T := TX9) (N := 19) hx hb hts wfX9 hown hK.1 hP 0 rfl rfl 3 (by decide) (hts _ wm813) (fun _ h9 => h9) rfl dX9_keyOf_8 ?_
        refine jv_icmp_ge (tgt := 36) hx hb dX9_keyOf_11 (by decide) (by omega) (by omega) (fun c_5 => ?_) (fun c_5 => ?_)
        · refine jv_iconst hx hb dX9_keyOf_36 ?_
          refine lv_istore (lv' := [(4, .int (jz 0)), (3, .int (jz ((4 * ((4 * 0) + (T9 aS 0 ((i + 0) - 1)))) + (T9 aS 0 ((i + (0 + 1)) - 1))))), (0, .ref x), (1, .int (jz i)), (2, .int (jz j))]) hx hb dX9_keyOf_37 hl (by decide) rfl (fun ls hl => ?_)
          refine lv_iload hx hb dX9_keyOf_39 (lv_at hl 0 rfl) ?_
          refine lv_aload_n hx hb dX9_keyOf_41 rfl (lv_at hl 2 rfl) ?_
          refine va_get (ci := 9) (v := .int (jz 2)) (C := RX9) (T := TX9) (N := 19) hx hb hts wfX9 hown hK.1 hP 0 rfl rfl 3 (by decide) (hts _ wm813) (fun _ h9 => h9) rfl dX9_keyOf_42 ?_
          refine jv_icmp_ge (tgt := 70) hx hb dX9_keyOf_45 (by decide) (by omega) (by omega) (fun c_6 => ?_) (fun c_6 => ?_)
          · exfalso; omega
          · refine jv_iconst hx hb dX9_keyOf_48 ?_
            refine lv_iload_n hx hb dX9_keyOf_49 rfl (lv_at hl 1 rfl) ?_
            refine jv_imul hx hb dX9_keyOf_50 ?_
            refine lv_aload_n hx hb dX9_keyOf_51 rfl (lv_at hl 2 rfl) ?_
            refine jv_iconst hx hb dX9_keyOf_52 ?_
            refine lv_iload_n hx hb dX9_keyOf_53 rfl (lv_at hl 4 rfl) ?_
            refine lv_iload hx hb dX9_keyOf_54 (lv_at hl 0 rfl) ?_
            refine jv_iadd hx hb dX9_keyOf_56 ?_
            refine jv_iconst hx hb dX9_keyOf_57 ?_
            refine jv_isub hx hb dX9_keyOf_58 ?_
            refine kV ⟨hx, hb, hml, hown, hts⟩ hK hA hS hP hD [.int (jz 1), .int (jz ((j + 0) - 1))] [.int (jz (4 * ((4 * ((4 * 0) + (T9 aS 0 ((i + 0) - 1)))) + (T9 aS 0 ((i + (0 + 1)) - 1)))))] (mX9_of l G x xs xb xm xf xu xg xw kn 2 ft vh vm vs ln th sp pl wr br aS aB aM aO aU aG aW 1 ((j + 0) - 1) (by omega) (by omega)) lkX9_46 [0] [] (br := []) rfl rfl (by decide) 0 9 rfl rfl rfl rfl (Nat.le_of_ble_eq_true rfl) hl.1 dX9_keyOf_59 ⟨Nat.le_of_ble_eq_true rfl, Nat.le_of_ble_eq_true rfl⟩ ⟨Nat.le_of_ble_eq_true rfl, Nat.le_of_ble_eq_true rfl⟩ (fun u9 H locs hp9 hP hD hS => ?_)
            have hP : wP G [bMod G x xs xb xm xf xu xg xw kn 2 ft vh vm vs ln th sp pl wr br aS aB aM aO aU aG aW] H := hP
            have hD : wD A [bMod G x xs xb xm xf xu xg xw kn 2 ft vh vm vs ln th sp pl wr br aS aB aM aO aU aG aW] := hD
            show W p l e rmX9_keyOf_2 s m args below meth c H locs 0 0 Q (F0 m 62 ls [.int (jz (T9 aS 1 ((j + 0) - 1))), .int (jz (4 * ((4 * ((4 * 0) + (T9 aS 0 ((i + 0) - 1)))) + (T9 aS 0 ((i + (0 + 1)) - 1)))))])
            refine jv_iadd hx hb dX9_keyOf_62 ?_
            refine lv_istore_n (lv' := [(3, .int (jz ((4 * ((4 * ((4 * 0) + (T9 aS 0 ((i + 0) - 1)))) + (T9 aS 0 ((i + (0 + 1)) - 1)))) + (T9 aS 1 ((j + 0) - 1))))), (4, .int (jz 0)), (0, .ref x), (1, .int (jz i)), (2, .int (jz j))]) hx hb dX9_keyOf_63 rfl hl (by decide) rfl (fun ls hl => ?_)
            refine jv_iinc (lv' := [(4, .int (jz (0 + 1))), (3, .int (jz ((4 * ((4 * ((4 * 0) + (T9 aS 0 ((i + 0) - 1)))) + (T9 aS 0 ((i + (0 + 1)) - 1)))) + (T9 aS 1 ((j + 0) - 1))))), (0, .ref x), (1, .int (jz i)), (2, .int (jz j))]) (k := 1) hx hb dX9_keyOf_64 hl rfl (by decide) rfl (fun ls hl => ?_)
            refine lv_goto (tgt := 39) hx hb dX9_keyOf_67 (by decide) ?_
            refine lv_iload hx hb dX9_keyOf_39 (lv_at hl 0 rfl) ?_
            refine lv_aload_n hx hb dX9_keyOf_41 rfl (lv_at hl 2 rfl) ?_
            refine va_get (ci := 9) (v := .int (jz 2)) (C := RX9) (T := TX9) (N := 19) hx hb hts wfX9 hown hK.1 hP 0 rfl rfl 3 (by decide) (hts _ wm813) (fun _ h9 => h9) rfl dX9_keyOf_42 ?_
            refine jv_icmp_ge (tgt := 70) hx hb dX9_keyOf_45 (by decide) (by omega) (by omega) (fun c_8 => ?_) (fun c_8 => ?_)
            · exfalso; omega
            · refine jv_iconst hx hb dX9_keyOf_48 ?_
              refine lv_iload_n hx hb dX9_keyOf_49 rfl (lv_at hl 1 rfl) ?_
              refine jv_imul hx hb dX9_keyOf_50 ?_
              refine lv_aload_n hx hb dX9_keyOf_51 rfl (lv_at hl 2 rfl) ?_
              refine jv_iconst hx hb dX9_keyOf_52 ?_
              refine lv_iload_n hx hb dX9_keyOf_53 rfl (lv_at hl 4 rfl) ?_
              refine lv_iload hx hb dX9_keyOf_54 (lv_at hl 0 rfl) ?_
              refine jv_iadd hx hb dX9_keyOf_56 ?_
              refine jv_iconst hx hb dX9_keyOf_57 ?_
              refine jv_isub hx hb dX9_keyOf_58 ?_
              refine kV ⟨hx, hb, hml, hown, hts⟩ hK hA hS hP hD [.int (jz 1), .int (jz ((j + (0 + 1)) - 1))] [.int (jz (4 * ((4 * ((4 * ((4 * 0) + (T9 aS 0 ((i + 0) - 1)))) + (T9 aS 0 ((i + (0 + 1)) - 1)))) + (T9 aS 1 ((j + 0) - 1)))))] (mX9_of l G x xs xb xm xf xu xg xw kn 2 ft vh vm vs ln th sp pl wr br aS aB aM aO aU aG aW 1 ((j + (0 + 1)) - 1) (by omega) (by omega)) lkX9_46 [0] [] (br := []) rfl rfl (by decide) 0 9 rfl rfl rfl rfl (Nat.le_of_ble_eq_true rfl) hl.1 dX9_keyOf_59 ⟨Nat.le_of_ble_eq_true rfl, Nat.le_of_ble_eq_true rfl⟩ ⟨Nat.le_of_ble_eq_true rfl, Nat.le_of_ble_eq_true rfl⟩ (fun u9 H locs hp9 hP hD hS => ?_)
              have hP : wP G [bMod G x xs xb xm xf xu xg xw kn 2 ft vh vm vs ln th sp pl wr br aS aB aM aO aU aG aW] H := hP
              have hD : wD A [bMod G x xs xb xm xf xu xg xw kn 2 ft vh vm vs ln th sp pl wr br aS aB aM aO aU aG aW] := hD
              show W p l e rmX9_keyOf_2 s m args below meth c H locs 0 0 Q (F0 m 62 ls [.int (jz (T9 aS 1 ((j + (0 + 1)) - 1))), .int (jz (4 * ((4 * ((4 * ((4 * 0) + (T9 aS 0 ((i + 0) - 1)))) + (T9 aS 0 ((i + (0 + 1)) - 1)))) + (T9 aS 1 ((j + 0) - 1)))))])
              refine jv_iadd hx hb dX9_keyOf_62 ?_
              refine lv_istore_n (lv' := [(3, .int (jz ((4 * ((4 * ((4 * ((4 * 0) + (T9 aS 0 ((i + 0) - 1)))) + (T9 aS 0 ((i + (0 + 1)) - 1)))) + (T9 aS 1 ((j + 0) - 1)))) + (T9 aS 1 ((j + (0 + 1)) - 1))))), (4, .int (jz (0 + 1))), (0, .ref x), (1, .int (jz i)), (2, .int (jz j))]) hx hb dX9_keyOf_63 rfl hl (by decide) rfl (fun ls hl => ?_)
              refine jv_iinc (lv' := [(4, .int (jz ((0 + 1) + 1))), (3, .int (jz ((4 * ((4 * ((4 * ((4 * 0) + (T9 aS 0 ((i + 0) - 1)))) + (T9 aS 0 ((i + (0 + 1)) - 1)))) + (T9 aS 1 ((j + 0) - 1)))) + (T9 aS 1 ((j + (0 + 1)) - 1))))), (0, .ref x), (1, .int (jz i)), (2, .int (jz j))]) (k := 1) hx hb dX9_keyOf_64 hl rfl (by decide) rfl (fun ls hl => ?_)
              refine lv_goto (tgt := 39) hx hb dX9_keyOf_67 (by decide) ?_
              refine lv_iload hx hb dX9_keyOf_39 (lv_at hl 0 rfl) ?_
              refine lv_aload_n hx hb dX9_keyOf_41 rfl (lv_at hl 2 rfl) ?_
              refine va_get (ci := 9) (v := .int (jz 2)) (C := RX9) (T := TX9) (N := 19) hx hb hts wfX9 hown hK.1 hP 0 rfl rfl 3 (by decide) (hts _ wm813) (fun _ h9 => h9) rfl dX9_keyOf_42 ?_
              refine jv_icmp_ge (tgt := 70) hx hb dX9_keyOf_45 (by decide) (by omega) (by omega) (fun c_10 => ?_) (fun c_10 => ?_)
              · refine jv_iconst hx hb dX9_keyOf_70 ?_
                refine lv_istore (lv' := [(4, .int (jz 0)), (3, .int (jz ((4 * ((4 * ((4 * ((4 * 0) + (T9 aS 0 ((i + 0) - 1)))) + (T9 aS 0 ((i + (0 + 1)) - 1)))) + (T9 aS 1 ((j + 0) - 1)))) + (T9 aS 1 ((j + (0 + 1)) - 1))))), (0, .ref x), (1, .int (jz i)), (2, .int (jz j))]) hx hb dX9_keyOf_71 hl (by decide) rfl (fun ls hl => ?_)
                refine lv_iload hx hb dX9_keyOf_73 (lv_at hl 0 rfl) ?_
                refine lv_aload_n hx hb dX9_keyOf_75 rfl (lv_at hl 2 rfl) ?_
                refine va_get (ci := 9) (v := .int (jz 2)) (C := RX9) (T := TX9) (N := 19) hx hb hts wfX9 hown hK.1 hP 0 rfl rfl 3 (by decide) (hts _ wm813) (fun _ h9 => h9) rfl dX9_keyOf_76 ?_
                refine jv_icmp_ge (tgt := 120) hx hb dX9_keyOf_79 (by decide) (by omega) (by omega) (fun c_11 => ?_) (fun c_11 => ?_)
                · exfalso; omega
                · refine jv_iconst hx hb dX9_keyOf_82 ?_
                  refine lv_iload_n hx hb dX9_keyOf_83 rfl (lv_at hl 1 rfl) ?_
                  refine jv_imul hx hb dX9_keyOf_84 ?_
                  refine jv_iconst hx hb dX9_keyOf_85 ?_
                  refine jv_iadd hx hb dX9_keyOf_86 ?_
                  refine lv_aload_n hx hb dX9_keyOf_87 rfl (lv_at hl 2 rfl) ?_
                  refine lv_iload_n hx hb dX9_keyOf_88 rfl (lv_at hl 3 rfl) ?_
                  refine jv_iconst hx hb dX9_keyOf_89 ?_
                  refine jv_isub hx hb dX9_keyOf_90 ?_
                  refine lv_iload_n hx hb dX9_keyOf_91 rfl (lv_at hl 4 rfl) ?_
                  refine lv_iload hx hb dX9_keyOf_92 (lv_at hl 0 rfl) ?_
                  refine jv_iadd hx hb dX9_keyOf_94 ?_
                  refine kV ⟨hx, hb, hml, hown, hts⟩ hK hA hS hP hD [.int (jz (i - 1)), .int (jz (j + 0))] [.int (jz ((3 * ((4 * ((4 * ((4 * ((4 * 0) + (T9 aS 0 ((i + 0) - 1)))) + (T9 aS 0 ((i + (0 + 1)) - 1)))) + (T9 aS 1 ((j + 0) - 1)))) + (T9 aS 1 ((j + (0 + 1)) - 1)))) + 1))] (mX9_d l G x xs xb xm xf xu xg xw kn 2 ft vh vm vs ln th sp pl wr br aS aB aM aO aU aG aW (i - 1) (j + 0) (by omega) (by omega)) lkX9_50 [0] [] (br := []) rfl rfl (by decide) 0 9 rfl rfl rfl rfl (Nat.le_of_ble_eq_true rfl) hl.1 dX9_keyOf_95 ⟨Nat.le_of_ble_eq_true rfl, Nat.le_of_ble_eq_true rfl⟩ ⟨Nat.le_of_ble_eq_true rfl, Nat.le_of_ble_eq_true rfl⟩ (fun u9 H locs hp9 hP hD hS => ?_)
                  have hP : wP G [bMod G x xs xb xm xf xu xg xw kn 2 ft vh vm vs ln th sp pl wr br aS aB aM aO aU aG aW] H := hP
                  have hD : wD A [bMod G x xs xb xm xf xu xg xw kn 2 ft vh vm vs ln th sp pl wr br aS aB aM aO aU aG aW] := hD
                  show W p l e rmX9_keyOf_2 s m args below meth c H locs 0 0 Q (F0 m 98 ls [.int (jz (aG (21 * (i - 1) + (j + 0)))), .int (jz ((3 * ((4 * ((4 * ((4 * ((4 * 0) + (T9 aS 0 ((i + 0) - 1)))) + (T9 aS 0 ((i + (0 + 1)) - 1)))) + (T9 aS 1 ((j + 0) - 1)))) + (T9 aS 1 ((j + (0 + 1)) - 1)))) + 1))])
                  refine jv_iadd hx hb dX9_keyOf_98 ?_
                  refine lv_aload_n hx hb dX9_keyOf_99 rfl (lv_at hl 2 rfl) ?_
                  refine lv_iload_n hx hb dX9_keyOf_100 rfl (lv_at hl 3 rfl) ?_
                  refine jv_iconst hx hb dX9_keyOf_101 ?_
                  refine jv_isub hx hb dX9_keyOf_102 ?_
                  refine lv_iload_n hx hb dX9_keyOf_103 rfl (lv_at hl 4 rfl) ?_
                  refine lv_iload hx hb dX9_keyOf_104 (lv_at hl 0 rfl) ?_
                  refine jv_iadd hx hb dX9_keyOf_106 ?_
                  refine jv_iconst hx hb dX9_keyOf_107 ?_
                  refine jv_isub hx hb dX9_keyOf_108 ?_
                  refine kV ⟨hx, hb, hml, hown, hts⟩ hK hA hS hP hD [.int (jz (i - 1)), .int (jz ((j + 0) - 1))] [.int (jz (((3 * ((4 * ((4 * ((4 * ((4 * 0) + (T9 aS 0 ((i + 0) - 1)))) + (T9 aS 0 ((i + (0 + 1)) - 1)))) + (T9 aS 1 ((j + 0) - 1)))) + (T9 aS 1 ((j + (0 + 1)) - 1)))) + 1) + (aG (21 * (i - 1) + (j + 0)))))] (mX9_d l G x xs xb xm xf xu xg xw kn 2 ft vh vm vs ln th sp pl wr br aS aB aM aO aU aG aW (i - 1) ((j + 0) - 1) (by omega) (by omega)) lkX9_50 [0] [] (br := []) rfl rfl (by decide) 0 9 rfl rfl rfl rfl (Nat.le_of_ble_eq_true rfl) hl.1 dX9_keyOf_109 ⟨Nat.le_of_ble_eq_true rfl, Nat.le_of_ble_eq_true rfl⟩ ⟨Nat.le_of_ble_eq_true rfl, Nat.le_of_ble_eq_true rfl⟩ (fun u9 H locs hp9 hP hD hS => ?_)
                  have hP : wP G [bMod G x xs xb xm xf xu xg xw kn 2 ft vh vm vs ln th sp pl wr br aS aB aM aO aU aG aW] H := hP
                  have hD : wD A [bMod G x xs xb xm xf xu xg xw kn 2 ft vh vm vs ln th sp pl wr br aS aB aM aO aU aG aW] := hD
                  show W p l e rmX9_keyOf_2 s m args below meth c H locs 0 0 Q (F0 m 112 ls [.int (jz (aG (21 * (i - 1) + ((j + 0) - 1)))), .int (jz (((3 * ((4 * ((4 * ((4 * ((4 * 0) + (T9 aS 0 ((i + 0) - 1)))) + (T9 aS 0 ((i + (0 + 1)) - 1)))) + (T9 aS 1 ((j + 0) - 1)))) + (T9 aS 1 ((j + (0 + 1)) - 1)))) + 1) + (aG (21 * (i - 1) + (j + 0)))))])
                  refine jv_isub hx hb dX9_keyOf_112 ?_
                  refine lv_istore_n (lv' := [(3, .int (jz ((((3 * ((4 * ((4 * ((4 * ((4 * 0) + (T9 aS 0 ((i + 0) - 1)))) + (T9 aS 0 ((i + (0 + 1)) - 1)))) + (T9 aS 1 ((j + 0) - 1)))) + (T9 aS 1 ((j + (0 + 1)) - 1)))) + 1) + (aG (21 * (i - 1) + (j + 0)))) - (aG (21 * (i - 1) + ((j + 0) - 1)))))), (4, .int (jz 0)), (0, .ref x), (1, .int (jz i)), (2, .int (jz j))]) hx hb dX9_keyOf_113 rfl hl (by decide) rfl (fun ls hl => ?_)
                  refine jv_iinc (lv' := [(4, .int (jz (0 + 1))), (3, .int (jz ((((3 * ((4 * ((4 * ((4 * ((4 * 0) + (T9 aS 0 ((i + 0) - 1)))) + (T9 aS 0 ((i + (0 + 1)) - 1)))) + (T9 aS 1 ((j + 0) - 1)))) + (T9 aS 1 ((j + (0 + 1)) - 1)))) + 1) + (aG (21 * (i - 1) + (j + 0)))) - (aG (21 * (i - 1) + ((j + 0) - 1)))))), (0, .ref x), (1, .int (jz i)), (2, .int (jz j))]) (k := 1) hx hb dX9_keyOf_114 hl rfl (by decide) rfl (fun ls hl => ?_)
                  refine lv_goto (tgt := 73) hx hb dX9_keyOf_117 (by decide) ?_
                  refine lv_iload hx hb dX9_keyOf_73 (lv_at hl 0 rfl) ?_
                  refine lv_aload_n hx hb dX9_keyOf_75 rfl (lv_at hl 2 rfl) ?_
                  refine va_get (ci := 9) (v := .int (jz 2)) (C := RX9) (T := TX9) (N := 19) hx hb hts wfX9 hown hK.1 hP 0 rfl rfl 3 (by decide) (hts _ wm813) (fun _ h9 => h9) rfl dX9_keyOf_76 ?_
                  refine jv_icmp_ge (tgt := 120) hx hb dX9_keyOf_79 (by decide) (by omega) (by omega) (fun c_14 => ?_) (fun c_14 => ?_)
                  · exfalso; omega
                  · refine jv_iconst hx hb dX9_keyOf_82 ?_
                    refine lv_iload_n hx hb dX9_keyOf_83 rfl (lv_at hl 1 rfl) ?_
                    refine jv_imul hx hb dX9_keyOf_84 ?_
                    refine jv_iconst hx hb dX9_keyOf_85 ?_
                    refine jv_iadd hx hb dX9_keyOf_86 ?_
                    refine lv_aload_n hx hb dX9_keyOf_87 rfl (lv_at hl 2 rfl) ?_
                    refine lv_iload_n hx hb dX9_keyOf_88 rfl (lv_at hl 3 rfl) ?_
                    refine jv_iconst hx hb dX9_keyOf_89 ?_
                    refine jv_isub hx hb dX9_keyOf_90 ?_
                    refine lv_iload_n hx hb dX9_keyOf_91 rfl (lv_at hl 4 rfl) ?_
                    refine lv_iload hx hb dX9_keyOf_92 (lv_at hl 0 rfl) ?_
                    refine jv_iadd hx hb dX9_keyOf_94 ?_
                    refine kV ⟨hx, hb, hml, hown, hts⟩ hK hA hS hP hD [.int (jz (i - 1)), .int (jz (j + (0 + 1)))] [.int (jz ((3 * ((((3 * ((4 * ((4 * ((4 * ((4 * 0) + (T9 aS 0 ((i + 0) - 1)))) + (T9 aS 0 ((i + (0 + 1)) - 1)))) + (T9 aS 1 ((j + 0) - 1)))) + (T9 aS 1 ((j + (0 + 1)) - 1)))) + 1) + (aG (21 * (i - 1) + (j + 0)))) - (aG (21 * (i - 1) + ((j + 0) - 1))))) + 1))] (mX9_d l G x xs xb xm xf xu xg xw kn 2 ft vh vm vs ln th sp pl wr br aS aB aM aO aU aG aW (i - 1) (j + (0 + 1)) (by omega) (by omega)) lkX9_50 [0] [] (br := []) rfl rfl (by decide) 0 9 rfl rfl rfl rfl (Nat.le_of_ble_eq_true rfl) hl.1 dX9_keyOf_95 ⟨Nat.le_of_ble_eq_true rfl, Nat.le_of_ble_eq_true rfl⟩ ⟨Nat.le_of_ble_eq_true rfl, Nat.le_of_ble_eq_true rfl⟩ (fun u9 H locs hp9 hP hD hS => ?_)
                    have hP : wP G [bMod G x xs xb xm xf xu xg xw kn 2 ft vh vm vs ln th sp pl wr br aS aB aM aO aU aG aW] H := hP
                    have hD : wD A [bMod G x xs xb xm xf xu xg xw kn 2 ft vh vm vs ln th sp pl wr br aS aB aM aO aU aG aW] := hD
                    show W p l e rmX9_keyOf_2 s m args below meth c H locs 0 0 Q (F0 m 98 ls [.int (jz (aG (21 * (i - 1) + (j + (0 + 1))))), .int (jz ((3 * ((((3 * ((4 * ((4 * ((4 * ((4 * 0) + (T9 aS 0 ((i + 0) - 1)))) + (T9 aS 0 ((i + (0 + 1)) - 1)))) + (T9 aS 1 ((j + 0) - 1)))) + (T9 aS 1 ((j + (0 + 1)) - 1)))) + 1) + (aG (21 * (i - 1) + (j + 0)))) - (aG (21 * (i - 1) + ((j + 0) - 1))))) + 1))])
                    refine jv_iadd hx hb dX9_keyOf_98 ?_
                    refine lv_aload_n hx hb dX9_keyOf_99 rfl (lv_at hl 2 rfl) ?_
                    refine lv_iload_n hx hb dX9_keyOf_100 rfl (lv_at hl 3 rfl) ?_
                    refine jv_iconst hx hb dX9_keyOf_101 ?_
                    refine jv_isub hx hb dX9_keyOf_102 ?_
                    refine lv_iload_n hx hb dX9_keyOf_103 rfl (lv_at hl 4 rfl) ?_
                    refine lv_iload hx hb dX9_keyOf_104 (lv_at hl 0 rfl) ?_
                    refine jv_iadd hx hb dX9_keyOf_106 ?_
                    refine jv_iconst hx hb dX9_keyOf_107 ?_
                    refine jv_isub hx hb dX9_keyOf_108 ?_
                    refine kV ⟨hx, hb, hml, hown, hts⟩ hK hA hS hP hD [.int (jz (i - 1)), .int (jz ((j + (0 + 1)) - 1))] [.int (jz (((3 * ((((3 * ((4 * ((4 * ((4 * ((4 * 0) + (T9 aS 0 ((i + 0) - 1)))) + (T9 aS 0 ((i + (0 + 1)) - 1)))) + (T9 aS 1 ((j + 0) - 1)))) + (T9 aS 1 ((j + (0 + 1)) - 1)))) + 1) + (aG (21 * (i - 1) + (j + 0)))) - (aG (21 * (i - 1) + ((j + 0) - 1))))) + 1) + (aG (21 * (i - 1) + (j + (0 + 1))))))] (mX9_d l G x xs xb xm xf xu xg xw kn 2 ft vh vm vs ln th sp pl wr br aS aB aM aO aU aG aW (i - 1) ((j + (0 + 1)) - 1) (by omega) (by omega)) lkX9_50 [0] [] (br := []) rfl rfl (by decide) 0 9 rfl rfl rfl rfl (Nat.le_of_ble_eq_true rfl) hl.1 dX9_keyOf_109 ⟨Nat.le_of_ble_eq_true rfl, Nat.le_of_ble_eq_true rfl⟩ ⟨Nat.le_of_ble_eq_true rfl, Nat.le_of_ble_eq_true rfl⟩ (fun u9 H locs hp9 hP hD hS => ?_)
                    have hP : wP G [bMod G x xs xb xm xf xu xg xw kn 2 ft vh vm vs ln th sp pl wr br aS aB aM aO aU aG aW] H := hP
                    have hD : wD A [bMod G x xs xb xm xf xu xg xw kn 2 ft vh vm vs ln th sp pl wr br aS aB aM aO aU aG aW] := hD
                    show W p l e rmX9_keyOf_2 s m args below meth c H locs 0 0 Q (F0 m 112 ls [.int (jz (aG (21 * (i - 1) + ((j + (0 + 1)) - 1)))), .int (jz (((3 * ((((3 * ((4 * ((4 * ((4 * ((4 * 0) + (T9 aS 0 ((i + 0) - 1)))) + (T9 aS 0 ((i + (0 + 1)) - 1)))) + (T9 aS 1 ((j + 0) - 1)))) + (T9 aS 1 ((j + (0 + 1)) - 1)))) + 1) + (aG (21 * (i - 1) + (j + 0)))) - (aG (21 * (i - 1) + ((j + 0) - 1))))) + 1) + (aG (21 * (i - 1) + (j + (0 + 1))))))])
                    refine jv_isub hx hb dX9_keyOf_112 ?_
                    refine lv_istore_n (lv' := [(3, .int (jz ((((3 * ((((3 * ((4 * ((4 * ((4 * ((4 * 0) + (T9 aS 0 ((i + 0) - 1)))) + (T9 aS 0 ((i + (0 + 1)) - 1)))) + (T9 aS 1 ((j + 0) - 1)))) + (T9 aS 1 ((j + (0 + 1)) - 1)))) + 1) + (aG (21 * (i - 1) + (j + 0)))) - (aG (21 * (i - 1) + ((j + 0) - 1))))) + 1) + (aG (21 * (i - 1) + (j + (0 + 1))))) - (aG (21 * (i - 1) + ((j + (0 + 1)) - 1)))))), (4, .int (jz (0 + 1))), (0, .ref x), (1, .int (jz i)), (2, .int (jz j))]) hx hb dX9_keyOf_113 rfl hl (by decide) rfl (fun ls hl => ?_)
                    refine jv_iinc (lv' := [(4, .int (jz ((0 + 1) + 1))), (3, .int (jz ((((3 * ((((3 * ((4 * ((4 * ((4 * ((4 * 0) + (T9 aS 0 ((i + 0) - 1)))) + (T9 aS 0 ((i + (0 + 1)) - 1)))) + (T9 aS 1 ((j + 0) - 1)))) + (T9 aS 1 ((j + (0 + 1)) - 1)))) + 1) + (aG (21 * (i - 1) + (j + 0)))) - (aG (21 * (i - 1) + ((j + 0) - 1))))) + 1) + (aG (21 * (i - 1) + (j + (0 + 1))))) - (aG (21 * (i - 1) + ((j + (0 + 1)) - 1)))))), (0, .ref x), (1, .int (jz i)), (2, .int (jz j))]) (k := 1) hx hb dX9_keyOf_114 hl rfl (by decide) rfl (fun ls hl => ?_)
                    refine lv_goto (tgt := 73) hx hb dX9_keyOf_117 (by decide) ?_
                    refine lv_iload hx hb dX9_keyOf_73 (lv_at hl 0 rfl) ?_
                    refine lv_aload_n hx hb dX9_keyOf_75 rfl (lv_at hl 2 rfl) ?_
                    refine va_get (ci := 9) (v := .int (jz 2)) (C := RX9) (T := TX9) (N := 19) hx hb hts wfX9 hown hK.1 hP 0 rfl rfl 3 (by decide) (hts _ wm813) (fun _ h9 => h9) rfl dX9_keyOf_76 ?_
                    refine jv_icmp_ge (tgt := 120) hx hb dX9_keyOf_79 (by decide) (by omega) (by omega) (fun c_17 => ?_) (fun c_17 => ?_)
                    · refine jv_iconst hx hb dX9_keyOf_120 ?_
                      refine lv_istore (lv' := [(4, .int (jz 0)), (3, .int (jz ((((3 * ((((3 * ((4 * ((4 * ((4 * ((4 * 0) + (T9 aS 0 ((i + 0) - 1)))) + (T9 aS 0 ((i + (0 + 1)) - 1)))) + (T9 aS 1 ((j + 0) - 1)))) + (T9 aS 1 ((j + (0 + 1)) - 1)))) + 1) + (aG (21 * (i - 1) + (j + 0)))) - (aG (21 * (i - 1) + ((j + 0) - 1))))) + 1) + (aG (21 * (i - 1) + (j + (0 + 1))))) - (aG (21 * (i - 1) + ((j + (0 + 1)) - 1)))))), (0, .ref x), (1, .int (jz i)), (2, .int (jz j))]) hx hb dX9_keyOf_121 hl (by decide) rfl (fun ls hl => ?_)
                      refine lv_iload hx hb dX9_keyOf_123 (lv_at hl 0 rfl) ?_
                      refine lv_aload_n hx hb dX9_keyOf_125 rfl (lv_at hl 2 rfl) ?_
                      refine va_get (ci := 9) (v := .int (jz 2)) (C := RX9) (T := TX9) (N := 19) hx hb hts wfX9 hown hK.1 hP 0 rfl rfl 3 (by decide) (hts _ wm813) (fun _ h9 => h9) rfl dX9_keyOf_126 ?_
                      refine jv_icmp_ge (tgt := 170) hx hb dX9_keyOf_129 (by decide) (by omega) (by omega) (fun c_18 => ?_) (fun c_18 => ?_)
                      · exfalso; omega
                      · refine jv_iconst hx hb dX9_keyOf_132 ?_
                        refine lv_iload_n hx hb dX9_keyOf_133 rfl (lv_at hl 1 rfl) ?_
                        refine jv_imul hx hb dX9_keyOf_134 ?_
                        refine jv_iconst hx hb dX9_keyOf_135 ?_
                        refine jv_iadd hx hb dX9_keyOf_136 ?_
                        refine lv_aload_n hx hb dX9_keyOf_137 rfl (lv_at hl 2 rfl) ?_
                        refine lv_iload_n hx hb dX9_keyOf_138 rfl (lv_at hl 3 rfl) ?_
                        refine lv_iload hx hb dX9_keyOf_139 (lv_at hl 0 rfl) ?_
                        refine jv_iadd hx hb dX9_keyOf_141 ?_
                        refine lv_iload_n hx hb dX9_keyOf_142 rfl (lv_at hl 4 rfl) ?_
                        refine jv_iconst hx hb dX9_keyOf_143 ?_
                        refine jv_isub hx hb dX9_keyOf_144 ?_
                        refine kV ⟨hx, hb, hml, hown, hts⟩ hK hA hS hP hD [.int (jz (i + 0)), .int (jz (j - 1))] [.int (jz ((3 * ((((3 * ((((3 * ((4 * ((4 * ((4 * ((4 * 0) + (T9 aS 0 ((i + 0) - 1)))) + (T9 aS 0 ((i + (0 + 1)) - 1)))) + (T9 aS 1 ((j + 0) - 1)))) + (T9 aS 1 ((j + (0 + 1)) - 1)))) + 1) + (aG (21 * (i - 1) + (j + 0)))) - (aG (21 * (i - 1) + ((j + 0) - 1))))) + 1) + (aG (21 * (i - 1) + (j + (0 + 1))))) - (aG (21 * (i - 1) + ((j + (0 + 1)) - 1))))) + 1))] (mX9_d l G x xs xb xm xf xu xg xw kn 2 ft vh vm vs ln th sp pl wr br aS aB aM aO aU aG aW (i + 0) (j - 1) (by omega) (by omega)) lkX9_50 [0] [] (br := []) rfl rfl (by decide) 0 9 rfl rfl rfl rfl (Nat.le_of_ble_eq_true rfl) hl.1 dX9_keyOf_145 ⟨Nat.le_of_ble_eq_true rfl, Nat.le_of_ble_eq_true rfl⟩ ⟨Nat.le_of_ble_eq_true rfl, Nat.le_of_ble_eq_true rfl⟩ (fun u9 H locs hp9 hP hD hS => ?_)
                        have hP : wP G [bMod G x xs xb xm xf xu xg xw kn 2 ft vh vm vs ln th sp pl wr br aS aB aM aO aU aG aW] H := hP
                        have hD : wD A [bMod G x xs xb xm xf xu xg xw kn 2 ft vh vm vs ln th sp pl wr br aS aB aM aO aU aG aW] := hD
                        show W p l e rmX9_keyOf_2 s m args below meth c H locs 0 0 Q (F0 m 148 ls [.int (jz (aG (21 * (i + 0) + (j - 1)))), .int (jz ((3 * ((((3 * ((((3 * ((4 * ((4 * ((4 * ((4 * 0) + (T9 aS 0 ((i + 0) - 1)))) + (T9 aS 0 ((i + (0 + 1)) - 1)))) + (T9 aS 1 ((j + 0) - 1)))) + (T9 aS 1 ((j + (0 + 1)) - 1)))) + 1) + (aG (21 * (i - 1) + (j + 0)))) - (aG (21 * (i - 1) + ((j + 0) - 1))))) + 1) + (aG (21 * (i - 1) + (j + (0 + 1))))) - (aG (21 * (i - 1) + ((j + (0 + 1)) - 1))))) + 1))])
                        refine jv_iadd hx hb dX9_keyOf_148 ?_
                        refine lv_aload_n hx hb dX9_keyOf_149 rfl (lv_at hl 2 rfl) ?_
                        refine lv_iload_n hx hb dX9_keyOf_150 rfl (lv_at hl 3 rfl) ?_
                        refine lv_iload hx hb dX9_keyOf_151 (lv_at hl 0 rfl) ?_
                        refine jv_iadd hx hb dX9_keyOf_153 ?_
                        refine jv_iconst hx hb dX9_keyOf_154 ?_
                        refine jv_isub hx hb dX9_keyOf_155 ?_
                        refine lv_iload_n hx hb dX9_keyOf_156 rfl (lv_at hl 4 rfl) ?_
                        refine jv_iconst hx hb dX9_keyOf_157 ?_
                        refine jv_isub hx hb dX9_keyOf_158 ?_
                        refine kV ⟨hx, hb, hml, hown, hts⟩ hK hA hS hP hD [.int (jz ((i + 0) - 1)), .int (jz (j - 1))] [.int (jz (((3 * ((((3 * ((((3 * ((4 * ((4 * ((4 * ((4 * 0) + (T9 aS 0 ((i + 0) - 1)))) + (T9 aS 0 ((i + (0 + 1)) - 1)))) + (T9 aS 1 ((j + 0) - 1)))) + (T9 aS 1 ((j + (0 + 1)) - 1)))) + 1) + (aG (21 * (i - 1) + (j + 0)))) - (aG (21 * (i - 1) + ((j + 0) - 1))))) + 1) + (aG (21 * (i - 1) + (j + (0 + 1))))) - (aG (21 * (i - 1) + ((j + (0 + 1)) - 1))))) + 1) + (aG (21 * (i + 0) + (j - 1)))))] (mX9_d l G x xs xb xm xf xu xg xw kn 2 ft vh vm vs ln th sp pl wr br aS aB aM aO aU aG aW ((i + 0) - 1) (j - 1) (by omega) (by omega)) lkX9_50 [0] [] (br := []) rfl rfl (by decide) 0 9 rfl rfl rfl rfl (Nat.le_of_ble_eq_true rfl) hl.1 dX9_keyOf_159 ⟨Nat.le_of_ble_eq_true rfl, Nat.le_of_ble_eq_true rfl⟩ ⟨Nat.le_of_ble_eq_true rfl, Nat.le_of_ble_eq_true rfl⟩ (fun u9 H locs hp9 hP hD hS => ?_)
                        have hP : wP G [bMod G x xs xb xm xf xu xg xw kn 2 ft vh vm vs ln th sp pl wr br aS aB aM aO aU aG aW] H := hP
                        have hD : wD A [bMod G x xs xb xm xf xu xg xw kn 2 ft vh vm vs ln th sp pl wr br aS aB aM aO aU aG aW] := hD
                        show W p l e rmX9_keyOf_2 s m args below meth c H locs 0 0 Q (F0 m 162 ls [.int (jz (aG (21 * ((i + 0) - 1) + (j - 1)))), .int (jz (((3 * ((((3 * ((((3 * ((4 * ((4 * ((4 * ((4 * 0) + (T9 aS 0 ((i + 0) - 1)))) + (T9 aS 0 ((i + (0 + 1)) - 1)))) + (T9 aS 1 ((j + 0) - 1)))) + (T9 aS 1 ((j + (0 + 1)) - 1)))) + 1) + (aG (21 * (i - 1) + (j + 0)))) - (aG (21 * (i - 1) + ((j + 0) - 1))))) + 1) + (aG (21 * (i - 1) + (j + (0 + 1))))) - (aG (21 * (i - 1) + ((j + (0 + 1)) - 1))))) + 1) + (aG (21 * (i + 0) + (j - 1)))))])
                        refine jv_isub hx hb dX9_keyOf_162 ?_
                        refine lv_istore_n (lv' := [(3, .int (jz ((((3 * ((((3 * ((((3 * ((4 * ((4 * ((4 * ((4 * 0) + (T9 aS 0 ((i + 0) - 1)))) + (T9 aS 0 ((i + (0 + 1)) - 1)))) + (T9 aS 1 ((j + 0) - 1)))) + (T9 aS 1 ((j + (0 + 1)) - 1)))) + 1) + (aG (21 * (i - 1) + (j + 0)))) - (aG (21 * (i - 1) + ((j + 0) - 1))))) + 1) + (aG (21 * (i - 1) + (j + (0 + 1))))) - (aG (21 * (i - 1) + ((j + (0 + 1)) - 1))))) + 1) + (aG (21 * (i + 0) + (j - 1)))) - (aG (21 * ((i + 0) - 1) + (j - 1)))))), (4, .int (jz 0)), (0, .ref x), (1, .int (jz i)), (2, .int (jz j))]) hx hb dX9_keyOf_163 rfl hl (by decide) rfl (fun ls hl => ?_)
                        refine jv_iinc (lv' := [(4, .int (jz (0 + 1))), (3, .int (jz ((((3 * ((((3 * ((((3 * ((4 * ((4 * ((4 * ((4 * 0) + (T9 aS 0 ((i + 0) - 1)))) + (T9 aS 0 ((i + (0 + 1)) - 1)))) + (T9 aS 1 ((j + 0) - 1)))) + (T9 aS 1 ((j + (0 + 1)) - 1)))) + 1) + (aG (21 * (i - 1) + (j + 0)))) - (aG (21 * (i - 1) + ((j + 0) - 1))))) + 1) + (aG (21 * (i - 1) + (j + (0 + 1))))) - (aG (21 * (i - 1) + ((j + (0 + 1)) - 1))))) + 1) + (aG (21 * (i + 0) + (j - 1)))) - (aG (21 * ((i + 0) - 1) + (j - 1)))))), (0, .ref x), (1, .int (jz i)), (2, .int (jz j))]) (k := 1) hx hb dX9_keyOf_164 hl rfl (by decide) rfl (fun ls hl => ?_)
                        refine lv_goto (tgt := 123) hx hb dX9_keyOf_167 (by decide) ?_
                        refine lv_iload hx hb dX9_keyOf_123 (lv_at hl 0 rfl) ?_
                        refine lv_aload_n hx hb dX9_keyOf_125 rfl (lv_at hl 2 rfl) ?_
                        refine va_get (ci := 9) (v := .int (jz 2)) (C := RX9) (T := TX9) (N := 19) hx hb hts wfX9 hown hK.1 hP 0 rfl rfl 3 (by decide) (hts _ wm813) (fun _ h9 => h9) rfl dX9_keyOf_126 ?_
                        refine jv_icmp_ge (tgt := 170) hx hb dX9_keyOf_129 (by decide) (by omega) (by omega) (fun c_21 => ?_) (fun c_21 => ?_)
                        · exfalso; omega
                        · refine jv_iconst hx hb dX9_keyOf_132 ?_
                          refine lv_iload_n hx hb dX9_keyOf_133 rfl (lv_at hl 1 rfl) ?_
                          refine jv_imul hx hb dX9_keyOf_134 ?_
                          refine jv_iconst hx hb dX9_keyOf_135 ?_
                          refine jv_iadd hx hb dX9_keyOf_136 ?_
                          refine lv_aload_n hx hb dX9_keyOf_137 rfl (lv_at hl 2 rfl) ?_
                          refine lv_iload_n hx hb dX9_keyOf_138 rfl (lv_at hl 3 rfl) ?_
                          refine lv_iload hx hb dX9_keyOf_139 (lv_at hl 0 rfl) ?_
                          refine jv_iadd hx hb dX9_keyOf_141 ?_
                          refine lv_iload_n hx hb dX9_keyOf_142 rfl (lv_at hl 4 rfl) ?_
                          refine jv_iconst hx hb dX9_keyOf_143 ?_
                          refine jv_isub hx hb dX9_keyOf_144 ?_
                          refine kV ⟨hx, hb, hml, hown, hts⟩ hK hA hS hP hD [.int (jz (i + (0 + 1))), .int (jz (j - 1))] [.int (jz ((3 * ((((3 * ((((3 * ((((3 * ((4 * ((4 * ((4 * ((4 * 0) + (T9 aS 0 ((i + 0) - 1)))) + (T9 aS 0 ((i + (0 + 1)) - 1)))) + (T9 aS 1 ((j + 0) - 1)))) + (T9 aS 1 ((j + (0 + 1)) - 1)))) + 1) + (aG (21 * (i - 1) + (j + 0)))) - (aG (21 * (i - 1) + ((j + 0) - 1))))) + 1) + (aG (21 * (i - 1) + (j + (0 + 1))))) - (aG (21 * (i - 1) + ((j + (0 + 1)) - 1))))) + 1) + (aG (21 * (i + 0) + (j - 1)))) - (aG (21 * ((i + 0) - 1) + (j - 1))))) + 1))] (mX9_d l G x xs xb xm xf xu xg xw kn 2 ft vh vm vs ln th sp pl wr br aS aB aM aO aU aG aW (i + (0 + 1)) (j - 1) (by omega) (by omega)) lkX9_50 [0] [] (br := []) rfl rfl (by decide) 0 9 rfl rfl rfl rfl (Nat.le_of_ble_eq_true rfl) hl.1 dX9_keyOf_145 ⟨Nat.le_of_ble_eq_true rfl, Nat.le_of_ble_eq_true rfl⟩ ⟨Nat.le_of_ble_eq_true rfl, Nat.le_of_ble_eq_true rfl⟩ (fun u9 H locs hp9 hP hD hS => ?_)
                          have hP : wP G [bMod G x xs xb xm xf xu xg xw kn 2 ft vh vm vs ln th sp pl wr br aS aB aM aO aU aG aW] H := hP
                          have hD : wD A [bMod G x xs xb xm xf xu xg xw kn 2 ft vh vm vs ln th sp pl wr br aS aB aM aO aU aG aW] := hD
                          show W p l e rmX9_keyOf_2 s m args below meth c H locs 0 0 Q (F0 m 148 ls [.int (jz (aG (21 * (i + (0 + 1)) + (j - 1)))), .int (jz ((3 * ((((3 * ((((3 * ((((3 * ((4 * ((4 * ((4 * ((4 * 0) + (T9 aS 0 ((i + 0) - 1)))) + (T9 aS 0 ((i + (0 + 1)) - 1)))) + (T9 aS 1 ((j + 0) - 1)))) + (T9 aS 1 ((j + (0 + 1)) - 1)))) + 1) + (aG (21 * (i - 1) + (j + 0)))) - (aG (21 * (i - 1) + ((j + 0) - 1))))) + 1) + (aG (21 * (i - 1) + (j + (0 + 1))))) - (aG (21 * (i - 1) + ((j + (0 + 1)) - 1))))) + 1) + (aG (21 * (i + 0) + (j - 1)))) - (aG (21 * ((i + 0) - 1) + (j - 1))))) + 1))])
                          refine jv_iadd hx hb dX9_keyOf_148 ?_
                          refine lv_aload_n hx hb dX9_keyOf_149 rfl (lv_at hl 2 rfl) ?_
                          refine lv_iload_n hx hb dX9_keyOf_150 rfl (lv_at hl 3 rfl) ?_
                          refine lv_iload hx hb dX9_keyOf_151 (lv_at hl 0 rfl) ?_
                          refine jv_iadd hx hb dX9_keyOf_153 ?_
                          refine jv_iconst hx hb dX9_keyOf_154 ?_
                          refine jv_isub hx hb dX9_keyOf_155 ?_
                          refine lv_iload_n hx hb dX9_keyOf_156 rfl (lv_at hl 4 rfl) ?_
                          refine jv_iconst hx hb dX9_keyOf_157 ?_
                          refine jv_isub hx hb dX9_keyOf_158 ?_
                          refine kV ⟨hx, hb, hml, hown, hts⟩ hK hA hS hP hD [.int (jz ((i + (0 + 1)) - 1)), .int (jz (j - 1))] [.int (jz (((3 * ((((3 * ((((3 * ((((3 * ((4 * ((4 * ((4 * ((4 * 0) + (T9 aS 0 ((i + 0) - 1)))) + (T9 aS 0 ((i + (0 + 1)) - 1)))) + (T9 aS 1 ((j + 0) - 1)))) + (T9 aS 1 ((j + (0 + 1)) - 1)))) + 1) + (aG (21 * (i - 1) + (j + 0)))) - (aG (21 * (i - 1) + ((j + 0) - 1))))) + 1) + (aG (21 * (i - 1) + (j + (0 + 1))))) - (aG (21 * (i - 1) + ((j + (0 + 1)) - 1))))) + 1) + (aG (21 * (i + 0) + (j - 1)))) - (aG (21 * ((i + 0) - 1) + (j - 1))))) + 1) + (aG (21 * (i + (0 + 1)) + (j - 1)))))] (mX9_d l G x xs xb xm xf xu xg xw kn 2 ft vh vm vs ln th sp pl wr br aS aB aM aO aU aG aW ((i + (0 + 1)) - 1) (j - 1) (by omega) (by omega)) lkX9_50 [0] [] (br := []) rfl rfl (by decide) 0 9 rfl rfl rfl rfl (Nat.le_of_ble_eq_true rfl) hl.1 dX9_keyOf_159 ⟨Nat.le_of_ble_eq_true rfl, Nat.le_of_ble_eq_true rfl⟩ ⟨Nat.le_of_ble_eq_true rfl, Nat.le_of_ble_eq_true rfl⟩ (fun u9 H locs hp9 hP hD hS => ?_)
                          have hP : wP G [bMod G x xs xb xm xf xu xg xw kn 2 ft vh vm vs ln th sp pl wr br aS aB aM aO aU aG aW] H := hP
                          have hD : wD A [bMod G x xs xb xm xf xu xg xw kn 2 ft vh vm vs ln th sp pl wr br aS aB aM aO aU aG aW] := hD
                          show W p l e rmX9_keyOf_2 s m args below meth c H locs 0 0 Q (F0 m 162 ls [.int (jz (aG (21 * ((i + (0 + 1)) - 1) + (j - 1)))), .int (jz (((3 * ((((3 * ((((3 * ((((3 * ((4 * ((4 * ((4 * ((4 * 0) + (T9 aS 0 ((i + 0) - 1)))) + (T9 aS 0 ((i + (0 + 1)) - 1)))) + (T9 aS 1 ((j + 0) - 1)))) + (T9 aS 1 ((j + (0 + 1)) - 1)))) + 1) + (aG (21 * (i - 1) + (j + 0)))) - (aG (21 * (i - 1) + ((j + 0) - 1))))) + 1) + (aG (21 * (i - 1) + (j + (0 + 1))))) - (aG (21 * (i - 1) + ((j + (0 + 1)) - 1))))) + 1) + (aG (21 * (i + 0) + (j - 1)))) - (aG (21 * ((i + 0) - 1) + (j - 1))))) + 1) + (aG (21 * (i + (0 + 1)) + (j - 1)))))])
                          refine jv_isub hx hb dX9_keyOf_162 ?_
                          refine lv_istore_n (lv' := [(3, .int (jz ((((3 * ((((3 * ((((3 * ((((3 * ((4 * ((4 * ((4 * ((4 * 0) + (T9 aS 0 ((i + 0) - 1)))) + (T9 aS 0 ((i + (0 + 1)) - 1)))) + (T9 aS 1 ((j + 0) - 1)))) + (T9 aS 1 ((j + (0 + 1)) - 1)))) + 1) + (aG (21 * (i - 1) + (j + 0)))) - (aG (21 * (i - 1) + ((j + 0) - 1))))) + 1) + (aG (21 * (i - 1) + (j + (0 + 1))))) - (aG (21 * (i - 1) + ((j + (0 + 1)) - 1))))) + 1) + (aG (21 * (i + 0) + (j - 1)))) - (aG (21 * ((i + 0) - 1) + (j - 1))))) + 1) + (aG (21 * (i + (0 + 1)) + (j - 1)))) - (aG (21 * ((i + (0 + 1)) - 1) + (j - 1)))))), (4, .int (jz (0 + 1))), (0, .ref x), (1, .int (jz i)), (2, .int (jz j))]) hx hb dX9_keyOf_163 rfl hl (by decide) rfl (fun ls hl => ?_)
                          refine jv_iinc (lv' := [(4, .int (jz ((0 + 1) + 1))), (3, .int (jz ((((3 * ((((3 * ((((3 * ((((3 * ((4 * ((4 * ((4 * ((4 * 0) + (T9 aS 0 ((i + 0) - 1)))) + (T9 aS 0 ((i + (0 + 1)) - 1)))) + (T9 aS 1 ((j + 0) - 1)))) + (T9 aS 1 ((j + (0 + 1)) - 1)))) + 1) + (aG (21 * (i - 1) + (j + 0)))) - (aG (21 * (i - 1) + ((j + 0) - 1))))) + 1) + (aG (21 * (i - 1) + (j + (0 + 1))))) - (aG (21 * (i - 1) + ((j + (0 + 1)) - 1))))) + 1) + (aG (21 * (i + 0) + (j - 1)))) - (aG (21 * ((i + 0) - 1) + (j - 1))))) + 1) + (aG (21 * (i + (0 + 1)) + (j - 1)))) - (aG (21 * ((i + (0 + 1)) - 1) + (j - 1)))))), (0, .ref x), (1, .int (jz i)), (2, .int (jz j))]) (k := 1) hx hb dX9_keyOf_164 hl rfl (by decide) rfl (fun ls hl => ?_)
                          refine lv_goto (tgt := 123) hx hb dX9_keyOf_167 (by decide) ?_
                          refine lv_iload hx hb dX9_keyOf_123 (lv_at hl 0 rfl) ?_
                          refine lv_aload_n hx hb dX9_keyOf_125 rfl (lv_at hl 2 rfl) ?_
                          refine va_get (ci := 9) (v := .int (jz 2)) (C := RX9) (T := TX9) (N := 19) hx hb hts wfX9 hown hK.1 hP 0 rfl rfl 3 (by decide) (hts _ wm813) (fun _ h9 => h9) rfl dX9_keyOf_126 ?_
                          refine jv_icmp_ge (tgt := 170) hx hb dX9_keyOf_129 (by decide) (by omega) (by omega) (fun c_24 => ?_) (fun c_24 => ?_)
                          · refine lv_iload_n hx hb dX9_keyOf_170 rfl (lv_at hl 1 rfl) ?_
                            exact cret_i hx hb hr hlocks hS hP hD (Nat.le_of_ble_eq_true rfl) (Nat.le_of_ble_eq_true rfl) rfl dX9_keyOf_171 [0] (by decide) () rfl trivial (congrArg (fun z : Int => some (Value.int (jz z))) (show ((((3 * ((((3 * ((((3 * ((((3 * ((4 * ((4 * ((4 * ((4 * 0) + (T9 aS 0 ((i + 0) - 1)))) + (T9 aS 0 ((i + (0 + 1)) - 1)))) + (T9 aS 1 ((j + 0) - 1)))) + (T9 aS 1 ((j + (0 + 1)) - 1)))) + 1) + (aG (21 * (i - 1) + (j + 0)))) - (aG (21 * (i - 1) + ((j + 0) - 1))))) + 1) + (aG (21 * (i - 1) + (j + (0 + 1))))) - (aG (21 * (i - 1) + ((j + (0 + 1)) - 1))))) + 1) + (aG (21 * (i + 0) + (j - 1)))) - (aG (21 * ((i + 0) - 1) + (j - 1))))) + 1) + (aG (21 * (i + (0 + 1)) + (j - 1)))) - (aG (21 * ((i + (0 + 1)) - 1) + (j - 1)))) = keyM 2 (T9 aS 0) (T9 aS 1) i j from by unfold keyM dA dB; rw [if_neg (by decide)]; omega)) hQ
                          · exfalso; omega
                    · exfalso; omega
              · exfalso; omega
        · exfalso; omega
  exact KH s.heap [] hP hD hS
abbrev rmX9_keyOf : Room := { frames := 1, cells := 0, slots := 0, locals := 22 }
theorem mX9_keyOf (l : Launch) (G : GG) (x : Nat) (xs : Nat) (xb : Nat) (xm : Nat) (xf : Nat) (xu : Nat) (xg : Nat) (xw : Nat) (kn : Int) (bl : Int) (ft : Int) (vh : Int) (vm : Int) (vs : Int) (ln : Int) (th : Int) (sp : Int) (pl : Int) (wr : Int) (br : Int) (aS : Int → Int) (aB : Int → Int) (aM : Int → Int) (aO : Int → Int) (aU : Int → Int) (aG : Int → Int) (aW : Int → Int) (i : Int) (j : Int) (hs0 : 0 ≤ aS 0 ∧ aS 0 ≤ 20) (hs1 : 0 ≤ aS 1 ∧ aS 1 ≤ 20) (hbl : bl = 1 ∨ bl = 2) (hi : 1 ≤ i ∧ i + bl - 1 ≤ aS 0) (hj : 1 ≤ j ∧ j + bl - 1 ≤ aS 1) (hgr : ∀ x y : Int, 0 ≤ x → x ≤ aS 0 → 0 ≤ y → y ≤ aS 1 → aG (21 * x + y) = D 1 (T9 aS 0) (T9 aS 1) x y) : Ct l yX9_keyOf cX9_keyOf 5 (some .int) rmX9_keyOf G [.ref x, .int (jz i), .int (jz j)] [bMod G x xs xb xm xf xu xg xw kn bl ft vh vm vs ln th sp pl wr br aS aB aM aO aU aG aW] (fun uo : Unit => some (.int (jz (keyM bl (T9 aS 0) (T9 aS 1) i j)))) (fun uo => True) (fun uo => [bMod G x xs xb xm xf xu xg xw kn bl ft vh vm vs ln th sp pl wr br aS aB aM aO aU aG aW]) := by
  rcases hbl with rfl | rfl
  · exact mX9_keyOf_1 l G x xs xb xm xf xu xg xw kn ft vh vm vs ln th sp pl wr br aS aB aM aO aU aG aW i j hs0 hs1 hi hj hgr
  · exact mX9_keyOf_2 l G x xs xb xm xf xu xg xw kn ft vh vm vs ln th sp pl wr br aS aB aM aO aU aG aW i j hs0 hs1 hi hj hgr
abbrev rmX9_goBlocks_1 : Room := { frames := 3, cells := 0, slots := 0, locals := 67 }
set_option maxHeartbeats 4000000 in
set_option maxRecDepth 100000 in
theorem mX9_goBlocks_1 (l : Launch) (G : GG) (x : Nat) (xs : Nat) (xb : Nat) (xm : Nat) (xf : Nat) (xu : Nat) (xg : Nat) (xw : Nat) (kn : Int) (bl : Int) (ft : Int) (vh : Int) (vm : Int) (vs : Int) (ln : Int) (th : Int) (sp : Int) (pl : Int) (wr : Int) (br : Int) (aS : Int → Int) (aB : Int → Int) (aM : Int → Int) (aO : Int → Int) (aU : Int → Int) (aG : Int → Int) (aW : Int → Int) (M : Int → Bool) (z : Int) (hs0 : 0 ≤ aS 0 ∧ aS 0 ≤ 20) (hs1 : 0 ≤ aS 1 ∧ aS 1 ≤ 20) (hg0 : ∀ j : Int, 0 ≤ j → j < aS 0 → 0 ≤ T9 aS 0 j ∧ T9 aS 0 j < 4) (hg1 : ∀ j : Int, 0 ≤ j → j < aS 1 → 0 ≤ T9 aS 1 j ∧ T9 aS 1 j < 4) (hbl : bl = 1 ∨ bl = 2) (hft : 0 ≤ ft ∧ ft ≤ 100000) (hJ : rJ bl aM M) (hO : ∀ k : Int, 0 ≤ k → k < 20736 → 0 ≤ aO k ∧ aO k ≤ ft) (hz : z = 1) : Ct l yX9_goBlocks cX9_goBlocks 9 (some .int) rmX9_goBlocks_1 G [.ref x, .int (jz z)] [bMod G x xs xb xm xf xu xg xw kn bl ft vh vm vs ln th sp pl wr br aS aB aM aO aU aG aW] (fun uo : Int × Int × Int × (Int → Bool) × (Int → Int) × (Int → Int) × (Int → Int) => some (.int (jz (uo.2.1 - vm)))) (fun uo => ((uo.2.2.2.1, uo.1, uo.2.1, uo.2.2.1) = tGo bl (T9 aS 0) (T9 aS 1) (aS 0) (aS 1) (M, vh, vm, vs)) ∧ (rJ bl uo.2.2.2.2.1 uo.2.2.2.1) ∧ (∀ k : Int, 0 ≤ k → k < 20736 → 0 ≤ uo.2.2.2.2.2.1 k ∧ uo.2.2.2.2.2.1 k ≤ ft + 1) ∧ (∀ x y : Int, 0 ≤ x → x ≤ aS 0 → 0 ≤ y → y ≤ aS 1 → uo.2.2.2.2.2.2 (21 * x + y) = D 1 (T9 aS 0) (T9 aS 1) x y)) (fun uo => [bMod G x xs xb xm xf xu xg xw kn bl ((ft + 1)) uo.1 uo.2.1 uo.2.2.1 ln th sp pl wr br aS aB uo.2.2.2.2.1 uo.2.2.2.2.2.1 aU uo.2.2.2.2.2.2 aW]) := by
  refine cof (by decide) (Nat.le_of_ble_eq_true rfl) ?_
  intro p e s m args below meth c A ls hx hb hr hml hown hts hlocks hin hA hK hP hD hS hl Q hQ
  have hown : s.vm.findClass RX9 = some m.cls := hown
  have hl : lv_has ls 9 [(0, .ref x), (1, .int (jz z))] := hl
  have KH : ∀ (H : Heap) (locs : List Loc), wP G [bMod G x xs xb xm xf xu xg xw kn bl ft vh vm vs ln th sp pl wr br aS aB aM aO aU aG aW] H → wD A [bMod G x xs xb xm xf xu xg xw kn bl ft vh vm vs ln th sp pl wr br aS aB aM aO aU aG aW] → va_S A s.heap H locs → W p l e rmX9_goBlocks_1 s m args below meth c H locs 0 0 Q (F0 m 0 ls []) := by
    intro H locs hP hD hS
    refine lv_aload_n hx hb dX9_goBlocks_0 rfl (lv_at hl 0 rfl) ?_
    refine jv_iconst hx hb dX9_goBlocks_1 ?_
    refine kV ⟨hx, hb, hml, hown, hts⟩ hK hA hS hP hD [.int (jz 0)] [] (mX9_lay l G x xs xb xm xf xu xg xw kn bl ft vh vm vs ln th sp pl wr br aS aB aM aO aU aG aW 0 1 (by omega) (by omega) (by exact hg0) (by exact hg1) (by omega) (by omega)) lkX9_60 [0] [] (br := []) rfl rfl (by decide) 0 9 rfl rfl rfl rfl (Nat.le_of_ble_eq_true rfl) hl.1 dX9_goBlocks_2 ⟨Nat.le_of_ble_eq_true rfl, Nat.le_of_ble_eq_true rfl⟩ ⟨Nat.le_of_ble_eq_true rfl, Nat.le_of_ble_eq_true rfl⟩ (fun u9 H locs hp9 hP hD hS => ?_)
    obtain ⟨u_1, rfl⟩ : ∃ z, z = u9 := ⟨_, rfl⟩
    have hc_2 : ∀ x y : Int, 0 ≤ x → x ≤ aS 0 → 0 ≤ y → y ≤ aS 1 → u_1 (21 * x + y) = D 1 (T9 aS 0) (T9 aS 1) x y := hp9
    have hP : wP G [bMod G x xs xb xm xf xu xg xw kn bl ft vh vm vs ln th sp pl wr br aS aB aM aO aU u_1 aW] H := hP
    have hD : wD A [bMod G x xs xb xm xf xu xg xw kn bl ft vh vm vs ln th sp pl wr br aS aB aM aO aU u_1 aW] := hD
    show W p l e rmX9_goBlocks_1 s m args below meth c H locs 0 0 Q (F0 m 5 ls [])
    have hc1 := hc_2
    refine lv_aload_n hx hb dX9_goBlocks_5 rfl (lv_at hl 0 rfl) ?_
    refine lv_dup hx hb dX9_goBlocks_6 rfl ?_
    refine va_get (ci := 9) (v := .int (jz ft)) (C := RX9) (T := TX9) (N := 19) hx hb hts wfX9 hown hK.1 hP 0 rfl rfl 6 (by decide) (hts _ wm816) (fun _ h9 => h9) rfl dX9_goBlocks_7 ?_
    refine jv_iconst hx hb dX9_goBlocks_10 ?_
    refine jv_iadd hx hb dX9_goBlocks_11 ?_
    refine va_put (ci := 9) (v := .int (jz (ft + 1))) (ty := .int) (C := RX9) (T := TX9) (N := 19) hx hb hts wfX9 tyX9 tyX9_ok nmX9 hown hK.1 hP hD hS 0 rfl rfl 6 (by decide) (hts _ wm816) (fun _ h9 => h9) rfl (by decide +kernel) rfl rfl (Nat.le_of_ble_eq_true rfl) dX9_goBlocks_12 (fun H locs hP hD hS => ?_)
    have hP : wP G [bMod G x xs xb xm xf xu xg xw kn bl (ft + 1) vh vm vs ln th sp pl wr br aS aB aM aO aU u_1 aW] H := hP
    have hD : wD A [bMod G x xs xb xm xf xu xg xw kn bl (ft + 1) vh vm vs ln th sp pl wr br aS aB aM aO aU u_1 aW] := hD
    refine jv_iconst hx hb dX9_goBlocks_15 ?_
    refine lv_istore_n (lv' := [(2, .int (jz 0)), (0, .ref x), (1, .int (jz z))]) hx hb dX9_goBlocks_16 rfl hl (by decide) rfl (fun ls hl => ?_)
    refine jv_iconst hx hb dX9_goBlocks_17 ?_
    refine lv_istore_n (lv' := [(3, .int (jz 1)), (2, .int (jz 0)), (0, .ref x), (1, .int (jz z))]) hx hb dX9_goBlocks_18 rfl hl (by decide) rfl (fun ls hl => ?_)
    have K19 : ∀ (n9 : Nat) (r : Int) (i : Int) (vh9 : Int) (vm9 : Int) (vs9 : Int) (aM9 : Int → Int) (aO9 : Int → Int) (gq : Int → Int) (M9 : Int → Bool) (f : Nat) , ((aS 0 + 2 - i).toNat) < n9 → (∀ x y : Int, 0 ≤ x → x ≤ aS 0 → 0 ≤ y → y ≤ aS 1 → gq (21 * x + y) = D 1 (T9 aS 0) (T9 aS 1) x y) → (1 ≤ i ∧ i ≤ aS 0 + 2) → (tAll bl (T9 aS 0) (T9 aS 1) (aS 0) (aS 1) f i (M9, vh9, vm9, vs9) = tGo bl (T9 aS 0) (T9 aS 1) (aS 0) (aS 1) (M, vh, vm, vs)) → ((aS 0 + 1 - i).toNat ≤ f) → (r = vm9 - vm) → (rJ bl aM9 M9) → (rP aM9 aO9 (ft + 1)) → ∀ (H : Heap) (locs : List Loc) (ls : Array Slot), wP G [bMod G x xs xb xm xf xu xg xw kn bl ((ft + 1)) vh9 vm9 vs9 ln th sp pl wr br aS aB aM9 aO9 aU gq aW] H → wD A [bMod G x xs xb xm xf xu xg xw kn bl ((ft + 1)) vh9 vm9 vs9 ln th sp pl wr br aS aB aM9 aO9 aU gq aW] → va_S A s.heap H locs → lv_has ls 9 [(0, .ref x), (1, .int (jz z)), (2, .int (jz r)), (3, .int (jz i))] → W p l e rmX9_goBlocks_1 s m args below meth c H locs 0 0 Q (F0 m 19 ls []) := by
      intro n9
      induction n9 with
      | zero => intro r i vh9 vm9 vs9 aM9 aO9 gq M9 f hm9; exact absurd hm9 (Nat.not_lt_zero _)
      | succ n9 ih19 =>
        intro r i vh9 vm9 vs9 aM9 aO9 gq M9 f hm9 hgr hi1 hall hf hr9 hR hP9 H locs ls hP hD hS hl
        refine lv_iload_n hx hb dX9_goBlocks_19 rfl (lv_at hl 3 rfl) ?_
        refine lv_aload_n hx hb dX9_goBlocks_20 rfl (lv_at hl 0 rfl) ?_
        refine va_get (ci := 9) (v := .ref xs) (C := RX9) (T := TX9) (N := 19) hx hb hts wfX9 hown hK.1 hP 0 rfl rfl 0 (by decide) (hts _ wm810) (fun _ h9 => h9) rfl dX9_goBlocks_21 ?_
        refine jv_iconst hx hb dX9_goBlocks_24 ?_
        refine jv_iald hx hb hK.1 hP 1 (g := aS) rfl (by omega) (by omega) (by decide) dX9_goBlocks_25 ?_
        refine jv_icmp_gt (tgt := 277) hx hb dX9_goBlocks_26 (by decide) (by omega) (by omega) (fun c_3 => ?_) (fun c_3 => ?_)
        · refine lv_iload_n hx hb dX9_goBlocks_277 rfl (lv_at hl 2 rfl) ?_
          exact cret_i hx hb hr hlocks hS hP hD (Nat.le_of_ble_eq_true rfl) (Nat.le_of_ble_eq_true rfl) rfl dX9_goBlocks_278 [0] (by decide) ⟨vh9, vm9, vs9, M9, aM9, aO9, gq⟩ rfl ⟨(show (M9, vh9, vm9, vs9) = tGo bl (T9 aS 0) (T9 aS 1) (aS 0) (aS 1) (M, vh, vm, vs) from by exact tAll_e hall (by omega)), (show rJ bl aM9 M9 from by exact hR), (show ∀ k : Int, 0 ≤ k → k < 20736 → 0 ≤ aO9 k ∧ aO9 k ≤ ft + 1 from by exact fun k q1 q2 => (hP9 k q1 q2).1), (show ∀ x y : Int, 0 ≤ x → x ≤ aS 0 → 0 ≤ y → y ≤ aS 1 → gq (21 * x + y) = D 1 (T9 aS 0) (T9 aS 1) x y from by exact hgr)⟩ (congrArg (fun z : Int => some (Value.int (jz z))) (show r = vm9 - vm from by omega)) hQ
        · obtain ⟨f2, hAl, hf2⟩ := tAll_s hall (by omega) hf (by omega)
          obtain ⟨R9, hR9⟩ : ∃ q, q = tRow bl (T9 aS 0) (T9 aS 1) (aS 0) (aS 1) i 21 1 (M9, vh9, vm9, vs9) := ⟨_, rfl⟩
          rw [← hR9] at hAl
          refine jv_iconst hx hb dX9_goBlocks_29 ?_
          refine lv_istore (lv' := [(4, .int (jz 1)), (0, .ref x), (1, .int (jz z)), (2, .int (jz r)), (3, .int (jz i))]) hx hb dX9_goBlocks_30 hl (by decide) rfl (fun ls hl => ?_)
          have K32 : ∀ (n9 : Nat) (r : Int) (j : Int) (vh9 : Int) (vm9 : Int) (vs9 : Int) (aM9 : Int → Int) (aO9 : Int → Int) (gq : Int → Int) (M9 : Int → Bool) (fr : Nat) , ((aS 1 + 2 - j).toNat) < n9 → (∀ x y : Int, 0 ≤ x → x ≤ aS 0 → 0 ≤ y → y ≤ aS 1 → gq (21 * x + y) = D 1 (T9 aS 0) (T9 aS 1) x y) → (1 ≤ j ∧ j ≤ aS 1 + 2) → (tRow bl (T9 aS 0) (T9 aS 1) (aS 0) (aS 1) i fr j (M9, vh9, vm9, vs9) = R9) → ((aS 1 + 1 - j).toNat ≤ fr) → (r = vm9 - vm) → (rJ bl aM9 M9) → (rP aM9 aO9 (ft + 1)) → ∀ (H : Heap) (locs : List Loc) (ls : Array Slot), wP G [bMod G x xs xb xm xf xu xg xw kn bl ((ft + 1)) vh9 vm9 vs9 ln th sp pl wr br aS aB aM9 aO9 aU gq aW] H → wD A [bMod G x xs xb xm xf xu xg xw kn bl ((ft + 1)) vh9 vm9 vs9 ln th sp pl wr br aS aB aM9 aO9 aU gq aW] → va_S A s.heap H locs → lv_has ls 9 [(0, .ref x), (1, .int (jz z)), (2, .int (jz r)), (3, .int (jz i)), (4, .int (jz j))] → W p l e rmX9_goBlocks_1 s m args below meth c H locs 0 0 Q (F0 m 32 ls []) := by
            intro n9
            induction n9 with
            | zero => intro r j vh9 vm9 vs9 aM9 aO9 gq M9 fr hm9; exact absurd hm9 (Nat.not_lt_zero _)
            | succ n9 ih32 =>
              intro r j vh9 vm9 vs9 aM9 aO9 gq M9 fr hm9 hgr hj1 hrow hfr hr9 hR hP9 H locs ls hP hD hS hl
              refine lv_iload hx hb dX9_goBlocks_32 (lv_at hl 4 rfl) ?_
              refine lv_aload_n hx hb dX9_goBlocks_34 rfl (lv_at hl 0 rfl) ?_
              refine va_get (ci := 9) (v := .ref xs) (C := RX9) (T := TX9) (N := 19) hx hb hts wfX9 hown hK.1 hP 0 rfl rfl 0 (by decide) (hts _ wm810) (fun _ h9 => h9) rfl dX9_goBlocks_35 ?_
              refine jv_iconst hx hb dX9_goBlocks_38 ?_
              refine jv_iald hx hb hK.1 hP 1 (g := aS) rfl (by omega) (by omega) (by decide) dX9_goBlocks_39 ?_
              refine jv_icmp_gt (tgt := 267) hx hb dX9_goBlocks_40 (by decide) (by omega) (by omega) (fun c_4 => ?_) (fun c_4 => ?_)
              · refine lv_iload_n hx hb dX9_goBlocks_267 rfl (lv_at hl 3 rfl) ?_
                refine lv_aload_n hx hb dX9_goBlocks_268 rfl (lv_at hl 0 rfl) ?_
                refine va_get (ci := 9) (v := .int (jz bl)) (C := RX9) (T := TX9) (N := 19) hx hb hts wfX9 hown hK.1 hP 0 rfl rfl 3 (by decide) (hts _ wm813) (fun _ h9 => h9) rfl dX9_goBlocks_269 ?_
                refine jv_iadd hx hb dX9_goBlocks_272 ?_
                refine lv_istore_n (lv' := [(3, .int (jz (i + bl))), (0, .ref x), (1, .int (jz z)), (2, .int (jz r)), (4, .int (jz j))]) hx hb dX9_goBlocks_273 rfl hl (by decide) rfl (fun ls hl => ?_)
                refine lv_goto (tgt := 19) hx hb dX9_goBlocks_274 (by decide) ?_
                exact ih19 r (i + bl) vh9 vm9 vs9 aM9 aO9 gq M9 f2 (by omega) (by exact hgr) (by omega) (by rw [tRow_e hrow (by omega)]; exact hAl) (by exact hf2) (by omega) (by exact hR) (by exact hP9) H _ _ hP hD hS (lv_sub hl [1, 2, 3, 0] rfl)
              · have K116 : (i + bl - 1 ≤ aS 0 ∧ j + bl - 1 ≤ aS 1) → ∀ (H : Heap) (locs : List Loc) (ls : Array Slot), wP G [bMod G x xs xb xm xf xu xg xw kn bl ((ft + 1)) vh9 vm9 vs9 ln th sp pl wr br aS aB aM9 aO9 aU gq aW] H → wD A [bMod G x xs xb xm xf xu xg xw kn bl ((ft + 1)) vh9 vm9 vs9 ln th sp pl wr br aS aB aM9 aO9 aU gq aW] → va_S A s.heap H locs → lv_has ls 9 [(0, .ref x), (1, .int (jz z)), (2, .int (jz r)), (3, .int (jz i)), (4, .int (jz j))] → W p l e rmX9_goBlocks_1 s m args below meth c H locs 0 0 Q (F0 m 116 ls []) := by
                  intro  hin H locs ls hP hD hS hl
                  refine lv_aload_n hx hb dX9_goBlocks_116 rfl (lv_at hl 0 rfl) ?_
                  refine lv_iload_n hx hb dX9_goBlocks_117 rfl (lv_at hl 3 rfl) ?_
                  refine lv_iload hx hb dX9_goBlocks_118 (lv_at hl 4 rfl) ?_
                  refine kV ⟨hx, hb, hml, hown, hts⟩ hK hA hS hP hD [.int (jz i), .int (jz j)] [] (mX9_keyOf l G x xs xb xm xf xu xg xw kn bl ((ft + 1)) vh9 vm9 vs9 ln th sp pl wr br aS aB aM9 aO9 aU gq aW i j (by omega) (by omega) (by omega) (by omega) (by omega) (by exact hgr)) lkX9_70 [0] [] (br := []) rfl rfl (by decide) 0 9 rfl rfl rfl rfl (Nat.le_of_ble_eq_true rfl) hl.1 dX9_goBlocks_120 ⟨Nat.le_of_ble_eq_true rfl, Nat.le_of_ble_eq_true rfl⟩ ⟨Nat.le_of_ble_eq_true rfl, Nat.le_of_ble_eq_true rfl⟩ (fun u9 H locs hp9 hP hD hS => ?_)
                  have hP : wP G [bMod G x xs xb xm xf xu xg xw kn bl ((ft + 1)) vh9 vm9 vs9 ln th sp pl wr br aS aB aM9 aO9 aU gq aW] H := hP
                  have hD : wD A [bMod G x xs xb xm xf xu xg xw kn bl ((ft + 1)) vh9 vm9 vs9 ln th sp pl wr br aS aB aM9 aO9 aU gq aW] := hD
                  show W p l e rmX9_goBlocks_1 s m args below meth c H locs 0 0 Q (F0 m 123 ls [.int (jz (keyM bl (T9 aS 0) (T9 aS 1) i j))])
                  refine jv_top (fun r_6 er_6 => ?_)
                  have hkb := keyM_bd (g := T9 aS 0) (g2 := T9 aS 1) hbl hg0 hg1 (i := i) (j := j) (by omega) (by omega)
                  rw [← er_6] at hkb
                  obtain ⟨hkr, hkc⟩ := hkb
                  obtain ⟨fr2, hrow2, hfr2⟩ := tRow_s hrow (by omega) hfr (by omega)
                  rw [tBlk, if_pos hin, tKey, ← hkc] at hrow2
                  obtain ⟨hj1, hj2⟩ := hR r_6 hkr.1 hkr.2
                  obtain ⟨ho1, ho3⟩ := hP9 r_6 hkr.1 hkr.2
                  refine lv_istore (lv' := [(7, .int (jz r_6)), (0, .ref x), (1, .int (jz z)), (2, .int (jz r)), (3, .int (jz i)), (4, .int (jz j))]) hx hb dX9_goBlocks_123 hl (by decide) rfl (fun ls hl => ?_)
                  refine lv_aload_n hx hb dX9_goBlocks_125 rfl (lv_at hl 1 rfl) ?_
                  refine va_get (ci := 9) (v := .ref xm) (C := RX9) (T := TX9) (N := 19) hx hb hts wfX9 hown hK.1 hP 0 rfl rfl 4 (by decide) (hts _ wm814) (fun _ h9 => h9) rfl dX9_goBlocks_126 ?_
                  refine lv_iload hx hb dX9_goBlocks_129 (lv_at hl 0 rfl) ?_
                  refine jv_zald hx hb hK.1 hP 3 (g := aM9) rfl (by omega) (by omega) (by decide) dX9_goBlocks_131 ?_
                  refine jv_if_ne (tgt := 149) hx hb dX9_goBlocks_132 (by decide) (by omega) (fun c_7 => ?_) (fun c_7 => ?_)
                  · have hm9 : M9 (cv bl r_6) = true := hj2.mp (by omega)
                    have hR2 := rJ_same hR hkr hm9
                    have hP2 := rP_up (k := r_6) hP9 (by omega)
                    refine jv_iconst hx hb dX9_goBlocks_149 ?_
                    refine lv_goto (tgt := 154) hx hb dX9_goBlocks_150 (by decide) ?_
                    refine lv_istore (lv' := [(8, .int (jz 1)), (7, .int (jz r_6)), (0, .ref x), (1, .int (jz z)), (2, .int (jz r)), (3, .int (jz i)), (4, .int (jz j))]) hx hb dX9_goBlocks_154 hl (by decide) rfl (fun ls hl => ?_)
                    refine lv_aload_n hx hb dX9_goBlocks_156 rfl (lv_at hl 2 rfl) ?_
                    refine va_get (ci := 9) (v := .ref xf) (C := RX9) (T := TX9) (N := 19) hx hb hts wfX9 hown hK.1 hP 0 rfl rfl 5 (by decide) (hts _ wm815) (fun _ h9 => h9) rfl dX9_goBlocks_157 ?_
                    refine lv_iload hx hb dX9_goBlocks_160 (lv_at hl 1 rfl) ?_
                    refine lv_aload_n hx hb dX9_goBlocks_162 rfl (lv_at hl 2 rfl) ?_
                    refine va_get (ci := 9) (v := .int (jz ((ft + 1)))) (C := RX9) (T := TX9) (N := 19) hx hb hts wfX9 hown hK.1 hP 0 rfl rfl 6 (by decide) (hts _ wm816) (fun _ h9 => h9) rfl dX9_goBlocks_163 ?_
                    refine jv_iast hx hb hK.1 hP hD hS 4 (g := aO9) rfl (by omega) (by omega) (by decide) dX9_goBlocks_166 (fun H locs hP hD hS => ?_)
                    have hP : wP G [bMod G x xs xb xm xf xu xg xw kn bl ((ft + 1)) vh9 vm9 vs9 ln th sp pl wr br aS aB aM9 (up aO9 r_6 ((ft + 1))) aU gq aW] H := hP
                    have hD : wD A [bMod G x xs xb xm xf xu xg xw kn bl ((ft + 1)) vh9 vm9 vs9 ln th sp pl wr br aS aB aM9 (up aO9 r_6 ((ft + 1))) aU gq aW] := hD
                    refine lv_iload_n hx hb dX9_goBlocks_167 rfl (lv_at hl 4 rfl) ?_
                    refine lv_iload hx hb dX9_goBlocks_168 (lv_at hl 0 rfl) ?_
                    refine jv_if_eq (tgt := 177) hx hb dX9_goBlocks_170 (by decide) (by omega) (fun c_8 => ?_) (fun c_8 => ?_)
                    · exfalso; omega
                    · refine jv_iconst hx hb dX9_goBlocks_173 ?_
                      refine lv_goto (tgt := 178) hx hb dX9_goBlocks_174 (by decide) ?_
                      refine jv_iadd hx hb dX9_goBlocks_178 ?_
                      refine lv_istore_n (lv' := [(2, .int (jz (r + 0))), (8, .int (jz 1)), (7, .int (jz r_6)), (0, .ref x), (1, .int (jz z)), (3, .int (jz i)), (4, .int (jz j))]) hx hb dX9_goBlocks_179 rfl hl (by decide) rfl (fun ls hl => ?_)
                      refine lv_iload_n hx hb dX9_goBlocks_180 rfl (lv_at hl 4 rfl) ?_
                      refine jv_if_eq (tgt := 230) hx hb dX9_goBlocks_181 (by decide) (by omega) (fun c_9 => ?_) (fun c_9 => ?_)
                      · exfalso; omega
                      · refine lv_aload_n hx hb dX9_goBlocks_184 rfl (lv_at hl 3 rfl) ?_
                        refine va_get (ci := 9) (v := .ref xm) (C := RX9) (T := TX9) (N := 19) hx hb hts wfX9 hown hK.1 hP 0 rfl rfl 4 (by decide) (hts _ wm814) (fun _ h9 => h9) rfl dX9_goBlocks_185 ?_
                        refine lv_iload hx hb dX9_goBlocks_188 (lv_at hl 2 rfl) ?_
                        refine jv_iconst hx hb dX9_goBlocks_190 ?_
                        refine jv_zast hx hb hK.1 hP hD hS 3 (g := aM9) rfl (by omega) (by omega) (by decide) (by omega) dX9_goBlocks_191 (fun H locs hP hD hS => ?_)
                        have hP : wP G [bMod G x xs xb xm xf xu xg xw kn bl ((ft + 1)) vh9 vm9 vs9 ln th sp pl wr br aS aB (up aM9 r_6 1) (up aO9 r_6 ((ft + 1))) aU gq aW] H := hP
                        have hD : wD A [bMod G x xs xb xm xf xu xg xw kn bl ((ft + 1)) vh9 vm9 vs9 ln th sp pl wr br aS aB (up aM9 r_6 1) (up aO9 r_6 ((ft + 1))) aU gq aW] := hD
                        refine lv_aload_n hx hb dX9_goBlocks_192 rfl (lv_at hl 3 rfl) ?_
                        refine lv_dup hx hb dX9_goBlocks_193 rfl ?_
                        refine va_get (ci := 9) (v := .int (jz vh9)) (C := RX9) (T := TX9) (N := 19) hx hb hts wfX9 hown hK.1 hP 0 rfl rfl 7 (by decide) (hts _ wm817) (fun _ h9 => h9) rfl dX9_goBlocks_194 ?_
                        refine lv_iload hx hb dX9_goBlocks_197 (lv_at hl 1 rfl) ?_
                        refine jv_if_eq (tgt := 206) hx hb dX9_goBlocks_199 (by decide) (by omega) (fun c_10 => ?_) (fun c_10 => ?_)
                        · exfalso; omega
                        · refine jv_iconst hx hb dX9_goBlocks_202 ?_
                          refine lv_goto (tgt := 207) hx hb dX9_goBlocks_203 (by decide) ?_
                          refine jv_iadd hx hb dX9_goBlocks_207 ?_
                          refine va_put (ci := 9) (v := .int (jz (vh9 + 1))) (ty := .int) (C := RX9) (T := TX9) (N := 19) hx hb hts wfX9 tyX9 tyX9_ok nmX9 hown hK.1 hP hD hS 0 rfl rfl 7 (by decide) (hts _ wm817) (fun _ h9 => h9) rfl (by decide +kernel) rfl rfl (Nat.le_of_ble_eq_true rfl) dX9_goBlocks_208 (fun H locs hP hD hS => ?_)
                          have hP : wP G [bMod G x xs xb xm xf xu xg xw kn bl ((ft + 1)) (vh9 + 1) vm9 vs9 ln th sp pl wr br aS aB (up aM9 r_6 1) (up aO9 r_6 ((ft + 1))) aU gq aW] H := hP
                          have hD : wD A [bMod G x xs xb xm xf xu xg xw kn bl ((ft + 1)) (vh9 + 1) vm9 vs9 ln th sp pl wr br aS aB (up aM9 r_6 1) (up aO9 r_6 ((ft + 1))) aU gq aW] := hD
                          refine lv_aload_n hx hb dX9_goBlocks_211 rfl (lv_at hl 3 rfl) ?_
                          refine lv_dup hx hb dX9_goBlocks_212 rfl ?_
                          refine va_get (ci := 9) (v := .int (jz vm9)) (C := RX9) (T := TX9) (N := 19) hx hb hts wfX9 hown hK.1 hP 0 rfl rfl 8 (by decide) (hts _ wm818) (fun _ h9 => h9) rfl dX9_goBlocks_213 ?_
                          refine lv_iload hx hb dX9_goBlocks_216 (lv_at hl 1 rfl) ?_
                          refine jv_if_eq (tgt := 225) hx hb dX9_goBlocks_218 (by decide) (by omega) (fun c_11 => ?_) (fun c_11 => ?_)
                          · exfalso; omega
                          · refine jv_iconst hx hb dX9_goBlocks_221 ?_
                            refine lv_goto (tgt := 226) hx hb dX9_goBlocks_222 (by decide) ?_
                            refine jv_iadd hx hb dX9_goBlocks_226 ?_
                            refine va_put (ci := 9) (v := .int (jz (vm9 + 0))) (ty := .int) (C := RX9) (T := TX9) (N := 19) hx hb hts wfX9 tyX9 tyX9_ok nmX9 hown hK.1 hP hD hS 0 rfl rfl 8 (by decide) (hts _ wm818) (fun _ h9 => h9) rfl (by decide +kernel) rfl rfl (Nat.le_of_ble_eq_true rfl) dX9_goBlocks_227 (fun H locs hP hD hS => ?_)
                            have hP : wP G [bMod G x xs xb xm xf xu xg xw kn bl ((ft + 1)) (vh9 + 1) (vm9 + 0) vs9 ln th sp pl wr br aS aB (up aM9 r_6 1) (up aO9 r_6 ((ft + 1))) aU gq aW] H := hP
                            have hD : wD A [bMod G x xs xb xm xf xu xg xw kn bl ((ft + 1)) (vh9 + 1) (vm9 + 0) vs9 ln th sp pl wr br aS aB (up aM9 r_6 1) (up aO9 r_6 ((ft + 1))) aU gq aW] := hD
                            refine lv_goto (tgt := 255) hx hb dX9_goBlocks_230 (by decide) ?_
                            refine lv_iload hx hb dX9_goBlocks_255 (lv_at hl 6 rfl) ?_
                            refine lv_aload_n hx hb dX9_goBlocks_257 rfl (lv_at hl 3 rfl) ?_
                            refine va_get (ci := 9) (v := .int (jz bl)) (C := RX9) (T := TX9) (N := 19) hx hb hts wfX9 hown hK.1 hP 0 rfl rfl 3 (by decide) (hts _ wm813) (fun _ h9 => h9) rfl dX9_goBlocks_258 ?_
                            refine jv_iadd hx hb dX9_goBlocks_261 ?_
                            refine lv_istore (lv' := [(4, .int (jz (j + bl))), (2, .int (jz (r + 0))), (8, .int (jz 1)), (7, .int (jz r_6)), (0, .ref x), (1, .int (jz z)), (3, .int (jz i))]) hx hb dX9_goBlocks_262 hl (by decide) rfl (fun ls hl => ?_)
                            refine lv_goto (tgt := 32) hx hb dX9_goBlocks_264 (by decide) ?_
                            exact ih32 (r + 0) (j + bl) (vh9 + 1) (vm9 + 0) vs9 (up aM9 r_6 1) (up aO9 r_6 ((ft + 1))) gq M9 fr2 (by omega) (by exact hgr) (by omega) (by have q9 := hrow2; (try simp only [Int.add_zero]); rw [if_pos hm9] at q9; exact q9) (by exact hfr2) (by omega) (by exact hR2) (by exact hP2) H _ _ hP hD hS (lv_sub hl [4, 5, 1, 6, 0] rfl)
                  · refine lv_aload_n hx hb dX9_goBlocks_135 rfl (lv_at hl 1 rfl) ?_
                    refine va_get (ci := 9) (v := .ref xf) (C := RX9) (T := TX9) (N := 19) hx hb hts wfX9 hown hK.1 hP 0 rfl rfl 5 (by decide) (hts _ wm815) (fun _ h9 => h9) rfl dX9_goBlocks_136 ?_
                    refine lv_iload hx hb dX9_goBlocks_139 (lv_at hl 0 rfl) ?_
                    refine jv_iald hx hb hK.1 hP 4 (g := aO9) rfl (by omega) (by omega) (by decide) dX9_goBlocks_141 ?_
                    refine lv_aload_n hx hb dX9_goBlocks_142 rfl (lv_at hl 1 rfl) ?_
                    refine va_get (ci := 9) (v := .int (jz ((ft + 1)))) (C := RX9) (T := TX9) (N := 19) hx hb hts wfX9 hown hK.1 hP 0 rfl rfl 6 (by decide) (hts _ wm816) (fun _ h9 => h9) rfl dX9_goBlocks_143 ?_
                    refine jv_icmp_ne (tgt := 153) hx hb dX9_goBlocks_146 (by decide) (by omega) (by omega) (fun c_12 => ?_) (fun c_12 => ?_)
                    · have hm9 : ¬ M9 (cv bl r_6) = true := fun q => by have q2 := hj2.mpr q; omega
                      have hR2 := rJ_up hR hkr
                      have hP2 := rP_up (k := r_6) hP9 (by omega)
                      refine jv_iconst hx hb dX9_goBlocks_153 ?_
                      refine lv_istore (lv' := [(8, .int (jz 0)), (7, .int (jz r_6)), (0, .ref x), (1, .int (jz z)), (2, .int (jz r)), (3, .int (jz i)), (4, .int (jz j))]) hx hb dX9_goBlocks_154 hl (by decide) rfl (fun ls hl => ?_)
                      refine lv_aload_n hx hb dX9_goBlocks_156 rfl (lv_at hl 2 rfl) ?_
                      refine va_get (ci := 9) (v := .ref xf) (C := RX9) (T := TX9) (N := 19) hx hb hts wfX9 hown hK.1 hP 0 rfl rfl 5 (by decide) (hts _ wm815) (fun _ h9 => h9) rfl dX9_goBlocks_157 ?_
                      refine lv_iload hx hb dX9_goBlocks_160 (lv_at hl 1 rfl) ?_
                      refine lv_aload_n hx hb dX9_goBlocks_162 rfl (lv_at hl 2 rfl) ?_
                      refine va_get (ci := 9) (v := .int (jz ((ft + 1)))) (C := RX9) (T := TX9) (N := 19) hx hb hts wfX9 hown hK.1 hP 0 rfl rfl 6 (by decide) (hts _ wm816) (fun _ h9 => h9) rfl dX9_goBlocks_163 ?_
                      refine jv_iast hx hb hK.1 hP hD hS 4 (g := aO9) rfl (by omega) (by omega) (by decide) dX9_goBlocks_166 (fun H locs hP hD hS => ?_)
                      have hP : wP G [bMod G x xs xb xm xf xu xg xw kn bl ((ft + 1)) vh9 vm9 vs9 ln th sp pl wr br aS aB aM9 (up aO9 r_6 ((ft + 1))) aU gq aW] H := hP
                      have hD : wD A [bMod G x xs xb xm xf xu xg xw kn bl ((ft + 1)) vh9 vm9 vs9 ln th sp pl wr br aS aB aM9 (up aO9 r_6 ((ft + 1))) aU gq aW] := hD
                      refine lv_iload_n hx hb dX9_goBlocks_167 rfl (lv_at hl 4 rfl) ?_
                      refine lv_iload hx hb dX9_goBlocks_168 (lv_at hl 0 rfl) ?_
                      refine jv_if_eq (tgt := 177) hx hb dX9_goBlocks_170 (by decide) (by omega) (fun c_13 => ?_) (fun c_13 => ?_)
                      · refine jv_iconst hx hb dX9_goBlocks_177 ?_
                        refine jv_iadd hx hb dX9_goBlocks_178 ?_
                        refine lv_istore_n (lv' := [(2, .int (jz (r + 1))), (8, .int (jz 0)), (7, .int (jz r_6)), (0, .ref x), (1, .int (jz z)), (3, .int (jz i)), (4, .int (jz j))]) hx hb dX9_goBlocks_179 rfl hl (by decide) rfl (fun ls hl => ?_)
                        refine lv_iload_n hx hb dX9_goBlocks_180 rfl (lv_at hl 4 rfl) ?_
                        refine jv_if_eq (tgt := 230) hx hb dX9_goBlocks_181 (by decide) (by omega) (fun c_14 => ?_) (fun c_14 => ?_)
                        · exfalso; omega
                        · refine lv_aload_n hx hb dX9_goBlocks_184 rfl (lv_at hl 3 rfl) ?_
                          refine va_get (ci := 9) (v := .ref xm) (C := RX9) (T := TX9) (N := 19) hx hb hts wfX9 hown hK.1 hP 0 rfl rfl 4 (by decide) (hts _ wm814) (fun _ h9 => h9) rfl dX9_goBlocks_185 ?_
                          refine lv_iload hx hb dX9_goBlocks_188 (lv_at hl 2 rfl) ?_
                          refine jv_iconst hx hb dX9_goBlocks_190 ?_
                          refine jv_zast hx hb hK.1 hP hD hS 3 (g := aM9) rfl (by omega) (by omega) (by decide) (by omega) dX9_goBlocks_191 (fun H locs hP hD hS => ?_)
                          have hP : wP G [bMod G x xs xb xm xf xu xg xw kn bl ((ft + 1)) vh9 vm9 vs9 ln th sp pl wr br aS aB (up aM9 r_6 1) (up aO9 r_6 ((ft + 1))) aU gq aW] H := hP
                          have hD : wD A [bMod G x xs xb xm xf xu xg xw kn bl ((ft + 1)) vh9 vm9 vs9 ln th sp pl wr br aS aB (up aM9 r_6 1) (up aO9 r_6 ((ft + 1))) aU gq aW] := hD
                          refine lv_aload_n hx hb dX9_goBlocks_192 rfl (lv_at hl 3 rfl) ?_
                          refine lv_dup hx hb dX9_goBlocks_193 rfl ?_
                          refine va_get (ci := 9) (v := .int (jz vh9)) (C := RX9) (T := TX9) (N := 19) hx hb hts wfX9 hown hK.1 hP 0 rfl rfl 7 (by decide) (hts _ wm817) (fun _ h9 => h9) rfl dX9_goBlocks_194 ?_
                          refine lv_iload hx hb dX9_goBlocks_197 (lv_at hl 1 rfl) ?_
                          refine jv_if_eq (tgt := 206) hx hb dX9_goBlocks_199 (by decide) (by omega) (fun c_15 => ?_) (fun c_15 => ?_)
                          · refine jv_iconst hx hb dX9_goBlocks_206 ?_
                            refine jv_iadd hx hb dX9_goBlocks_207 ?_
                            refine va_put (ci := 9) (v := .int (jz (vh9 + 0))) (ty := .int) (C := RX9) (T := TX9) (N := 19) hx hb hts wfX9 tyX9 tyX9_ok nmX9 hown hK.1 hP hD hS 0 rfl rfl 7 (by decide) (hts _ wm817) (fun _ h9 => h9) rfl (by decide +kernel) rfl rfl (Nat.le_of_ble_eq_true rfl) dX9_goBlocks_208 (fun H locs hP hD hS => ?_)
                            have hP : wP G [bMod G x xs xb xm xf xu xg xw kn bl ((ft + 1)) (vh9 + 0) vm9 vs9 ln th sp pl wr br aS aB (up aM9 r_6 1) (up aO9 r_6 ((ft + 1))) aU gq aW] H := hP
                            have hD : wD A [bMod G x xs xb xm xf xu xg xw kn bl ((ft + 1)) (vh9 + 0) vm9 vs9 ln th sp pl wr br aS aB (up aM9 r_6 1) (up aO9 r_6 ((ft + 1))) aU gq aW] := hD
                            refine lv_aload_n hx hb dX9_goBlocks_211 rfl (lv_at hl 3 rfl) ?_
                            refine lv_dup hx hb dX9_goBlocks_212 rfl ?_
                            refine va_get (ci := 9) (v := .int (jz vm9)) (C := RX9) (T := TX9) (N := 19) hx hb hts wfX9 hown hK.1 hP 0 rfl rfl 8 (by decide) (hts _ wm818) (fun _ h9 => h9) rfl dX9_goBlocks_213 ?_
                            refine lv_iload hx hb dX9_goBlocks_216 (lv_at hl 1 rfl) ?_
                            refine jv_if_eq (tgt := 225) hx hb dX9_goBlocks_218 (by decide) (by omega) (fun c_16 => ?_) (fun c_16 => ?_)
                            · refine jv_iconst hx hb dX9_goBlocks_225 ?_
                              refine jv_iadd hx hb dX9_goBlocks_226 ?_
                              refine va_put (ci := 9) (v := .int (jz (vm9 + 1))) (ty := .int) (C := RX9) (T := TX9) (N := 19) hx hb hts wfX9 tyX9 tyX9_ok nmX9 hown hK.1 hP hD hS 0 rfl rfl 8 (by decide) (hts _ wm818) (fun _ h9 => h9) rfl (by decide +kernel) rfl rfl (Nat.le_of_ble_eq_true rfl) dX9_goBlocks_227 (fun H locs hP hD hS => ?_)
                              have hP : wP G [bMod G x xs xb xm xf xu xg xw kn bl ((ft + 1)) (vh9 + 0) (vm9 + 1) vs9 ln th sp pl wr br aS aB (up aM9 r_6 1) (up aO9 r_6 ((ft + 1))) aU gq aW] H := hP
                              have hD : wD A [bMod G x xs xb xm xf xu xg xw kn bl ((ft + 1)) (vh9 + 0) (vm9 + 1) vs9 ln th sp pl wr br aS aB (up aM9 r_6 1) (up aO9 r_6 ((ft + 1))) aU gq aW] := hD
                              refine lv_goto (tgt := 255) hx hb dX9_goBlocks_230 (by decide) ?_
                              refine lv_iload hx hb dX9_goBlocks_255 (lv_at hl 6 rfl) ?_
                              refine lv_aload_n hx hb dX9_goBlocks_257 rfl (lv_at hl 3 rfl) ?_
                              refine va_get (ci := 9) (v := .int (jz bl)) (C := RX9) (T := TX9) (N := 19) hx hb hts wfX9 hown hK.1 hP 0 rfl rfl 3 (by decide) (hts _ wm813) (fun _ h9 => h9) rfl dX9_goBlocks_258 ?_
                              refine jv_iadd hx hb dX9_goBlocks_261 ?_
                              refine lv_istore (lv' := [(4, .int (jz (j + bl))), (2, .int (jz (r + 1))), (8, .int (jz 0)), (7, .int (jz r_6)), (0, .ref x), (1, .int (jz z)), (3, .int (jz i))]) hx hb dX9_goBlocks_262 hl (by decide) rfl (fun ls hl => ?_)
                              refine lv_goto (tgt := 32) hx hb dX9_goBlocks_264 (by decide) ?_
                              exact ih32 (r + 1) (j + bl) (vh9 + 0) (vm9 + 1) vs9 (up aM9 r_6 1) (up aO9 r_6 ((ft + 1))) gq ((upB M9 (cv bl r_6))) fr2 (by omega) (by exact hgr) (by omega) (by have q9 := hrow2; (try simp only [Int.add_zero]); rw [if_neg hm9] at q9; exact q9) (by exact hfr2) (by omega) (by exact hR2) (by exact hP2) H _ _ hP hD hS (lv_sub hl [4, 5, 1, 6, 0] rfl)
                            · exfalso; omega
                          · exfalso; omega
                      · exfalso; omega
                    · have hm9 : M9 (cv bl r_6) = true := hj2.mp (by omega)
                      have hR2 := rJ_same hR hkr hm9
                      have hP2 := rP_up (k := r_6) hP9 (by omega)
                      refine jv_iconst hx hb dX9_goBlocks_149 ?_
                      refine lv_goto (tgt := 154) hx hb dX9_goBlocks_150 (by decide) ?_
                      refine lv_istore (lv' := [(8, .int (jz 1)), (7, .int (jz r_6)), (0, .ref x), (1, .int (jz z)), (2, .int (jz r)), (3, .int (jz i)), (4, .int (jz j))]) hx hb dX9_goBlocks_154 hl (by decide) rfl (fun ls hl => ?_)
                      refine lv_aload_n hx hb dX9_goBlocks_156 rfl (lv_at hl 2 rfl) ?_
                      refine va_get (ci := 9) (v := .ref xf) (C := RX9) (T := TX9) (N := 19) hx hb hts wfX9 hown hK.1 hP 0 rfl rfl 5 (by decide) (hts _ wm815) (fun _ h9 => h9) rfl dX9_goBlocks_157 ?_
                      refine lv_iload hx hb dX9_goBlocks_160 (lv_at hl 1 rfl) ?_
                      refine lv_aload_n hx hb dX9_goBlocks_162 rfl (lv_at hl 2 rfl) ?_
                      refine va_get (ci := 9) (v := .int (jz ((ft + 1)))) (C := RX9) (T := TX9) (N := 19) hx hb hts wfX9 hown hK.1 hP 0 rfl rfl 6 (by decide) (hts _ wm816) (fun _ h9 => h9) rfl dX9_goBlocks_163 ?_
                      refine jv_iast hx hb hK.1 hP hD hS 4 (g := aO9) rfl (by omega) (by omega) (by decide) dX9_goBlocks_166 (fun H locs hP hD hS => ?_)
                      have hP : wP G [bMod G x xs xb xm xf xu xg xw kn bl ((ft + 1)) vh9 vm9 vs9 ln th sp pl wr br aS aB aM9 (up aO9 r_6 ((ft + 1))) aU gq aW] H := hP
                      have hD : wD A [bMod G x xs xb xm xf xu xg xw kn bl ((ft + 1)) vh9 vm9 vs9 ln th sp pl wr br aS aB aM9 (up aO9 r_6 ((ft + 1))) aU gq aW] := hD
                      refine lv_iload_n hx hb dX9_goBlocks_167 rfl (lv_at hl 4 rfl) ?_
                      refine lv_iload hx hb dX9_goBlocks_168 (lv_at hl 0 rfl) ?_
                      refine jv_if_eq (tgt := 177) hx hb dX9_goBlocks_170 (by decide) (by omega) (fun c_17 => ?_) (fun c_17 => ?_)
                      · exfalso; omega
                      · refine jv_iconst hx hb dX9_goBlocks_173 ?_
                        refine lv_goto (tgt := 178) hx hb dX9_goBlocks_174 (by decide) ?_
                        refine jv_iadd hx hb dX9_goBlocks_178 ?_
                        refine lv_istore_n (lv' := [(2, .int (jz (r + 0))), (8, .int (jz 1)), (7, .int (jz r_6)), (0, .ref x), (1, .int (jz z)), (3, .int (jz i)), (4, .int (jz j))]) hx hb dX9_goBlocks_179 rfl hl (by decide) rfl (fun ls hl => ?_)
                        refine lv_iload_n hx hb dX9_goBlocks_180 rfl (lv_at hl 4 rfl) ?_
                        refine jv_if_eq (tgt := 230) hx hb dX9_goBlocks_181 (by decide) (by omega) (fun c_18 => ?_) (fun c_18 => ?_)
                        · exfalso; omega
                        · refine lv_aload_n hx hb dX9_goBlocks_184 rfl (lv_at hl 3 rfl) ?_
                          refine va_get (ci := 9) (v := .ref xm) (C := RX9) (T := TX9) (N := 19) hx hb hts wfX9 hown hK.1 hP 0 rfl rfl 4 (by decide) (hts _ wm814) (fun _ h9 => h9) rfl dX9_goBlocks_185 ?_
                          refine lv_iload hx hb dX9_goBlocks_188 (lv_at hl 2 rfl) ?_
                          refine jv_iconst hx hb dX9_goBlocks_190 ?_
                          refine jv_zast hx hb hK.1 hP hD hS 3 (g := aM9) rfl (by omega) (by omega) (by decide) (by omega) dX9_goBlocks_191 (fun H locs hP hD hS => ?_)
                          have hP : wP G [bMod G x xs xb xm xf xu xg xw kn bl ((ft + 1)) vh9 vm9 vs9 ln th sp pl wr br aS aB (up aM9 r_6 1) (up aO9 r_6 ((ft + 1))) aU gq aW] H := hP
                          have hD : wD A [bMod G x xs xb xm xf xu xg xw kn bl ((ft + 1)) vh9 vm9 vs9 ln th sp pl wr br aS aB (up aM9 r_6 1) (up aO9 r_6 ((ft + 1))) aU gq aW] := hD
                          refine lv_aload_n hx hb dX9_goBlocks_192 rfl (lv_at hl 3 rfl) ?_
                          refine lv_dup hx hb dX9_goBlocks_193 rfl ?_
                          refine va_get (ci := 9) (v := .int (jz vh9)) (C := RX9) (T := TX9) (N := 19) hx hb hts wfX9 hown hK.1 hP 0 rfl rfl 7 (by decide) (hts _ wm817) (fun _ h9 => h9) rfl dX9_goBlocks_194 ?_
                          refine lv_iload hx hb dX9_goBlocks_197 (lv_at hl 1 rfl) ?_
                          refine jv_if_eq (tgt := 206) hx hb dX9_goBlocks_199 (by decide) (by omega) (fun c_19 => ?_) (fun c_19 => ?_)
                          · exfalso; omega
                          · refine jv_iconst hx hb dX9_goBlocks_202 ?_
                            refine lv_goto (tgt := 207) hx hb dX9_goBlocks_203 (by decide) ?_
                            refine jv_iadd hx hb dX9_goBlocks_207 ?_
                            refine va_put (ci := 9) (v := .int (jz (vh9 + 1))) (ty := .int) (C := RX9) (T := TX9) (N := 19) hx hb hts wfX9 tyX9 tyX9_ok nmX9 hown hK.1 hP hD hS 0 rfl rfl 7 (by decide) (hts _ wm817) (fun _ h9 => h9) rfl (by decide +kernel) rfl rfl (Nat.le_of_ble_eq_true rfl) dX9_goBlocks_208 (fun H locs hP hD hS => ?_)
                            have hP : wP G [bMod G x xs xb xm xf xu xg xw kn bl ((ft + 1)) (vh9 + 1) vm9 vs9 ln th sp pl wr br aS aB (up aM9 r_6 1) (up aO9 r_6 ((ft + 1))) aU gq aW] H := hP
                            have hD : wD A [bMod G x xs xb xm xf xu xg xw kn bl ((ft + 1)) (vh9 + 1) vm9 vs9 ln th sp pl wr br aS aB (up aM9 r_6 1) (up aO9 r_6 ((ft + 1))) aU gq aW] := hD
                            refine lv_aload_n hx hb dX9_goBlocks_211 rfl (lv_at hl 3 rfl) ?_
                            refine lv_dup hx hb dX9_goBlocks_212 rfl ?_
                            refine va_get (ci := 9) (v := .int (jz vm9)) (C := RX9) (T := TX9) (N := 19) hx hb hts wfX9 hown hK.1 hP 0 rfl rfl 8 (by decide) (hts _ wm818) (fun _ h9 => h9) rfl dX9_goBlocks_213 ?_
                            refine lv_iload hx hb dX9_goBlocks_216 (lv_at hl 1 rfl) ?_
                            refine jv_if_eq (tgt := 225) hx hb dX9_goBlocks_218 (by decide) (by omega) (fun c_20 => ?_) (fun c_20 => ?_)
                            · exfalso; omega
                            · refine jv_iconst hx hb dX9_goBlocks_221 ?_
                              refine lv_goto (tgt := 226) hx hb dX9_goBlocks_222 (by decide) ?_
                              refine jv_iadd hx hb dX9_goBlocks_226 ?_
                              refine va_put (ci := 9) (v := .int (jz (vm9 + 0))) (ty := .int) (C := RX9) (T := TX9) (N := 19) hx hb hts wfX9 tyX9 tyX9_ok nmX9 hown hK.1 hP hD hS 0 rfl rfl 8 (by decide) (hts _ wm818) (fun _ h9 => h9) rfl (by decide +kernel) rfl rfl (Nat.le_of_ble_eq_true rfl) dX9_goBlocks_227 (fun H locs hP hD hS => ?_)
                              have hP : wP G [bMod G x xs xb xm xf xu xg xw kn bl ((ft + 1)) (vh9 + 1) (vm9 + 0) vs9 ln th sp pl wr br aS aB (up aM9 r_6 1) (up aO9 r_6 ((ft + 1))) aU gq aW] H := hP
                              have hD : wD A [bMod G x xs xb xm xf xu xg xw kn bl ((ft + 1)) (vh9 + 1) (vm9 + 0) vs9 ln th sp pl wr br aS aB (up aM9 r_6 1) (up aO9 r_6 ((ft + 1))) aU gq aW] := hD
                              refine lv_goto (tgt := 255) hx hb dX9_goBlocks_230 (by decide) ?_
                              refine lv_iload hx hb dX9_goBlocks_255 (lv_at hl 6 rfl) ?_
                              refine lv_aload_n hx hb dX9_goBlocks_257 rfl (lv_at hl 3 rfl) ?_
                              refine va_get (ci := 9) (v := .int (jz bl)) (C := RX9) (T := TX9) (N := 19) hx hb hts wfX9 hown hK.1 hP 0 rfl rfl 3 (by decide) (hts _ wm813) (fun _ h9 => h9) rfl dX9_goBlocks_258 ?_
                              refine jv_iadd hx hb dX9_goBlocks_261 ?_
                              refine lv_istore (lv' := [(4, .int (jz (j + bl))), (2, .int (jz (r + 0))), (8, .int (jz 1)), (7, .int (jz r_6)), (0, .ref x), (1, .int (jz z)), (3, .int (jz i))]) hx hb dX9_goBlocks_262 hl (by decide) rfl (fun ls hl => ?_)
                              refine lv_goto (tgt := 32) hx hb dX9_goBlocks_264 (by decide) ?_
                              exact ih32 (r + 0) (j + bl) (vh9 + 1) (vm9 + 0) vs9 (up aM9 r_6 1) (up aO9 r_6 ((ft + 1))) gq M9 fr2 (by omega) (by exact hgr) (by omega) (by have q9 := hrow2; (try simp only [Int.add_zero]); rw [if_pos hm9] at q9; exact q9) (by exact hfr2) (by omega) (by exact hR2) (by exact hP2) H _ _ hP hD hS (lv_sub hl [4, 5, 1, 6, 0] rfl)
                have K233 : ∀ (ta : Int) (wi : Int) , (¬ (i + bl - 1 ≤ aS 0 ∧ j + bl - 1 ≤ aS 1)) → (ta = min bl (aS 0 - i + 1)) → (wi = min bl (aS 1 - j + 1)) → ∀ (H : Heap) (locs : List Loc) (ls : Array Slot), wP G [bMod G x xs xb xm xf xu xg xw kn bl ((ft + 1)) vh9 vm9 vs9 ln th sp pl wr br aS aB aM9 aO9 aU gq aW] H → wD A [bMod G x xs xb xm xf xu xg xw kn bl ((ft + 1)) vh9 vm9 vs9 ln th sp pl wr br aS aB aM9 aO9 aU gq aW] → va_S A s.heap H locs → lv_has ls 9 [(0, .ref x), (1, .int (jz z)), (2, .int (jz r)), (3, .int (jz i)), (4, .int (jz j)), (5, .int (jz ta)), (6, .int (jz wi))] → W p l e rmX9_goBlocks_1 s m args below meth c H locs 0 0 Q (F0 m 233 ls []) := by
                  intro ta wi hnin hta hwi H locs ls hP hD hS hl
                  obtain ⟨fr2, hrow2, hfr2⟩ := tRow_s hrow (by omega) hfr (by omega)
                  rw [tBlk, if_neg hnin, tOne, ← hta, ← hwi] at hrow2
                  have hR2 := hR
                  have hP2 := hP9
                  refine lv_aload_n hx hb dX9_goBlocks_233 rfl (lv_at hl 0 rfl) ?_
                  refine lv_dup hx hb dX9_goBlocks_234 rfl ?_
                  refine va_get (ci := 9) (v := .int (jz vs9)) (C := RX9) (T := TX9) (N := 19) hx hb hts wfX9 hown hK.1 hP 0 rfl rfl 9 (by decide) (hts _ wm819) (fun _ h9 => h9) rfl dX9_goBlocks_235 ?_
                  refine lv_iload_n hx hb dX9_goBlocks_238 rfl (lv_at hl 1 rfl) ?_
                  refine jv_if_eq (tgt := 250) hx hb dX9_goBlocks_239 (by decide) (by omega) (fun c_21 => ?_) (fun c_21 => ?_)
                  · exfalso; omega
                  · refine lv_iload hx hb dX9_goBlocks_242 (lv_at hl 5 rfl) ?_
                    refine lv_iload hx hb dX9_goBlocks_244 (lv_at hl 6 rfl) ?_
                    refine jv_imul hx hb dX9_goBlocks_246 ?_
                    refine lv_goto (tgt := 251) hx hb dX9_goBlocks_247 (by decide) ?_
                    refine jv_iadd hx hb dX9_goBlocks_251 ?_
                    refine va_put (ci := 9) (v := .int (jz (vs9 + (ta * wi)))) (ty := .int) (C := RX9) (T := TX9) (N := 19) hx hb hts wfX9 tyX9 tyX9_ok nmX9 hown hK.1 hP hD hS 0 rfl rfl 9 (by decide) (hts _ wm819) (fun _ h9 => h9) rfl (by decide +kernel) rfl rfl (Nat.le_of_ble_eq_true rfl) dX9_goBlocks_252 (fun H locs hP hD hS => ?_)
                    have hP : wP G [bMod G x xs xb xm xf xu xg xw kn bl ((ft + 1)) vh9 vm9 (vs9 + (ta * wi)) ln th sp pl wr br aS aB aM9 aO9 aU gq aW] H := hP
                    have hD : wD A [bMod G x xs xb xm xf xu xg xw kn bl ((ft + 1)) vh9 vm9 (vs9 + (ta * wi)) ln th sp pl wr br aS aB aM9 aO9 aU gq aW] := hD
                    refine lv_iload hx hb dX9_goBlocks_255 (lv_at hl 4 rfl) ?_
                    refine lv_aload_n hx hb dX9_goBlocks_257 rfl (lv_at hl 0 rfl) ?_
                    refine va_get (ci := 9) (v := .int (jz bl)) (C := RX9) (T := TX9) (N := 19) hx hb hts wfX9 hown hK.1 hP 0 rfl rfl 3 (by decide) (hts _ wm813) (fun _ h9 => h9) rfl dX9_goBlocks_258 ?_
                    refine jv_iadd hx hb dX9_goBlocks_261 ?_
                    refine lv_istore (lv' := [(4, .int (jz (j + bl))), (0, .ref x), (1, .int (jz z)), (2, .int (jz r)), (3, .int (jz i)), (5, .int (jz ta)), (6, .int (jz wi))]) hx hb dX9_goBlocks_262 hl (by decide) rfl (fun ls hl => ?_)
                    refine lv_goto (tgt := 32) hx hb dX9_goBlocks_264 (by decide) ?_
                    exact ih32 r (j + bl) vh9 vm9 (vs9 + (ta * wi)) aM9 aO9 gq M9 fr2 (by omega) (by exact hgr) (by omega) (by have q9 := hrow2; exact q9) (by exact hfr2) (by omega) (by exact hR2) (by exact hP2) H _ _ hP hD hS (lv_sub hl [1, 2, 3, 4, 0] rfl)
                refine lv_iload_n hx hb dX9_goBlocks_43 rfl (lv_at hl 3 rfl) ?_
                refine lv_aload_n hx hb dX9_goBlocks_44 rfl (lv_at hl 0 rfl) ?_
                refine va_get (ci := 9) (v := .int (jz bl)) (C := RX9) (T := TX9) (N := 19) hx hb hts wfX9 hown hK.1 hP 0 rfl rfl 3 (by decide) (hts _ wm813) (fun _ h9 => h9) rfl dX9_goBlocks_45 ?_
                refine jv_iadd hx hb dX9_goBlocks_48 ?_
                refine jv_iconst hx hb dX9_goBlocks_49 ?_
                refine jv_isub hx hb dX9_goBlocks_50 ?_
                refine lv_aload_n hx hb dX9_goBlocks_51 rfl (lv_at hl 0 rfl) ?_
                refine va_get (ci := 9) (v := .ref xs) (C := RX9) (T := TX9) (N := 19) hx hb hts wfX9 hown hK.1 hP 0 rfl rfl 0 (by decide) (hts _ wm810) (fun _ h9 => h9) rfl dX9_goBlocks_52 ?_
                refine jv_iconst hx hb dX9_goBlocks_55 ?_
                refine jv_iald hx hb hK.1 hP 1 (g := aS) rfl (by omega) (by omega) (by decide) dX9_goBlocks_56 ?_
                refine jv_icmp_gt (tgt := 67) hx hb dX9_goBlocks_57 (by decide) (by omega) (by omega) (fun c_22 => ?_) (fun c_22 => ?_)
                · refine jv_iconst hx hb dX9_goBlocks_67 ?_
                  refine lv_istore (lv' := [(5, .int (jz 1)), (0, .ref x), (1, .int (jz z)), (2, .int (jz r)), (3, .int (jz i)), (4, .int (jz j))]) hx hb dX9_goBlocks_68 hl (by decide) rfl (fun ls hl => ?_)
                  refine lv_iload hx hb dX9_goBlocks_70 (lv_at hl 5 rfl) ?_
                  refine lv_aload_n hx hb dX9_goBlocks_72 rfl (lv_at hl 1 rfl) ?_
                  refine va_get (ci := 9) (v := .int (jz bl)) (C := RX9) (T := TX9) (N := 19) hx hb hts wfX9 hown hK.1 hP 0 rfl rfl 3 (by decide) (hts _ wm813) (fun _ h9 => h9) rfl dX9_goBlocks_73 ?_
                  refine jv_iadd hx hb dX9_goBlocks_76 ?_
                  refine jv_iconst hx hb dX9_goBlocks_77 ?_
                  refine jv_isub hx hb dX9_goBlocks_78 ?_
                  refine lv_aload_n hx hb dX9_goBlocks_79 rfl (lv_at hl 1 rfl) ?_
                  refine va_get (ci := 9) (v := .ref xs) (C := RX9) (T := TX9) (N := 19) hx hb hts wfX9 hown hK.1 hP 0 rfl rfl 0 (by decide) (hts _ wm810) (fun _ h9 => h9) rfl dX9_goBlocks_80 ?_
                  refine jv_iconst hx hb dX9_goBlocks_83 ?_
                  refine jv_iald hx hb hK.1 hP 1 (g := aS) rfl (by omega) (by omega) (by decide) dX9_goBlocks_84 ?_
                  refine jv_icmp_gt (tgt := 95) hx hb dX9_goBlocks_85 (by decide) (by omega) (by omega) (fun c_23 => ?_) (fun c_23 => ?_)
                  · refine jv_iconst hx hb dX9_goBlocks_95 ?_
                    refine lv_istore (lv' := [(6, .int (jz 1)), (5, .int (jz 1)), (0, .ref x), (1, .int (jz z)), (2, .int (jz r)), (3, .int (jz i)), (4, .int (jz j))]) hx hb dX9_goBlocks_96 hl (by decide) rfl (fun ls hl => ?_)
                    refine lv_iload hx hb dX9_goBlocks_98 (lv_at hl 1 rfl) ?_
                    refine lv_aload_n hx hb dX9_goBlocks_100 rfl (lv_at hl 2 rfl) ?_
                    refine va_get (ci := 9) (v := .int (jz bl)) (C := RX9) (T := TX9) (N := 19) hx hb hts wfX9 hown hK.1 hP 0 rfl rfl 3 (by decide) (hts _ wm813) (fun _ h9 => h9) rfl dX9_goBlocks_101 ?_
                    refine jv_icmp_ne (tgt := 233) hx hb dX9_goBlocks_104 (by decide) (by omega) (by omega) (fun c_24 => ?_) (fun c_24 => ?_)
                    · exact K233 1 1 (by omega) (by omega) (by omega) H _ _ hP hD hS (lv_sub hl [2, 3, 4, 5, 6, 1, 0] rfl)
                    · refine lv_iload hx hb dX9_goBlocks_107 (lv_at hl 0 rfl) ?_
                      refine lv_aload_n hx hb dX9_goBlocks_109 rfl (lv_at hl 2 rfl) ?_
                      refine va_get (ci := 9) (v := .int (jz bl)) (C := RX9) (T := TX9) (N := 19) hx hb hts wfX9 hown hK.1 hP 0 rfl rfl 3 (by decide) (hts _ wm813) (fun _ h9 => h9) rfl dX9_goBlocks_110 ?_
                      refine jv_icmp_ne (tgt := 233) hx hb dX9_goBlocks_113 (by decide) (by omega) (by omega) (fun c_25 => ?_) (fun c_25 => ?_)
                      · exact K233 1 1 (by omega) (by omega) (by omega) H _ _ hP hD hS (lv_sub hl [2, 3, 4, 5, 6, 1, 0] rfl)
                      · exact K116  (by omega) H _ _ hP hD hS (lv_sub hl [2, 3, 4, 5, 6] rfl)
                  · refine lv_aload_n hx hb dX9_goBlocks_88 rfl (lv_at hl 1 rfl) ?_
                    refine va_get (ci := 9) (v := .int (jz bl)) (C := RX9) (T := TX9) (N := 19) hx hb hts wfX9 hown hK.1 hP 0 rfl rfl 3 (by decide) (hts _ wm813) (fun _ h9 => h9) rfl dX9_goBlocks_89 ?_
                    refine lv_goto (tgt := 96) hx hb dX9_goBlocks_92 (by decide) ?_
                    refine lv_istore (lv' := [(6, .int (jz bl)), (5, .int (jz 1)), (0, .ref x), (1, .int (jz z)), (2, .int (jz r)), (3, .int (jz i)), (4, .int (jz j))]) hx hb dX9_goBlocks_96 hl (by decide) rfl (fun ls hl => ?_)
                    refine lv_iload hx hb dX9_goBlocks_98 (lv_at hl 1 rfl) ?_
                    refine lv_aload_n hx hb dX9_goBlocks_100 rfl (lv_at hl 2 rfl) ?_
                    refine va_get (ci := 9) (v := .int (jz bl)) (C := RX9) (T := TX9) (N := 19) hx hb hts wfX9 hown hK.1 hP 0 rfl rfl 3 (by decide) (hts _ wm813) (fun _ h9 => h9) rfl dX9_goBlocks_101 ?_
                    refine jv_icmp_ne (tgt := 233) hx hb dX9_goBlocks_104 (by decide) (by omega) (by omega) (fun c_26 => ?_) (fun c_26 => ?_)
                    · exact K233 1 bl (by omega) (by omega) (by omega) H _ _ hP hD hS (lv_sub hl [2, 3, 4, 5, 6, 1, 0] rfl)
                    · refine lv_iload hx hb dX9_goBlocks_107 (lv_at hl 0 rfl) ?_
                      refine lv_aload_n hx hb dX9_goBlocks_109 rfl (lv_at hl 2 rfl) ?_
                      refine va_get (ci := 9) (v := .int (jz bl)) (C := RX9) (T := TX9) (N := 19) hx hb hts wfX9 hown hK.1 hP 0 rfl rfl 3 (by decide) (hts _ wm813) (fun _ h9 => h9) rfl dX9_goBlocks_110 ?_
                      refine jv_icmp_ne (tgt := 233) hx hb dX9_goBlocks_113 (by decide) (by omega) (by omega) (fun c_27 => ?_) (fun c_27 => ?_)
                      · exact K233 1 bl (by omega) (by omega) (by omega) H _ _ hP hD hS (lv_sub hl [2, 3, 4, 5, 6, 1, 0] rfl)
                      · exact K116  (by omega) H _ _ hP hD hS (lv_sub hl [2, 3, 4, 5, 6] rfl)
                · refine lv_aload_n hx hb dX9_goBlocks_60 rfl (lv_at hl 0 rfl) ?_
                  refine va_get (ci := 9) (v := .int (jz bl)) (C := RX9) (T := TX9) (N := 19) hx hb hts wfX9 hown hK.1 hP 0 rfl rfl 3 (by decide) (hts _ wm813) (fun _ h9 => h9) rfl dX9_goBlocks_61 ?_
                  refine lv_goto (tgt := 68) hx hb dX9_goBlocks_64 (by decide) ?_
                  refine lv_istore (lv' := [(5, .int (jz bl)), (0, .ref x), (1, .int (jz z)), (2, .int (jz r)), (3, .int (jz i)), (4, .int (jz j))]) hx hb dX9_goBlocks_68 hl (by decide) rfl (fun ls hl => ?_)
                  refine lv_iload hx hb dX9_goBlocks_70 (lv_at hl 5 rfl) ?_
                  refine lv_aload_n hx hb dX9_goBlocks_72 rfl (lv_at hl 1 rfl) ?_
                  refine va_get (ci := 9) (v := .int (jz bl)) (C := RX9) (T := TX9) (N := 19) hx hb hts wfX9 hown hK.1 hP 0 rfl rfl 3 (by decide) (hts _ wm813) (fun _ h9 => h9) rfl dX9_goBlocks_73 ?_
                  refine jv_iadd hx hb dX9_goBlocks_76 ?_
                  refine jv_iconst hx hb dX9_goBlocks_77 ?_
                  refine jv_isub hx hb dX9_goBlocks_78 ?_
                  refine lv_aload_n hx hb dX9_goBlocks_79 rfl (lv_at hl 1 rfl) ?_
                  refine va_get (ci := 9) (v := .ref xs) (C := RX9) (T := TX9) (N := 19) hx hb hts wfX9 hown hK.1 hP 0 rfl rfl 0 (by decide) (hts _ wm810) (fun _ h9 => h9) rfl dX9_goBlocks_80 ?_
                  refine jv_iconst hx hb dX9_goBlocks_83 ?_
                  refine jv_iald hx hb hK.1 hP 1 (g := aS) rfl (by omega) (by omega) (by decide) dX9_goBlocks_84 ?_
                  refine jv_icmp_gt (tgt := 95) hx hb dX9_goBlocks_85 (by decide) (by omega) (by omega) (fun c_28 => ?_) (fun c_28 => ?_)
                  · refine jv_iconst hx hb dX9_goBlocks_95 ?_
                    refine lv_istore (lv' := [(6, .int (jz 1)), (5, .int (jz bl)), (0, .ref x), (1, .int (jz z)), (2, .int (jz r)), (3, .int (jz i)), (4, .int (jz j))]) hx hb dX9_goBlocks_96 hl (by decide) rfl (fun ls hl => ?_)
                    refine lv_iload hx hb dX9_goBlocks_98 (lv_at hl 1 rfl) ?_
                    refine lv_aload_n hx hb dX9_goBlocks_100 rfl (lv_at hl 2 rfl) ?_
                    refine va_get (ci := 9) (v := .int (jz bl)) (C := RX9) (T := TX9) (N := 19) hx hb hts wfX9 hown hK.1 hP 0 rfl rfl 3 (by decide) (hts _ wm813) (fun _ h9 => h9) rfl dX9_goBlocks_101 ?_
                    refine jv_icmp_ne (tgt := 233) hx hb dX9_goBlocks_104 (by decide) (by omega) (by omega) (fun c_29 => ?_) (fun c_29 => ?_)
                    · exact K233 bl 1 (by omega) (by omega) (by omega) H _ _ hP hD hS (lv_sub hl [2, 3, 4, 5, 6, 1, 0] rfl)
                    · refine lv_iload hx hb dX9_goBlocks_107 (lv_at hl 0 rfl) ?_
                      refine lv_aload_n hx hb dX9_goBlocks_109 rfl (lv_at hl 2 rfl) ?_
                      refine va_get (ci := 9) (v := .int (jz bl)) (C := RX9) (T := TX9) (N := 19) hx hb hts wfX9 hown hK.1 hP 0 rfl rfl 3 (by decide) (hts _ wm813) (fun _ h9 => h9) rfl dX9_goBlocks_110 ?_
                      refine jv_icmp_ne (tgt := 233) hx hb dX9_goBlocks_113 (by decide) (by omega) (by omega) (fun c_30 => ?_) (fun c_30 => ?_)
                      · exact K233 bl 1 (by omega) (by omega) (by omega) H _ _ hP hD hS (lv_sub hl [2, 3, 4, 5, 6, 1, 0] rfl)
                      · exact K116  (by omega) H _ _ hP hD hS (lv_sub hl [2, 3, 4, 5, 6] rfl)
                  · refine lv_aload_n hx hb dX9_goBlocks_88 rfl (lv_at hl 1 rfl) ?_
                    refine va_get (ci := 9) (v := .int (jz bl)) (C := RX9) (T := TX9) (N := 19) hx hb hts wfX9 hown hK.1 hP 0 rfl rfl 3 (by decide) (hts _ wm813) (fun _ h9 => h9) rfl dX9_goBlocks_89 ?_
                    refine lv_goto (tgt := 96) hx hb dX9_goBlocks_92 (by decide) ?_
                    refine lv_istore (lv' := [(6, .int (jz bl)), (5, .int (jz bl)), (0, .ref x), (1, .int (jz z)), (2, .int (jz r)), (3, .int (jz i)), (4, .int (jz j))]) hx hb dX9_goBlocks_96 hl (by decide) rfl (fun ls hl => ?_)
                    refine lv_iload hx hb dX9_goBlocks_98 (lv_at hl 1 rfl) ?_
                    refine lv_aload_n hx hb dX9_goBlocks_100 rfl (lv_at hl 2 rfl) ?_
                    refine va_get (ci := 9) (v := .int (jz bl)) (C := RX9) (T := TX9) (N := 19) hx hb hts wfX9 hown hK.1 hP 0 rfl rfl 3 (by decide) (hts _ wm813) (fun _ h9 => h9) rfl dX9_goBlocks_101 ?_
                    refine jv_icmp_ne (tgt := 233) hx hb dX9_goBlocks_104 (by decide) (by omega) (by omega) (fun c_31 => ?_) (fun c_31 => ?_)
                    · exact K233 bl bl (by omega) (by omega) (by omega) H _ _ hP hD hS (lv_sub hl [2, 3, 4, 5, 6, 1, 0] rfl)
                    · refine lv_iload hx hb dX9_goBlocks_107 (lv_at hl 0 rfl) ?_
                      refine lv_aload_n hx hb dX9_goBlocks_109 rfl (lv_at hl 2 rfl) ?_
                      refine va_get (ci := 9) (v := .int (jz bl)) (C := RX9) (T := TX9) (N := 19) hx hb hts wfX9 hown hK.1 hP 0 rfl rfl 3 (by decide) (hts _ wm813) (fun _ h9 => h9) rfl dX9_goBlocks_110 ?_
                      refine jv_icmp_ne (tgt := 233) hx hb dX9_goBlocks_113 (by decide) (by omega) (by omega) (fun c_32 => ?_) (fun c_32 => ?_)
                      · exact K233 bl bl (by omega) (by omega) (by omega) H _ _ hP hD hS (lv_sub hl [2, 3, 4, 5, 6, 1, 0] rfl)
                      · exact K116  (by omega) H _ _ hP hD hS (lv_sub hl [2, 3, 4, 5, 6] rfl)
          exact K32 (((aS 1 + 2 - 1).toNat) + 1) r 1 vh9 vm9 vs9 aM9 aO9 gq M9 21 (Nat.lt_succ_self _) (by exact hgr) (by omega) (by exact hR9.symm) (by omega) (by omega) (by exact hR) (by exact hP9) H _ _ hP hD hS (lv_sub hl [1, 2, 3, 4, 0] rfl)
    exact K19 (((aS 0 + 2 - 1).toNat) + 1) 0 1 vh vm vs aM aO u_1 M 21 (Nat.lt_succ_self _) (by exact hc1) (by omega) (by rfl) (by omega) (by omega) (by exact hJ) (by intro k q1 q2; have q3 := hO k q1 q2; exact ⟨by omega, fun q => by omega⟩) H _ _ hP hD hS (lv_sub hl [2, 3, 1, 0] rfl)
  exact KH s.heap [] hP hD hS
abbrev rmX9_goBlocks_0 : Room := { frames := 3, cells := 0, slots := 0, locals := 67 }
set_option maxHeartbeats 4000000 in
set_option maxRecDepth 100000 in
theorem mX9_goBlocks_0 (l : Launch) (G : GG) (x : Nat) (xs : Nat) (xb : Nat) (xm : Nat) (xf : Nat) (xu : Nat) (xg : Nat) (xw : Nat) (kn : Int) (bl : Int) (ft : Int) (vh : Int) (vm : Int) (vs : Int) (ln : Int) (th : Int) (sp : Int) (pl : Int) (wr : Int) (br : Int) (aS : Int → Int) (aB : Int → Int) (aM : Int → Int) (aO : Int → Int) (aU : Int → Int) (aG : Int → Int) (aW : Int → Int) (M : Int → Bool) (z : Int) (hs0 : 0 ≤ aS 0 ∧ aS 0 ≤ 20) (hs1 : 0 ≤ aS 1 ∧ aS 1 ≤ 20) (hg0 : ∀ j : Int, 0 ≤ j → j < aS 0 → 0 ≤ T9 aS 0 j ∧ T9 aS 0 j < 4) (hg1 : ∀ j : Int, 0 ≤ j → j < aS 1 → 0 ≤ T9 aS 1 j ∧ T9 aS 1 j < 4) (hbl : bl = 1 ∨ bl = 2) (hft : 0 ≤ ft ∧ ft ≤ 100000) (hJ : rJ bl aM M) (hO : ∀ k : Int, 0 ≤ k → k < 20736 → 0 ≤ aO k ∧ aO k ≤ ft) (hz : z = 0) : Ct l yX9_goBlocks cX9_goBlocks 9 (some .int) rmX9_goBlocks_0 G [.ref x, .int (jz z)] [bMod G x xs xb xm xf xu xg xw kn bl ft vh vm vs ln th sp pl wr br aS aB aM aO aU aG aW] (fun uo : (Int → Int) × (Int → Int) => some (.int (jz ((tGo bl (T9 aS 0) (T9 aS 1) (aS 0) (aS 1) (M, vh, vm, vs)).2.2.1 - vm)))) (fun uo => (∀ k : Int, 0 ≤ k → k < 20736 → 0 ≤ uo.1 k ∧ uo.1 k ≤ ft + 1) ∧ (∀ x y : Int, 0 ≤ x → x ≤ aS 0 → 0 ≤ y → y ≤ aS 1 → uo.2 (21 * x + y) = D 1 (T9 aS 0) (T9 aS 1) x y)) (fun uo => [bMod G x xs xb xm xf xu xg xw kn bl ((ft + 1)) vh vm vs ln th sp pl wr br aS aB aM uo.1 aU uo.2 aW]) := by
  refine cof (by decide) (Nat.le_of_ble_eq_true rfl) ?_
  intro p e s m args below meth c A ls hx hb hr hml hown hts hlocks hin hA hK hP hD hS hl Q hQ
  have hown : s.vm.findClass RX9 = some m.cls := hown
  have hl : lv_has ls 9 [(0, .ref x), (1, .int (jz z))] := hl
  have KH : ∀ (H : Heap) (locs : List Loc), wP G [bMod G x xs xb xm xf xu xg xw kn bl ft vh vm vs ln th sp pl wr br aS aB aM aO aU aG aW] H → wD A [bMod G x xs xb xm xf xu xg xw kn bl ft vh vm vs ln th sp pl wr br aS aB aM aO aU aG aW] → va_S A s.heap H locs → W p l e rmX9_goBlocks_0 s m args below meth c H locs 0 0 Q (F0 m 0 ls []) := by
    intro H locs hP hD hS
    refine lv_aload_n hx hb dX9_goBlocks_0 rfl (lv_at hl 0 rfl) ?_
    refine jv_iconst hx hb dX9_goBlocks_1 ?_
    refine kV ⟨hx, hb, hml, hown, hts⟩ hK hA hS hP hD [.int (jz 0)] [] (mX9_lay l G x xs xb xm xf xu xg xw kn bl ft vh vm vs ln th sp pl wr br aS aB aM aO aU aG aW 0 1 (by omega) (by omega) (by exact hg0) (by exact hg1) (by omega) (by omega)) lkX9_60 [0] [] (br := []) rfl rfl (by decide) 0 9 rfl rfl rfl rfl (Nat.le_of_ble_eq_true rfl) hl.1 dX9_goBlocks_2 ⟨Nat.le_of_ble_eq_true rfl, Nat.le_of_ble_eq_true rfl⟩ ⟨Nat.le_of_ble_eq_true rfl, Nat.le_of_ble_eq_true rfl⟩ (fun u9 H locs hp9 hP hD hS => ?_)
    obtain ⟨u_1, rfl⟩ : ∃ z, z = u9 := ⟨_, rfl⟩
    have hc_2 : ∀ x y : Int, 0 ≤ x → x ≤ aS 0 → 0 ≤ y → y ≤ aS 1 → u_1 (21 * x + y) = D 1 (T9 aS 0) (T9 aS 1) x y := hp9
    have hP : wP G [bMod G x xs xb xm xf xu xg xw kn bl ft vh vm vs ln th sp pl wr br aS aB aM aO aU u_1 aW] H := hP
    have hD : wD A [bMod G x xs xb xm xf xu xg xw kn bl ft vh vm vs ln th sp pl wr br aS aB aM aO aU u_1 aW] := hD
    show W p l e rmX9_goBlocks_0 s m args below meth c H locs 0 0 Q (F0 m 5 ls [])
    have hc1 := hc_2
    refine lv_aload_n hx hb dX9_goBlocks_5 rfl (lv_at hl 0 rfl) ?_
    refine lv_dup hx hb dX9_goBlocks_6 rfl ?_
    refine va_get (ci := 9) (v := .int (jz ft)) (C := RX9) (T := TX9) (N := 19) hx hb hts wfX9 hown hK.1 hP 0 rfl rfl 6 (by decide) (hts _ wm816) (fun _ h9 => h9) rfl dX9_goBlocks_7 ?_
    refine jv_iconst hx hb dX9_goBlocks_10 ?_
    refine jv_iadd hx hb dX9_goBlocks_11 ?_
    refine va_put (ci := 9) (v := .int (jz (ft + 1))) (ty := .int) (C := RX9) (T := TX9) (N := 19) hx hb hts wfX9 tyX9 tyX9_ok nmX9 hown hK.1 hP hD hS 0 rfl rfl 6 (by decide) (hts _ wm816) (fun _ h9 => h9) rfl (by decide +kernel) rfl rfl (Nat.le_of_ble_eq_true rfl) dX9_goBlocks_12 (fun H locs hP hD hS => ?_)
    have hP : wP G [bMod G x xs xb xm xf xu xg xw kn bl (ft + 1) vh vm vs ln th sp pl wr br aS aB aM aO aU u_1 aW] H := hP
    have hD : wD A [bMod G x xs xb xm xf xu xg xw kn bl (ft + 1) vh vm vs ln th sp pl wr br aS aB aM aO aU u_1 aW] := hD
    refine jv_iconst hx hb dX9_goBlocks_15 ?_
    refine lv_istore_n (lv' := [(2, .int (jz 0)), (0, .ref x), (1, .int (jz z))]) hx hb dX9_goBlocks_16 rfl hl (by decide) rfl (fun ls hl => ?_)
    refine jv_iconst hx hb dX9_goBlocks_17 ?_
    refine lv_istore_n (lv' := [(3, .int (jz 1)), (2, .int (jz 0)), (0, .ref x), (1, .int (jz z))]) hx hb dX9_goBlocks_18 rfl hl (by decide) rfl (fun ls hl => ?_)
    have K19 : ∀ (n9 : Nat) (r : Int) (i : Int) (vsx : Int) (vh9 : Int) (vm9 : Int) (vs9 : Int) (aO9 : Int → Int) (gq : Int → Int) (M9 : Int → Bool) (f : Nat) , ((aS 0 + 2 - i).toNat) < n9 → (∀ x y : Int, 0 ≤ x → x ≤ aS 0 → 0 ≤ y → y ≤ aS 1 → gq (21 * x + y) = D 1 (T9 aS 0) (T9 aS 1) x y) → (1 ≤ i ∧ i ≤ aS 0 + 2) → (tAll bl (T9 aS 0) (T9 aS 1) (aS 0) (aS 1) f i (M9, vh9, vm9, vs9) = tGo bl (T9 aS 0) (T9 aS 1) (aS 0) (aS 1) (M, vh, vm, vs)) → ((aS 0 + 1 - i).toNat ≤ f) → (r = vm9 - vm) → (rO bl aM aO9 (ft + 1) M9) → (vsx = vs) → ∀ (H : Heap) (locs : List Loc) (ls : Array Slot), wP G [bMod G x xs xb xm xf xu xg xw kn bl ((ft + 1)) vh vm vsx ln th sp pl wr br aS aB aM aO9 aU gq aW] H → wD A [bMod G x xs xb xm xf xu xg xw kn bl ((ft + 1)) vh vm vsx ln th sp pl wr br aS aB aM aO9 aU gq aW] → va_S A s.heap H locs → lv_has ls 9 [(0, .ref x), (1, .int (jz z)), (2, .int (jz r)), (3, .int (jz i))] → W p l e rmX9_goBlocks_0 s m args below meth c H locs 0 0 Q (F0 m 19 ls []) := by
      intro n9
      induction n9 with
      | zero => intro r i vsx vh9 vm9 vs9 aO9 gq M9 f hm9; exact absurd hm9 (Nat.not_lt_zero _)
      | succ n9 ih19 =>
        intro r i vsx vh9 vm9 vs9 aO9 gq M9 f hm9 hgr hi1 hall hf hr9 hR hvs H locs ls hP hD hS hl
        refine lv_iload_n hx hb dX9_goBlocks_19 rfl (lv_at hl 3 rfl) ?_
        refine lv_aload_n hx hb dX9_goBlocks_20 rfl (lv_at hl 0 rfl) ?_
        refine va_get (ci := 9) (v := .ref xs) (C := RX9) (T := TX9) (N := 19) hx hb hts wfX9 hown hK.1 hP 0 rfl rfl 0 (by decide) (hts _ wm810) (fun _ h9 => h9) rfl dX9_goBlocks_21 ?_
        refine jv_iconst hx hb dX9_goBlocks_24 ?_
        refine jv_iald hx hb hK.1 hP 1 (g := aS) rfl (by omega) (by omega) (by decide) dX9_goBlocks_25 ?_
        refine jv_icmp_gt (tgt := 277) hx hb dX9_goBlocks_26 (by decide) (by omega) (by omega) (fun c_3 => ?_) (fun c_3 => ?_)
        · have e_4 : vsx = vs := by exact hvs
          rw [e_4] at hP hD
          refine lv_iload_n hx hb dX9_goBlocks_277 rfl (lv_at hl 2 rfl) ?_
          exact cret_i hx hb hr hlocks hS hP hD (Nat.le_of_ble_eq_true rfl) (Nat.le_of_ble_eq_true rfl) rfl dX9_goBlocks_278 [0] (by decide) ⟨aO9, gq⟩ rfl ⟨(show ∀ k : Int, 0 ≤ k → k < 20736 → 0 ≤ aO9 k ∧ aO9 k ≤ ft + 1 from by exact fun k q1 q2 => (hR k q1 q2).1), (show ∀ x y : Int, 0 ≤ x → x ≤ aS 0 → 0 ≤ y → y ≤ aS 1 → gq (21 * x + y) = D 1 (T9 aS 0) (T9 aS 1) x y from by exact hgr)⟩ (congrArg (fun z : Int => some (Value.int (jz z))) (show r = (tGo bl (T9 aS 0) (T9 aS 1) (aS 0) (aS 1) (M, vh, vm, vs)).2.2.1 - vm from by rw [← tAll_e hall (by omega)]; exact hr9)) hQ
        · obtain ⟨f2, hAl, hf2⟩ := tAll_s hall (by omega) hf (by omega)
          obtain ⟨R9, hR9⟩ : ∃ q, q = tRow bl (T9 aS 0) (T9 aS 1) (aS 0) (aS 1) i 21 1 (M9, vh9, vm9, vs9) := ⟨_, rfl⟩
          rw [← hR9] at hAl
          refine jv_iconst hx hb dX9_goBlocks_29 ?_
          refine lv_istore (lv' := [(4, .int (jz 1)), (0, .ref x), (1, .int (jz z)), (2, .int (jz r)), (3, .int (jz i))]) hx hb dX9_goBlocks_30 hl (by decide) rfl (fun ls hl => ?_)
          have K32 : ∀ (n9 : Nat) (r : Int) (j : Int) (vsx : Int) (vh9 : Int) (vm9 : Int) (vs9 : Int) (aO9 : Int → Int) (gq : Int → Int) (M9 : Int → Bool) (fr : Nat) , ((aS 1 + 2 - j).toNat) < n9 → (∀ x y : Int, 0 ≤ x → x ≤ aS 0 → 0 ≤ y → y ≤ aS 1 → gq (21 * x + y) = D 1 (T9 aS 0) (T9 aS 1) x y) → (1 ≤ j ∧ j ≤ aS 1 + 2) → (tRow bl (T9 aS 0) (T9 aS 1) (aS 0) (aS 1) i fr j (M9, vh9, vm9, vs9) = R9) → ((aS 1 + 1 - j).toNat ≤ fr) → (r = vm9 - vm) → (rO bl aM aO9 (ft + 1) M9) → (vsx = vs) → ∀ (H : Heap) (locs : List Loc) (ls : Array Slot), wP G [bMod G x xs xb xm xf xu xg xw kn bl ((ft + 1)) vh vm vsx ln th sp pl wr br aS aB aM aO9 aU gq aW] H → wD A [bMod G x xs xb xm xf xu xg xw kn bl ((ft + 1)) vh vm vsx ln th sp pl wr br aS aB aM aO9 aU gq aW] → va_S A s.heap H locs → lv_has ls 9 [(0, .ref x), (1, .int (jz z)), (2, .int (jz r)), (3, .int (jz i)), (4, .int (jz j))] → W p l e rmX9_goBlocks_0 s m args below meth c H locs 0 0 Q (F0 m 32 ls []) := by
            intro n9
            induction n9 with
            | zero => intro r j vsx vh9 vm9 vs9 aO9 gq M9 fr hm9; exact absurd hm9 (Nat.not_lt_zero _)
            | succ n9 ih32 =>
              intro r j vsx vh9 vm9 vs9 aO9 gq M9 fr hm9 hgr hj1 hrow hfr hr9 hR hvs H locs ls hP hD hS hl
              refine lv_iload hx hb dX9_goBlocks_32 (lv_at hl 4 rfl) ?_
              refine lv_aload_n hx hb dX9_goBlocks_34 rfl (lv_at hl 0 rfl) ?_
              refine va_get (ci := 9) (v := .ref xs) (C := RX9) (T := TX9) (N := 19) hx hb hts wfX9 hown hK.1 hP 0 rfl rfl 0 (by decide) (hts _ wm810) (fun _ h9 => h9) rfl dX9_goBlocks_35 ?_
              refine jv_iconst hx hb dX9_goBlocks_38 ?_
              refine jv_iald hx hb hK.1 hP 1 (g := aS) rfl (by omega) (by omega) (by decide) dX9_goBlocks_39 ?_
              refine jv_icmp_gt (tgt := 267) hx hb dX9_goBlocks_40 (by decide) (by omega) (by omega) (fun c_5 => ?_) (fun c_5 => ?_)
              · refine lv_iload_n hx hb dX9_goBlocks_267 rfl (lv_at hl 3 rfl) ?_
                refine lv_aload_n hx hb dX9_goBlocks_268 rfl (lv_at hl 0 rfl) ?_
                refine va_get (ci := 9) (v := .int (jz bl)) (C := RX9) (T := TX9) (N := 19) hx hb hts wfX9 hown hK.1 hP 0 rfl rfl 3 (by decide) (hts _ wm813) (fun _ h9 => h9) rfl dX9_goBlocks_269 ?_
                refine jv_iadd hx hb dX9_goBlocks_272 ?_
                refine lv_istore_n (lv' := [(3, .int (jz (i + bl))), (0, .ref x), (1, .int (jz z)), (2, .int (jz r)), (4, .int (jz j))]) hx hb dX9_goBlocks_273 rfl hl (by decide) rfl (fun ls hl => ?_)
                refine lv_goto (tgt := 19) hx hb dX9_goBlocks_274 (by decide) ?_
                exact ih19 r (i + bl) vsx vh9 vm9 vs9 aO9 gq M9 f2 (by omega) (by exact hgr) (by omega) (by rw [tRow_e hrow (by omega)]; exact hAl) (by exact hf2) (by omega) (by exact hR) (by omega) H _ _ hP hD hS (lv_sub hl [1, 2, 3, 0] rfl)
              · have K116 : (i + bl - 1 ≤ aS 0 ∧ j + bl - 1 ≤ aS 1) → ∀ (H : Heap) (locs : List Loc) (ls : Array Slot), wP G [bMod G x xs xb xm xf xu xg xw kn bl ((ft + 1)) vh vm vsx ln th sp pl wr br aS aB aM aO9 aU gq aW] H → wD A [bMod G x xs xb xm xf xu xg xw kn bl ((ft + 1)) vh vm vsx ln th sp pl wr br aS aB aM aO9 aU gq aW] → va_S A s.heap H locs → lv_has ls 9 [(0, .ref x), (1, .int (jz z)), (2, .int (jz r)), (3, .int (jz i)), (4, .int (jz j))] → W p l e rmX9_goBlocks_0 s m args below meth c H locs 0 0 Q (F0 m 116 ls []) := by
                  intro  hin H locs ls hP hD hS hl
                  refine lv_aload_n hx hb dX9_goBlocks_116 rfl (lv_at hl 0 rfl) ?_
                  refine lv_iload_n hx hb dX9_goBlocks_117 rfl (lv_at hl 3 rfl) ?_
                  refine lv_iload hx hb dX9_goBlocks_118 (lv_at hl 4 rfl) ?_
                  refine kV ⟨hx, hb, hml, hown, hts⟩ hK hA hS hP hD [.int (jz i), .int (jz j)] [] (mX9_keyOf l G x xs xb xm xf xu xg xw kn bl ((ft + 1)) vh vm vsx ln th sp pl wr br aS aB aM aO9 aU gq aW i j (by omega) (by omega) (by omega) (by omega) (by omega) (by exact hgr)) lkX9_70 [0] [] (br := []) rfl rfl (by decide) 0 9 rfl rfl rfl rfl (Nat.le_of_ble_eq_true rfl) hl.1 dX9_goBlocks_120 ⟨Nat.le_of_ble_eq_true rfl, Nat.le_of_ble_eq_true rfl⟩ ⟨Nat.le_of_ble_eq_true rfl, Nat.le_of_ble_eq_true rfl⟩ (fun u9 H locs hp9 hP hD hS => ?_)
                  have hP : wP G [bMod G x xs xb xm xf xu xg xw kn bl ((ft + 1)) vh vm vsx ln th sp pl wr br aS aB aM aO9 aU gq aW] H := hP
                  have hD : wD A [bMod G x xs xb xm xf xu xg xw kn bl ((ft + 1)) vh vm vsx ln th sp pl wr br aS aB aM aO9 aU gq aW] := hD
                  show W p l e rmX9_goBlocks_0 s m args below meth c H locs 0 0 Q (F0 m 123 ls [.int (jz (keyM bl (T9 aS 0) (T9 aS 1) i j))])
                  refine jv_top (fun r_7 er_7 => ?_)
                  have hkb := keyM_bd (g := T9 aS 0) (g2 := T9 aS 1) hbl hg0 hg1 (i := i) (j := j) (by omega) (by omega)
                  rw [← er_7] at hkb
                  obtain ⟨hkr, hkc⟩ := hkb
                  obtain ⟨fr2, hrow2, hfr2⟩ := tRow_s hrow (by omega) hfr (by omega)
                  rw [tBlk, if_pos hin, tKey, ← hkc] at hrow2
                  obtain ⟨ho1, hj2⟩ := hR r_7 hkr.1 hkr.2
                  have hj1 := (hJ r_7 hkr.1 hkr.2).1
                  refine lv_istore (lv' := [(7, .int (jz r_7)), (0, .ref x), (1, .int (jz z)), (2, .int (jz r)), (3, .int (jz i)), (4, .int (jz j))]) hx hb dX9_goBlocks_123 hl (by decide) rfl (fun ls hl => ?_)
                  refine lv_aload_n hx hb dX9_goBlocks_125 rfl (lv_at hl 1 rfl) ?_
                  refine va_get (ci := 9) (v := .ref xm) (C := RX9) (T := TX9) (N := 19) hx hb hts wfX9 hown hK.1 hP 0 rfl rfl 4 (by decide) (hts _ wm814) (fun _ h9 => h9) rfl dX9_goBlocks_126 ?_
                  refine lv_iload hx hb dX9_goBlocks_129 (lv_at hl 0 rfl) ?_
                  refine jv_zald hx hb hK.1 hP 3 (g := aM) rfl (by omega) (by omega) (by decide) dX9_goBlocks_131 ?_
                  refine jv_if_ne (tgt := 149) hx hb dX9_goBlocks_132 (by decide) (by omega) (fun c_8 => ?_) (fun c_8 => ?_)
                  · have hm9 : M9 (cv bl r_7) = true := hj2.mp (by omega)
                    have hR2 := rO_same hR hkr (by omega) hm9
                    refine jv_iconst hx hb dX9_goBlocks_149 ?_
                    refine lv_goto (tgt := 154) hx hb dX9_goBlocks_150 (by decide) ?_
                    refine lv_istore (lv' := [(8, .int (jz 1)), (7, .int (jz r_7)), (0, .ref x), (1, .int (jz z)), (2, .int (jz r)), (3, .int (jz i)), (4, .int (jz j))]) hx hb dX9_goBlocks_154 hl (by decide) rfl (fun ls hl => ?_)
                    refine lv_aload_n hx hb dX9_goBlocks_156 rfl (lv_at hl 2 rfl) ?_
                    refine va_get (ci := 9) (v := .ref xf) (C := RX9) (T := TX9) (N := 19) hx hb hts wfX9 hown hK.1 hP 0 rfl rfl 5 (by decide) (hts _ wm815) (fun _ h9 => h9) rfl dX9_goBlocks_157 ?_
                    refine lv_iload hx hb dX9_goBlocks_160 (lv_at hl 1 rfl) ?_
                    refine lv_aload_n hx hb dX9_goBlocks_162 rfl (lv_at hl 2 rfl) ?_
                    refine va_get (ci := 9) (v := .int (jz ((ft + 1)))) (C := RX9) (T := TX9) (N := 19) hx hb hts wfX9 hown hK.1 hP 0 rfl rfl 6 (by decide) (hts _ wm816) (fun _ h9 => h9) rfl dX9_goBlocks_163 ?_
                    refine jv_iast hx hb hK.1 hP hD hS 4 (g := aO9) rfl (by omega) (by omega) (by decide) dX9_goBlocks_166 (fun H locs hP hD hS => ?_)
                    have hP : wP G [bMod G x xs xb xm xf xu xg xw kn bl ((ft + 1)) vh vm vsx ln th sp pl wr br aS aB aM (up aO9 r_7 ((ft + 1))) aU gq aW] H := hP
                    have hD : wD A [bMod G x xs xb xm xf xu xg xw kn bl ((ft + 1)) vh vm vsx ln th sp pl wr br aS aB aM (up aO9 r_7 ((ft + 1))) aU gq aW] := hD
                    refine lv_iload_n hx hb dX9_goBlocks_167 rfl (lv_at hl 4 rfl) ?_
                    refine lv_iload hx hb dX9_goBlocks_168 (lv_at hl 0 rfl) ?_
                    refine jv_if_eq (tgt := 177) hx hb dX9_goBlocks_170 (by decide) (by omega) (fun c_9 => ?_) (fun c_9 => ?_)
                    · exfalso; omega
                    · refine jv_iconst hx hb dX9_goBlocks_173 ?_
                      refine lv_goto (tgt := 178) hx hb dX9_goBlocks_174 (by decide) ?_
                      refine jv_iadd hx hb dX9_goBlocks_178 ?_
                      refine lv_istore_n (lv' := [(2, .int (jz (r + 0))), (8, .int (jz 1)), (7, .int (jz r_7)), (0, .ref x), (1, .int (jz z)), (3, .int (jz i)), (4, .int (jz j))]) hx hb dX9_goBlocks_179 rfl hl (by decide) rfl (fun ls hl => ?_)
                      refine lv_iload_n hx hb dX9_goBlocks_180 rfl (lv_at hl 4 rfl) ?_
                      refine jv_if_eq (tgt := 230) hx hb dX9_goBlocks_181 (by decide) (by omega) (fun c_10 => ?_) (fun c_10 => ?_)
                      · refine lv_goto (tgt := 255) hx hb dX9_goBlocks_230 (by decide) ?_
                        refine lv_iload hx hb dX9_goBlocks_255 (lv_at hl 6 rfl) ?_
                        refine lv_aload_n hx hb dX9_goBlocks_257 rfl (lv_at hl 3 rfl) ?_
                        refine va_get (ci := 9) (v := .int (jz bl)) (C := RX9) (T := TX9) (N := 19) hx hb hts wfX9 hown hK.1 hP 0 rfl rfl 3 (by decide) (hts _ wm813) (fun _ h9 => h9) rfl dX9_goBlocks_258 ?_
                        refine jv_iadd hx hb dX9_goBlocks_261 ?_
                        refine lv_istore (lv' := [(4, .int (jz (j + bl))), (2, .int (jz (r + 0))), (8, .int (jz 1)), (7, .int (jz r_7)), (0, .ref x), (1, .int (jz z)), (3, .int (jz i))]) hx hb dX9_goBlocks_262 hl (by decide) rfl (fun ls hl => ?_)
                        refine lv_goto (tgt := 32) hx hb dX9_goBlocks_264 (by decide) ?_
                        exact ih32 (r + 0) (j + bl) vsx (vh9 + 1) vm9 vs9 (up aO9 r_7 ((ft + 1))) gq M9 fr2 (by omega) (by exact hgr) (by omega) (by have q9 := hrow2; (try simp only [Int.add_zero]); rw [if_pos hm9] at q9; exact q9) (by exact hfr2) (by omega) (by exact hR2) (by omega) H _ _ hP hD hS (lv_sub hl [4, 5, 1, 6, 0] rfl)
                      · exfalso; omega
                  · refine lv_aload_n hx hb dX9_goBlocks_135 rfl (lv_at hl 1 rfl) ?_
                    refine va_get (ci := 9) (v := .ref xf) (C := RX9) (T := TX9) (N := 19) hx hb hts wfX9 hown hK.1 hP 0 rfl rfl 5 (by decide) (hts _ wm815) (fun _ h9 => h9) rfl dX9_goBlocks_136 ?_
                    refine lv_iload hx hb dX9_goBlocks_139 (lv_at hl 0 rfl) ?_
                    refine jv_iald hx hb hK.1 hP 4 (g := aO9) rfl (by omega) (by omega) (by decide) dX9_goBlocks_141 ?_
                    refine lv_aload_n hx hb dX9_goBlocks_142 rfl (lv_at hl 1 rfl) ?_
                    refine va_get (ci := 9) (v := .int (jz ((ft + 1)))) (C := RX9) (T := TX9) (N := 19) hx hb hts wfX9 hown hK.1 hP 0 rfl rfl 6 (by decide) (hts _ wm816) (fun _ h9 => h9) rfl dX9_goBlocks_143 ?_
                    refine jv_icmp_ne (tgt := 153) hx hb dX9_goBlocks_146 (by decide) (by omega) (by omega) (fun c_11 => ?_) (fun c_11 => ?_)
                    · have hm9 : ¬ M9 (cv bl r_7) = true := fun q => by have q2 := hj2.mpr q; omega
                      have hR2 := rO_up hR hkr (by omega)
                      refine jv_iconst hx hb dX9_goBlocks_153 ?_
                      refine lv_istore (lv' := [(8, .int (jz 0)), (7, .int (jz r_7)), (0, .ref x), (1, .int (jz z)), (2, .int (jz r)), (3, .int (jz i)), (4, .int (jz j))]) hx hb dX9_goBlocks_154 hl (by decide) rfl (fun ls hl => ?_)
                      refine lv_aload_n hx hb dX9_goBlocks_156 rfl (lv_at hl 2 rfl) ?_
                      refine va_get (ci := 9) (v := .ref xf) (C := RX9) (T := TX9) (N := 19) hx hb hts wfX9 hown hK.1 hP 0 rfl rfl 5 (by decide) (hts _ wm815) (fun _ h9 => h9) rfl dX9_goBlocks_157 ?_
                      refine lv_iload hx hb dX9_goBlocks_160 (lv_at hl 1 rfl) ?_
                      refine lv_aload_n hx hb dX9_goBlocks_162 rfl (lv_at hl 2 rfl) ?_
                      refine va_get (ci := 9) (v := .int (jz ((ft + 1)))) (C := RX9) (T := TX9) (N := 19) hx hb hts wfX9 hown hK.1 hP 0 rfl rfl 6 (by decide) (hts _ wm816) (fun _ h9 => h9) rfl dX9_goBlocks_163 ?_
                      refine jv_iast hx hb hK.1 hP hD hS 4 (g := aO9) rfl (by omega) (by omega) (by decide) dX9_goBlocks_166 (fun H locs hP hD hS => ?_)
                      have hP : wP G [bMod G x xs xb xm xf xu xg xw kn bl ((ft + 1)) vh vm vsx ln th sp pl wr br aS aB aM (up aO9 r_7 ((ft + 1))) aU gq aW] H := hP
                      have hD : wD A [bMod G x xs xb xm xf xu xg xw kn bl ((ft + 1)) vh vm vsx ln th sp pl wr br aS aB aM (up aO9 r_7 ((ft + 1))) aU gq aW] := hD
                      refine lv_iload_n hx hb dX9_goBlocks_167 rfl (lv_at hl 4 rfl) ?_
                      refine lv_iload hx hb dX9_goBlocks_168 (lv_at hl 0 rfl) ?_
                      refine jv_if_eq (tgt := 177) hx hb dX9_goBlocks_170 (by decide) (by omega) (fun c_12 => ?_) (fun c_12 => ?_)
                      · refine jv_iconst hx hb dX9_goBlocks_177 ?_
                        refine jv_iadd hx hb dX9_goBlocks_178 ?_
                        refine lv_istore_n (lv' := [(2, .int (jz (r + 1))), (8, .int (jz 0)), (7, .int (jz r_7)), (0, .ref x), (1, .int (jz z)), (3, .int (jz i)), (4, .int (jz j))]) hx hb dX9_goBlocks_179 rfl hl (by decide) rfl (fun ls hl => ?_)
                        refine lv_iload_n hx hb dX9_goBlocks_180 rfl (lv_at hl 4 rfl) ?_
                        refine jv_if_eq (tgt := 230) hx hb dX9_goBlocks_181 (by decide) (by omega) (fun c_13 => ?_) (fun c_13 => ?_)
                        · refine lv_goto (tgt := 255) hx hb dX9_goBlocks_230 (by decide) ?_
                          refine lv_iload hx hb dX9_goBlocks_255 (lv_at hl 6 rfl) ?_
                          refine lv_aload_n hx hb dX9_goBlocks_257 rfl (lv_at hl 3 rfl) ?_
                          refine va_get (ci := 9) (v := .int (jz bl)) (C := RX9) (T := TX9) (N := 19) hx hb hts wfX9 hown hK.1 hP 0 rfl rfl 3 (by decide) (hts _ wm813) (fun _ h9 => h9) rfl dX9_goBlocks_258 ?_
                          refine jv_iadd hx hb dX9_goBlocks_261 ?_
                          refine lv_istore (lv' := [(4, .int (jz (j + bl))), (2, .int (jz (r + 1))), (8, .int (jz 0)), (7, .int (jz r_7)), (0, .ref x), (1, .int (jz z)), (3, .int (jz i))]) hx hb dX9_goBlocks_262 hl (by decide) rfl (fun ls hl => ?_)
                          refine lv_goto (tgt := 32) hx hb dX9_goBlocks_264 (by decide) ?_
                          exact ih32 (r + 1) (j + bl) vsx vh9 (vm9 + 1) vs9 (up aO9 r_7 ((ft + 1))) gq ((upB M9 (cv bl r_7))) fr2 (by omega) (by exact hgr) (by omega) (by have q9 := hrow2; (try simp only [Int.add_zero]); rw [if_neg hm9] at q9; exact q9) (by exact hfr2) (by omega) (by exact hR2) (by omega) H _ _ hP hD hS (lv_sub hl [4, 5, 1, 6, 0] rfl)
                        · exfalso; omega
                      · exfalso; omega
                    · have hm9 : M9 (cv bl r_7) = true := hj2.mp (by omega)
                      have hR2 := rO_same hR hkr (by omega) hm9
                      refine jv_iconst hx hb dX9_goBlocks_149 ?_
                      refine lv_goto (tgt := 154) hx hb dX9_goBlocks_150 (by decide) ?_
                      refine lv_istore (lv' := [(8, .int (jz 1)), (7, .int (jz r_7)), (0, .ref x), (1, .int (jz z)), (2, .int (jz r)), (3, .int (jz i)), (4, .int (jz j))]) hx hb dX9_goBlocks_154 hl (by decide) rfl (fun ls hl => ?_)
                      refine lv_aload_n hx hb dX9_goBlocks_156 rfl (lv_at hl 2 rfl) ?_
                      refine va_get (ci := 9) (v := .ref xf) (C := RX9) (T := TX9) (N := 19) hx hb hts wfX9 hown hK.1 hP 0 rfl rfl 5 (by decide) (hts _ wm815) (fun _ h9 => h9) rfl dX9_goBlocks_157 ?_
                      refine lv_iload hx hb dX9_goBlocks_160 (lv_at hl 1 rfl) ?_
                      refine lv_aload_n hx hb dX9_goBlocks_162 rfl (lv_at hl 2 rfl) ?_
                      refine va_get (ci := 9) (v := .int (jz ((ft + 1)))) (C := RX9) (T := TX9) (N := 19) hx hb hts wfX9 hown hK.1 hP 0 rfl rfl 6 (by decide) (hts _ wm816) (fun _ h9 => h9) rfl dX9_goBlocks_163 ?_
                      refine jv_iast hx hb hK.1 hP hD hS 4 (g := aO9) rfl (by omega) (by omega) (by decide) dX9_goBlocks_166 (fun H locs hP hD hS => ?_)
                      have hP : wP G [bMod G x xs xb xm xf xu xg xw kn bl ((ft + 1)) vh vm vsx ln th sp pl wr br aS aB aM (up aO9 r_7 ((ft + 1))) aU gq aW] H := hP
                      have hD : wD A [bMod G x xs xb xm xf xu xg xw kn bl ((ft + 1)) vh vm vsx ln th sp pl wr br aS aB aM (up aO9 r_7 ((ft + 1))) aU gq aW] := hD
                      refine lv_iload_n hx hb dX9_goBlocks_167 rfl (lv_at hl 4 rfl) ?_
                      refine lv_iload hx hb dX9_goBlocks_168 (lv_at hl 0 rfl) ?_
                      refine jv_if_eq (tgt := 177) hx hb dX9_goBlocks_170 (by decide) (by omega) (fun c_14 => ?_) (fun c_14 => ?_)
                      · exfalso; omega
                      · refine jv_iconst hx hb dX9_goBlocks_173 ?_
                        refine lv_goto (tgt := 178) hx hb dX9_goBlocks_174 (by decide) ?_
                        refine jv_iadd hx hb dX9_goBlocks_178 ?_
                        refine lv_istore_n (lv' := [(2, .int (jz (r + 0))), (8, .int (jz 1)), (7, .int (jz r_7)), (0, .ref x), (1, .int (jz z)), (3, .int (jz i)), (4, .int (jz j))]) hx hb dX9_goBlocks_179 rfl hl (by decide) rfl (fun ls hl => ?_)
                        refine lv_iload_n hx hb dX9_goBlocks_180 rfl (lv_at hl 4 rfl) ?_
                        refine jv_if_eq (tgt := 230) hx hb dX9_goBlocks_181 (by decide) (by omega) (fun c_15 => ?_) (fun c_15 => ?_)
                        · refine lv_goto (tgt := 255) hx hb dX9_goBlocks_230 (by decide) ?_
                          refine lv_iload hx hb dX9_goBlocks_255 (lv_at hl 6 rfl) ?_
                          refine lv_aload_n hx hb dX9_goBlocks_257 rfl (lv_at hl 3 rfl) ?_
                          refine va_get (ci := 9) (v := .int (jz bl)) (C := RX9) (T := TX9) (N := 19) hx hb hts wfX9 hown hK.1 hP 0 rfl rfl 3 (by decide) (hts _ wm813) (fun _ h9 => h9) rfl dX9_goBlocks_258 ?_
                          refine jv_iadd hx hb dX9_goBlocks_261 ?_
                          refine lv_istore (lv' := [(4, .int (jz (j + bl))), (2, .int (jz (r + 0))), (8, .int (jz 1)), (7, .int (jz r_7)), (0, .ref x), (1, .int (jz z)), (3, .int (jz i))]) hx hb dX9_goBlocks_262 hl (by decide) rfl (fun ls hl => ?_)
                          refine lv_goto (tgt := 32) hx hb dX9_goBlocks_264 (by decide) ?_
                          exact ih32 (r + 0) (j + bl) vsx (vh9 + 1) vm9 vs9 (up aO9 r_7 ((ft + 1))) gq M9 fr2 (by omega) (by exact hgr) (by omega) (by have q9 := hrow2; (try simp only [Int.add_zero]); rw [if_pos hm9] at q9; exact q9) (by exact hfr2) (by omega) (by exact hR2) (by omega) H _ _ hP hD hS (lv_sub hl [4, 5, 1, 6, 0] rfl)
                        · exfalso; omega
                have K233 : ∀ (ta : Int) (wi : Int) , (¬ (i + bl - 1 ≤ aS 0 ∧ j + bl - 1 ≤ aS 1)) → (ta = min bl (aS 0 - i + 1)) → (wi = min bl (aS 1 - j + 1)) → ∀ (H : Heap) (locs : List Loc) (ls : Array Slot), wP G [bMod G x xs xb xm xf xu xg xw kn bl ((ft + 1)) vh vm vsx ln th sp pl wr br aS aB aM aO9 aU gq aW] H → wD A [bMod G x xs xb xm xf xu xg xw kn bl ((ft + 1)) vh vm vsx ln th sp pl wr br aS aB aM aO9 aU gq aW] → va_S A s.heap H locs → lv_has ls 9 [(0, .ref x), (1, .int (jz z)), (2, .int (jz r)), (3, .int (jz i)), (4, .int (jz j)), (5, .int (jz ta)), (6, .int (jz wi))] → W p l e rmX9_goBlocks_0 s m args below meth c H locs 0 0 Q (F0 m 233 ls []) := by
                  intro ta wi hnin hta hwi H locs ls hP hD hS hl
                  obtain ⟨fr2, hrow2, hfr2⟩ := tRow_s hrow (by omega) hfr (by omega)
                  rw [tBlk, if_neg hnin, tOne, ← hta, ← hwi] at hrow2
                  have hR2 := hR
                  refine lv_aload_n hx hb dX9_goBlocks_233 rfl (lv_at hl 0 rfl) ?_
                  refine lv_dup hx hb dX9_goBlocks_234 rfl ?_
                  refine va_get (ci := 9) (v := .int (jz vsx)) (C := RX9) (T := TX9) (N := 19) hx hb hts wfX9 hown hK.1 hP 0 rfl rfl 9 (by decide) (hts _ wm819) (fun _ h9 => h9) rfl dX9_goBlocks_235 ?_
                  refine lv_iload_n hx hb dX9_goBlocks_238 rfl (lv_at hl 1 rfl) ?_
                  refine jv_if_eq (tgt := 250) hx hb dX9_goBlocks_239 (by decide) (by omega) (fun c_16 => ?_) (fun c_16 => ?_)
                  · refine jv_iconst hx hb dX9_goBlocks_250 ?_
                    refine jv_iadd hx hb dX9_goBlocks_251 ?_
                    refine va_put (ci := 9) (v := .int (jz (vsx + 0))) (ty := .int) (C := RX9) (T := TX9) (N := 19) hx hb hts wfX9 tyX9 tyX9_ok nmX9 hown hK.1 hP hD hS 0 rfl rfl 9 (by decide) (hts _ wm819) (fun _ h9 => h9) rfl (by decide +kernel) rfl rfl (Nat.le_of_ble_eq_true rfl) dX9_goBlocks_252 (fun H locs hP hD hS => ?_)
                    have hP : wP G [bMod G x xs xb xm xf xu xg xw kn bl ((ft + 1)) vh vm (vsx + 0) ln th sp pl wr br aS aB aM aO9 aU gq aW] H := hP
                    have hD : wD A [bMod G x xs xb xm xf xu xg xw kn bl ((ft + 1)) vh vm (vsx + 0) ln th sp pl wr br aS aB aM aO9 aU gq aW] := hD
                    refine lv_iload hx hb dX9_goBlocks_255 (lv_at hl 4 rfl) ?_
                    refine lv_aload_n hx hb dX9_goBlocks_257 rfl (lv_at hl 0 rfl) ?_
                    refine va_get (ci := 9) (v := .int (jz bl)) (C := RX9) (T := TX9) (N := 19) hx hb hts wfX9 hown hK.1 hP 0 rfl rfl 3 (by decide) (hts _ wm813) (fun _ h9 => h9) rfl dX9_goBlocks_258 ?_
                    refine jv_iadd hx hb dX9_goBlocks_261 ?_
                    refine lv_istore (lv' := [(4, .int (jz (j + bl))), (0, .ref x), (1, .int (jz z)), (2, .int (jz r)), (3, .int (jz i)), (5, .int (jz ta)), (6, .int (jz wi))]) hx hb dX9_goBlocks_262 hl (by decide) rfl (fun ls hl => ?_)
                    refine lv_goto (tgt := 32) hx hb dX9_goBlocks_264 (by decide) ?_
                    exact ih32 r (j + bl) (vsx + 0) vh9 vm9 (vs9 + ta * wi) aO9 gq M9 fr2 (by omega) (by exact hgr) (by omega) (by have q9 := hrow2; exact q9) (by exact hfr2) (by omega) (by exact hR2) (by omega) H _ _ hP hD hS (lv_sub hl [1, 2, 3, 4, 0] rfl)
                  · exfalso; omega
                refine lv_iload_n hx hb dX9_goBlocks_43 rfl (lv_at hl 3 rfl) ?_
                refine lv_aload_n hx hb dX9_goBlocks_44 rfl (lv_at hl 0 rfl) ?_
                refine va_get (ci := 9) (v := .int (jz bl)) (C := RX9) (T := TX9) (N := 19) hx hb hts wfX9 hown hK.1 hP 0 rfl rfl 3 (by decide) (hts _ wm813) (fun _ h9 => h9) rfl dX9_goBlocks_45 ?_
                refine jv_iadd hx hb dX9_goBlocks_48 ?_
                refine jv_iconst hx hb dX9_goBlocks_49 ?_
                refine jv_isub hx hb dX9_goBlocks_50 ?_
                refine lv_aload_n hx hb dX9_goBlocks_51 rfl (lv_at hl 0 rfl) ?_
                refine va_get (ci := 9) (v := .ref xs) (C := RX9) (T := TX9) (N := 19) hx hb hts wfX9 hown hK.1 hP 0 rfl rfl 0 (by decide) (hts _ wm810) (fun _ h9 => h9) rfl dX9_goBlocks_52 ?_
                refine jv_iconst hx hb dX9_goBlocks_55 ?_
                refine jv_iald hx hb hK.1 hP 1 (g := aS) rfl (by omega) (by omega) (by decide) dX9_goBlocks_56 ?_
                refine jv_icmp_gt (tgt := 67) hx hb dX9_goBlocks_57 (by decide) (by omega) (by omega) (fun c_17 => ?_) (fun c_17 => ?_)
                · refine jv_iconst hx hb dX9_goBlocks_67 ?_
                  refine lv_istore (lv' := [(5, .int (jz 1)), (0, .ref x), (1, .int (jz z)), (2, .int (jz r)), (3, .int (jz i)), (4, .int (jz j))]) hx hb dX9_goBlocks_68 hl (by decide) rfl (fun ls hl => ?_)
                  refine lv_iload hx hb dX9_goBlocks_70 (lv_at hl 5 rfl) ?_
                  refine lv_aload_n hx hb dX9_goBlocks_72 rfl (lv_at hl 1 rfl) ?_
                  refine va_get (ci := 9) (v := .int (jz bl)) (C := RX9) (T := TX9) (N := 19) hx hb hts wfX9 hown hK.1 hP 0 rfl rfl 3 (by decide) (hts _ wm813) (fun _ h9 => h9) rfl dX9_goBlocks_73 ?_
                  refine jv_iadd hx hb dX9_goBlocks_76 ?_
                  refine jv_iconst hx hb dX9_goBlocks_77 ?_
                  refine jv_isub hx hb dX9_goBlocks_78 ?_
                  refine lv_aload_n hx hb dX9_goBlocks_79 rfl (lv_at hl 1 rfl) ?_
                  refine va_get (ci := 9) (v := .ref xs) (C := RX9) (T := TX9) (N := 19) hx hb hts wfX9 hown hK.1 hP 0 rfl rfl 0 (by decide) (hts _ wm810) (fun _ h9 => h9) rfl dX9_goBlocks_80 ?_
                  refine jv_iconst hx hb dX9_goBlocks_83 ?_
                  refine jv_iald hx hb hK.1 hP 1 (g := aS) rfl (by omega) (by omega) (by decide) dX9_goBlocks_84 ?_
                  refine jv_icmp_gt (tgt := 95) hx hb dX9_goBlocks_85 (by decide) (by omega) (by omega) (fun c_18 => ?_) (fun c_18 => ?_)
                  · refine jv_iconst hx hb dX9_goBlocks_95 ?_
                    refine lv_istore (lv' := [(6, .int (jz 1)), (5, .int (jz 1)), (0, .ref x), (1, .int (jz z)), (2, .int (jz r)), (3, .int (jz i)), (4, .int (jz j))]) hx hb dX9_goBlocks_96 hl (by decide) rfl (fun ls hl => ?_)
                    refine lv_iload hx hb dX9_goBlocks_98 (lv_at hl 1 rfl) ?_
                    refine lv_aload_n hx hb dX9_goBlocks_100 rfl (lv_at hl 2 rfl) ?_
                    refine va_get (ci := 9) (v := .int (jz bl)) (C := RX9) (T := TX9) (N := 19) hx hb hts wfX9 hown hK.1 hP 0 rfl rfl 3 (by decide) (hts _ wm813) (fun _ h9 => h9) rfl dX9_goBlocks_101 ?_
                    refine jv_icmp_ne (tgt := 233) hx hb dX9_goBlocks_104 (by decide) (by omega) (by omega) (fun c_19 => ?_) (fun c_19 => ?_)
                    · exact K233 1 1 (by omega) (by omega) (by omega) H _ _ hP hD hS (lv_sub hl [2, 3, 4, 5, 6, 1, 0] rfl)
                    · refine lv_iload hx hb dX9_goBlocks_107 (lv_at hl 0 rfl) ?_
                      refine lv_aload_n hx hb dX9_goBlocks_109 rfl (lv_at hl 2 rfl) ?_
                      refine va_get (ci := 9) (v := .int (jz bl)) (C := RX9) (T := TX9) (N := 19) hx hb hts wfX9 hown hK.1 hP 0 rfl rfl 3 (by decide) (hts _ wm813) (fun _ h9 => h9) rfl dX9_goBlocks_110 ?_
                      refine jv_icmp_ne (tgt := 233) hx hb dX9_goBlocks_113 (by decide) (by omega) (by omega) (fun c_20 => ?_) (fun c_20 => ?_)
                      · exact K233 1 1 (by omega) (by omega) (by omega) H _ _ hP hD hS (lv_sub hl [2, 3, 4, 5, 6, 1, 0] rfl)
                      · exact K116  (by omega) H _ _ hP hD hS (lv_sub hl [2, 3, 4, 5, 6] rfl)
                  · refine lv_aload_n hx hb dX9_goBlocks_88 rfl (lv_at hl 1 rfl) ?_
                    refine va_get (ci := 9) (v := .int (jz bl)) (C := RX9) (T := TX9) (N := 19) hx hb hts wfX9 hown hK.1 hP 0 rfl rfl 3 (by decide) (hts _ wm813) (fun _ h9 => h9) rfl dX9_goBlocks_89 ?_
                    refine lv_goto (tgt := 96) hx hb dX9_goBlocks_92 (by decide) ?_
                    refine lv_istore (lv' := [(6, .int (jz bl)), (5, .int (jz 1)), (0, .ref x), (1, .int (jz z)), (2, .int (jz r)), (3, .int (jz i)), (4, .int (jz j))]) hx hb dX9_goBlocks_96 hl (by decide) rfl (fun ls hl => ?_)
                    refine lv_iload hx hb dX9_goBlocks_98 (lv_at hl 1 rfl) ?_
                    refine lv_aload_n hx hb dX9_goBlocks_100 rfl (lv_at hl 2 rfl) ?_
                    refine va_get (ci := 9) (v := .int (jz bl)) (C := RX9) (T := TX9) (N := 19) hx hb hts wfX9 hown hK.1 hP 0 rfl rfl 3 (by decide) (hts _ wm813) (fun _ h9 => h9) rfl dX9_goBlocks_101 ?_
                    refine jv_icmp_ne (tgt := 233) hx hb dX9_goBlocks_104 (by decide) (by omega) (by omega) (fun c_21 => ?_) (fun c_21 => ?_)
                    · exact K233 1 bl (by omega) (by omega) (by omega) H _ _ hP hD hS (lv_sub hl [2, 3, 4, 5, 6, 1, 0] rfl)
                    · refine lv_iload hx hb dX9_goBlocks_107 (lv_at hl 0 rfl) ?_
                      refine lv_aload_n hx hb dX9_goBlocks_109 rfl (lv_at hl 2 rfl) ?_
                      refine va_get (ci := 9) (v := .int (jz bl)) (C := RX9) (T := TX9) (N := 19) hx hb hts wfX9 hown hK.1 hP 0 rfl rfl 3 (by decide) (hts _ wm813) (fun _ h9 => h9) rfl dX9_goBlocks_110 ?_
                      refine jv_icmp_ne (tgt := 233) hx hb dX9_goBlocks_113 (by decide) (by omega) (by omega) (fun c_22 => ?_) (fun c_22 => ?_)
                      · exact K233 1 bl (by omega) (by omega) (by omega) H _ _ hP hD hS (lv_sub hl [2, 3, 4, 5, 6, 1, 0] rfl)
                      · exact K116  (by omega) H _ _ hP hD hS (lv_sub hl [2, 3, 4, 5, 6] rfl)
                · refine lv_aload_n hx hb dX9_goBlocks_60 rfl (lv_at hl 0 rfl) ?_
                  refine va_get (ci := 9) (v := .int (jz bl)) (C := RX9) (T := TX9) (N := 19) hx hb hts wfX9 hown hK.1 hP 0 rfl rfl 3 (by decide) (hts _ wm813) (fun _ h9 => h9) rfl dX9_goBlocks_61 ?_
                  refine lv_goto (tgt := 68) hx hb dX9_goBlocks_64 (by decide) ?_
                  refine lv_istore (lv' := [(5, .int (jz bl)), (0, .ref x), (1, .int (jz z)), (2, .int (jz r)), (3, .int (jz i)), (4, .int (jz j))]) hx hb dX9_goBlocks_68 hl (by decide) rfl (fun ls hl => ?_)
                  refine lv_iload hx hb dX9_goBlocks_70 (lv_at hl 5 rfl) ?_
                  refine lv_aload_n hx hb dX9_goBlocks_72 rfl (lv_at hl 1 rfl) ?_
                  refine va_get (ci := 9) (v := .int (jz bl)) (C := RX9) (T := TX9) (N := 19) hx hb hts wfX9 hown hK.1 hP 0 rfl rfl 3 (by decide) (hts _ wm813) (fun _ h9 => h9) rfl dX9_goBlocks_73 ?_
                  refine jv_iadd hx hb dX9_goBlocks_76 ?_
                  refine jv_iconst hx hb dX9_goBlocks_77 ?_
                  refine jv_isub hx hb dX9_goBlocks_78 ?_
                  refine lv_aload_n hx hb dX9_goBlocks_79 rfl (lv_at hl 1 rfl) ?_
                  refine va_get (ci := 9) (v := .ref xs) (C := RX9) (T := TX9) (N := 19) hx hb hts wfX9 hown hK.1 hP 0 rfl rfl 0 (by decide) (hts _ wm810) (fun _ h9 => h9) rfl dX9_goBlocks_80 ?_
                  refine jv_iconst hx hb dX9_goBlocks_83 ?_
                  refine jv_iald hx hb hK.1 hP 1 (g := aS) rfl (by omega) (by omega) (by decide) dX9_goBlocks_84 ?_
                  refine jv_icmp_gt (tgt := 95) hx hb dX9_goBlocks_85 (by decide) (by omega) (by omega) (fun c_23 => ?_) (fun c_23 => ?_)
                  · refine jv_iconst hx hb dX9_goBlocks_95 ?_
                    refine lv_istore (lv' := [(6, .int (jz 1)), (5, .int (jz bl)), (0, .ref x), (1, .int (jz z)), (2, .int (jz r)), (3, .int (jz i)), (4, .int (jz j))]) hx hb dX9_goBlocks_96 hl (by decide) rfl (fun ls hl => ?_)
                    refine lv_iload hx hb dX9_goBlocks_98 (lv_at hl 1 rfl) ?_
                    refine lv_aload_n hx hb dX9_goBlocks_100 rfl (lv_at hl 2 rfl) ?_
                    refine va_get (ci := 9) (v := .int (jz bl)) (C := RX9) (T := TX9) (N := 19) hx hb hts wfX9 hown hK.1 hP 0 rfl rfl 3 (by decide) (hts _ wm813) (fun _ h9 => h9) rfl dX9_goBlocks_101 ?_
                    refine jv_icmp_ne (tgt := 233) hx hb dX9_goBlocks_104 (by decide) (by omega) (by omega) (fun c_24 => ?_) (fun c_24 => ?_)
                    · exact K233 bl 1 (by omega) (by omega) (by omega) H _ _ hP hD hS (lv_sub hl [2, 3, 4, 5, 6, 1, 0] rfl)
                    · refine lv_iload hx hb dX9_goBlocks_107 (lv_at hl 0 rfl) ?_
                      refine lv_aload_n hx hb dX9_goBlocks_109 rfl (lv_at hl 2 rfl) ?_
                      refine va_get (ci := 9) (v := .int (jz bl)) (C := RX9) (T := TX9) (N := 19) hx hb hts wfX9 hown hK.1 hP 0 rfl rfl 3 (by decide) (hts _ wm813) (fun _ h9 => h9) rfl dX9_goBlocks_110 ?_
                      refine jv_icmp_ne (tgt := 233) hx hb dX9_goBlocks_113 (by decide) (by omega) (by omega) (fun c_25 => ?_) (fun c_25 => ?_)
                      · exact K233 bl 1 (by omega) (by omega) (by omega) H _ _ hP hD hS (lv_sub hl [2, 3, 4, 5, 6, 1, 0] rfl)
                      · exact K116  (by omega) H _ _ hP hD hS (lv_sub hl [2, 3, 4, 5, 6] rfl)
                  · refine lv_aload_n hx hb dX9_goBlocks_88 rfl (lv_at hl 1 rfl) ?_
                    refine va_get (ci := 9) (v := .int (jz bl)) (C := RX9) (T := TX9) (N := 19) hx hb hts wfX9 hown hK.1 hP 0 rfl rfl 3 (by decide) (hts _ wm813) (fun _ h9 => h9) rfl dX9_goBlocks_89 ?_
                    refine lv_goto (tgt := 96) hx hb dX9_goBlocks_92 (by decide) ?_
                    refine lv_istore (lv' := [(6, .int (jz bl)), (5, .int (jz bl)), (0, .ref x), (1, .int (jz z)), (2, .int (jz r)), (3, .int (jz i)), (4, .int (jz j))]) hx hb dX9_goBlocks_96 hl (by decide) rfl (fun ls hl => ?_)
                    refine lv_iload hx hb dX9_goBlocks_98 (lv_at hl 1 rfl) ?_
                    refine lv_aload_n hx hb dX9_goBlocks_100 rfl (lv_at hl 2 rfl) ?_
                    refine va_get (ci := 9) (v := .int (jz bl)) (C := RX9) (T := TX9) (N := 19) hx hb hts wfX9 hown hK.1 hP 0 rfl rfl 3 (by decide) (hts _ wm813) (fun _ h9 => h9) rfl dX9_goBlocks_101 ?_
                    refine jv_icmp_ne (tgt := 233) hx hb dX9_goBlocks_104 (by decide) (by omega) (by omega) (fun c_26 => ?_) (fun c_26 => ?_)
                    · exact K233 bl bl (by omega) (by omega) (by omega) H _ _ hP hD hS (lv_sub hl [2, 3, 4, 5, 6, 1, 0] rfl)
                    · refine lv_iload hx hb dX9_goBlocks_107 (lv_at hl 0 rfl) ?_
                      refine lv_aload_n hx hb dX9_goBlocks_109 rfl (lv_at hl 2 rfl) ?_
                      refine va_get (ci := 9) (v := .int (jz bl)) (C := RX9) (T := TX9) (N := 19) hx hb hts wfX9 hown hK.1 hP 0 rfl rfl 3 (by decide) (hts _ wm813) (fun _ h9 => h9) rfl dX9_goBlocks_110 ?_
                      refine jv_icmp_ne (tgt := 233) hx hb dX9_goBlocks_113 (by decide) (by omega) (by omega) (fun c_27 => ?_) (fun c_27 => ?_)
                      · exact K233 bl bl (by omega) (by omega) (by omega) H _ _ hP hD hS (lv_sub hl [2, 3, 4, 5, 6, 1, 0] rfl)
                      · exact K116  (by omega) H _ _ hP hD hS (lv_sub hl [2, 3, 4, 5, 6] rfl)
          exact K32 (((aS 1 + 2 - 1).toNat) + 1) r 1 vsx vh9 vm9 vs9 aO9 gq M9 21 (Nat.lt_succ_self _) (by exact hgr) (by omega) (by exact hR9.symm) (by omega) (by omega) (by exact hR) (by omega) H _ _ hP hD hS (lv_sub hl [1, 2, 3, 4, 0] rfl)
    exact K19 (((aS 0 + 2 - 1).toNat) + 1) 0 1 vs vh vm vs aO u_1 M 21 (Nat.lt_succ_self _) (by exact hc1) (by omega) (by rfl) (by omega) (by omega) (by exact rO_0 hJ hO) (by omega) H _ _ hP hD hS (lv_sub hl [2, 3, 1, 0] rfl)
  exact KH s.heap [] hP hD hS
