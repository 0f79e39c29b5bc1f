theorem wb470 : Cond.castable "java/lang/IndexOutOfBoundsException" "java/lang/IndexOutOfBoundsException" ∈ WB := List.mem_filter.mpr ⟨List.mem_of_getElem? (i := 470) (by decide +kernel), by decide +kernel⟩
theorem wb582 : Cond.castable "java/lang/IllegalArgumentException" "java/lang/IllegalArgumentException" ∈ WB := List.mem_filter.mpr ⟨List.mem_of_getElem? (i := 582) (by decide +kernel), by decide +kernel⟩
theorem wb621 : Cond.castable "java/lang/IllegalStateException" "java/lang/IllegalStateException" ∈ WB := List.mem_filter.mpr ⟨List.mem_of_getElem? (i := 621) (by decide +kernel), by decide +kernel⟩
theorem wm561 : Cond.codeWith yL_load cL_load 3 (some .int) [(0, 8, 11, 13)] ∈ WA := wa_of 561 (by decide +kernel) (by decide +kernel)
theorem wm559 : Cond.methodLink RL 77 yL_load ∈ WA := wa_of 559 (by decide +kernel) (by decide +kernel)
theorem wm560 : Cond.static yL_load ∈ WA := wa_of 560 (by decide +kernel) (by decide +kernel)
theorem lkL_77 : LkH RL 77 yL_load cL_load 3 (some .int) [(0, 8, 11, 13)] 2 := ⟨⟨wm28, wm561, by decide +kernel, by decide +kernel, by decide +kernel⟩, wm559, wm560⟩
theorem wm606 : Cond.codeWith yL_insert cL_insert 6 (some .int) [(0, 12, 15, 19), (0, 12, 19, 13), (0, 12, 23, 21)] ∈ WA := wa_of 606 (by decide +kernel) (by decide +kernel)
theorem wm604 : Cond.methodLink RL 86 yL_insert ∈ WA := wa_of 604 (by decide +kernel) (by decide +kernel)
theorem wm605 : Cond.static yL_insert ∈ WA := wa_of 605 (by decide +kernel) (by decide +kernel)
theorem lkL_86 : LkH RL 86 yL_insert cL_insert 6 (some .int) [(0, 12, 15, 19), (0, 12, 19, 13), (0, 12, 23, 21)] 5 := ⟨⟨wm28, wm606, by decide +kernel, by decide +kernel, by decide +kernel⟩, wm604, wm605⟩
theorem wm638 : Cond.codeWith yL_remove cL_remove 5 (some .int) [(0, 10, 13, 19)] ∈ WA := wa_of 638 (by decide +kernel) (by decide +kernel)
theorem wm636 : Cond.methodLink RL 90 yL_remove ∈ WA := wa_of 636 (by decide +kernel) (by decide +kernel)
theorem wm637 : Cond.static yL_remove ∈ WA := wa_of 637 (by decide +kernel) (by decide +kernel)
theorem lkL_90 : LkH RL 90 yL_remove cL_remove 5 (some .int) [(0, 10, 13, 19)] 4 := ⟨⟨wm28, wm638, by decide +kernel, by decide +kernel, by decide +kernel⟩, wm636, wm637⟩
theorem wm653 : Cond.codeWith yL_replace cL_replace 6 (some .int) [(0, 12, 15, 19), (0, 12, 19, 13)] ∈ WA := wa_of 653 (by decide +kernel) (by decide +kernel)
theorem wm651 : Cond.methodLink RL 94 yL_replace ∈ WA := wa_of 651 (by decide +kernel) (by decide +kernel)
theorem wm652 : Cond.static yL_replace ∈ WA := wa_of 652 (by decide +kernel) (by decide +kernel)
theorem lkL_94 : LkH RL 94 yL_replace cL_replace 6 (some .int) [(0, 12, 15, 19), (0, 12, 19, 13)] 5 := ⟨⟨wm28, wm653, by decide +kernel, by decide +kernel, by decide +kernel⟩, wm651, wm652⟩
theorem wm664 : Cond.codeWith yL_setAlphabet cL_setAlphabet 4 (some .int) [(0, 9, 12, 13), (0, 9, 15, 21)] ∈ WA := wa_of 664 (by decide +kernel) (by decide +kernel)
theorem wm662 : Cond.methodLink RL 101 yL_setAlphabet ∈ WA := wa_of 662 (by decide +kernel) (by decide +kernel)
theorem wm663 : Cond.static yL_setAlphabet ∈ WA := wa_of 663 (by decide +kernel) (by decide +kernel)
theorem lkL_101 : LkH RL 101 yL_setAlphabet cL_setAlphabet 4 (some .int) [(0, 9, 12, 13), (0, 9, 15, 21)] 3 := ⟨⟨wm28, wm664, by decide +kernel, by decide +kernel, by decide +kernel⟩, wm662, wm663⟩
theorem wm681 : Cond.codeWith yL_length cL_length 4 (some .int) [(0, 9, 12, 19)] ∈ WA := wa_of 681 (by decide +kernel) (by decide +kernel)
theorem wm679 : Cond.methodLink RL 105 yL_length ∈ WA := wa_of 679 (by decide +kernel) (by decide +kernel)
theorem wm680 : Cond.static yL_length ∈ WA := wa_of 680 (by decide +kernel) (by decide +kernel)
theorem lkL_105 : LkH RL 105 yL_length cL_length 4 (some .int) [(0, 9, 12, 19)] 3 := ⟨⟨wm28, wm681, by decide +kernel, by decide +kernel, by decide +kernel⟩, wm679, wm680⟩
theorem wm688 : Cond.codeWith yL_letter cL_letter 5 (some .int) [(0, 10, 13, 19)] ∈ WA := wa_of 688 (by decide +kernel) (by decide +kernel)
theorem wm686 : Cond.methodLink RL 108 yL_letter ∈ WA := wa_of 686 (by decide +kernel) (by decide +kernel)
theorem wm687 : Cond.static yL_letter ∈ WA := wa_of 687 (by decide +kernel) (by decide +kernel)
theorem lkL_108 : LkH RL 108 yL_letter cL_letter 5 (some .int) [(0, 10, 13, 19)] 4 := ⟨⟨wm28, wm688, by decide +kernel, by decide +kernel, by decide +kernel⟩, wm686, wm687⟩
theorem wm695 : Cond.codeWith yL_prefix cL_prefix 5 (some .int) [(0, 10, 13, 19)] ∈ WA := wa_of 695 (by decide +kernel) (by decide +kernel)
theorem wm693 : Cond.methodLink RL 115 yL_prefix ∈ WA := wa_of 693 (by decide +kernel) (by decide +kernel)
theorem wm694 : Cond.static yL_prefix ∈ WA := wa_of 694 (by decide +kernel) (by decide +kernel)
theorem lkL_115 : LkH RL 115 yL_prefix cL_prefix 5 (some .int) [(0, 10, 13, 19)] 4 := ⟨⟨wm28, wm695, by decide +kernel, by decide +kernel, by decide +kernel⟩, wm693, wm694⟩
theorem wm707 : Cond.codeWith yL_step cL_step 4 (some .int) [(0, 9, 12, 19)] ∈ WA := wa_of 707 (by decide +kernel) (by decide +kernel)
theorem wm705 : Cond.methodLink RL 122 yL_step ∈ WA := wa_of 705 (by decide +kernel) (by decide +kernel)
theorem wm706 : Cond.static yL_step ∈ WA := wa_of 706 (by decide +kernel) (by decide +kernel)
theorem lkL_122 : LkH RL 122 yL_step cL_step 4 (some .int) [(0, 9, 12, 19)] 3 := ⟨⟨wm28, wm707, by decide +kernel, by decide +kernel, by decide +kernel⟩, wm705, wm706⟩
theorem wm715 : Cond.codeWith yL_count cL_count 4 (some .int) [(0, 9, 12, 19)] ∈ WA := wa_of 715 (by decide +kernel) (by decide +kernel)
theorem wm713 : Cond.methodLink RL 125 yL_count ∈ WA := wa_of 713 (by decide +kernel) (by decide +kernel)
theorem wm714 : Cond.static yL_count ∈ WA := wa_of 714 (by decide +kernel) (by decide +kernel)
theorem lkL_125 : LkH RL 125 yL_count cL_count 4 (some .int) [(0, 9, 12, 19)] 3 := ⟨⟨wm28, wm715, by decide +kernel, by decide +kernel, by decide +kernel⟩, wm713, wm714⟩
theorem wm728 : Cond.codeWith yL_within cL_within 4 (some .int) [(0, 9, 12, 13)] ∈ WA := wa_of 728 (by decide +kernel) (by decide +kernel)
theorem wm726 : Cond.methodLink RL 128 yL_within ∈ WA := wa_of 726 (by decide +kernel) (by decide +kernel)
theorem wm727 : Cond.static yL_within ∈ WA := wa_of 727 (by decide +kernel) (by decide +kernel)
theorem lkL_128 : LkH RL 128 yL_within cL_within 4 (some .int) [(0, 9, 12, 13)] 3 := ⟨⟨wm28, wm728, by decide +kernel, by decide +kernel, by decide +kernel⟩, wm726, wm727⟩
theorem wm739 : Cond.codeWith yL_band cL_band 4 (some .int) [(0, 9, 12, 13)] ∈ WA := wa_of 739 (by decide +kernel) (by decide +kernel)
theorem wm737 : Cond.methodLink RL 131 yL_band ∈ WA := wa_of 737 (by decide +kernel) (by decide +kernel)
theorem wm738 : Cond.static yL_band ∈ WA := wa_of 738 (by decide +kernel) (by decide +kernel)
theorem lkL_131 : LkH RL 131 yL_band cL_band 4 (some .int) [(0, 9, 12, 13)] 3 := ⟨⟨wm28, wm739, by decide +kernel, by decide +kernel, by decide +kernel⟩, wm737, wm738⟩
theorem wm746 : Cond.codeWith yL_setBlock cL_setBlock 4 (some .int) [(0, 9, 12, 13)] ∈ WA := wa_of 746 (by decide +kernel) (by decide +kernel)
theorem wm744 : Cond.methodLink RL 139 yL_setBlock ∈ WA := wa_of 744 (by decide +kernel) (by decide +kernel)
theorem wm745 : Cond.static yL_setBlock ∈ WA := wa_of 745 (by decide +kernel) (by decide +kernel)
theorem lkL_139 : LkH RL 139 yL_setBlock cL_setBlock 4 (some .int) [(0, 9, 12, 13)] 3 := ⟨⟨wm28, wm746, by decide +kernel, by decide +kernel, by decide +kernel⟩, wm744, wm745⟩
theorem wm762 : Cond.codeWith yL_across cL_across 5 (some .int) [(0, 10, 13, 19)] ∈ WA := wa_of 762 (by decide +kernel) (by decide +kernel)
theorem wm760 : Cond.methodLink RL 158 yL_across ∈ WA := wa_of 760 (by decide +kernel) (by decide +kernel)
theorem wm761 : Cond.static yL_across ∈ WA := wa_of 761 (by decide +kernel) (by decide +kernel)
theorem lkL_158 : LkH RL 158 yL_across cL_across 5 (some .int) [(0, 10, 13, 19)] 4 := ⟨⟨wm28, wm762, by decide +kernel, by decide +kernel, by decide +kernel⟩, wm760, wm761⟩
theorem wm770 : Cond.codeWith yL_ifReplaced cL_ifReplaced 6 (some .int) [(0, 12, 15, 19), (0, 12, 19, 13)] ∈ WA := wa_of 770 (by decide +kernel) (by decide +kernel)
theorem wm768 : Cond.methodLink RL 169 yL_ifReplaced ∈ WA := wa_of 768 (by decide +kernel) (by decide +kernel)
theorem wm769 : Cond.static yL_ifReplaced ∈ WA := wa_of 769 (by decide +kernel) (by decide +kernel)
theorem lkL_169 : LkH RL 169 yL_ifReplaced cL_ifReplaced 6 (some .int) [(0, 12, 15, 19), (0, 12, 19, 13)] 5 := ⟨⟨wm28, wm770, by decide +kernel, by decide +kernel, by decide +kernel⟩, wm768, wm769⟩
theorem wm777 : Cond.codeWith yL_bestReplacement cL_bestReplacement 4 (some .int) [(0, 9, 12, 19)] ∈ WA := wa_of 777 (by decide +kernel) (by decide +kernel)
theorem wm775 : Cond.methodLink RL 172 yL_bestReplacement ∈ WA := wa_of 775 (by decide +kernel) (by decide +kernel)
theorem wm776 : Cond.static yL_bestReplacement ∈ WA := wa_of 776 (by decide +kernel) (by decide +kernel)
theorem lkL_172 : LkH RL 172 yL_bestReplacement cL_bestReplacement 4 (some .int) [(0, 9, 12, 19)] 3 := ⟨⟨wm28, wm777, by decide +kernel, by decide +kernel, by decide +kernel⟩, wm775, wm776⟩
theorem wm781 : Cond.codeWith yL_append cL_append 4 (some .int) [(0, 9, 12, 13), (0, 9, 15, 21)] ∈ WA := wa_of 781 (by decide +kernel) (by decide +kernel)
theorem wm779 : Cond.methodLink RL 179 yL_append ∈ WA := wa_of 779 (by decide +kernel) (by decide +kernel)
theorem wm780 : Cond.static yL_append ∈ WA := wa_of 780 (by decide +kernel) (by decide +kernel)
theorem lkL_179 : LkH RL 179 yL_append cL_append 4 (some .int) [(0, 9, 12, 13), (0, 9, 15, 21)] 3 := ⟨⟨wm28, wm781, by decide +kernel, by decide +kernel, by decide +kernel⟩, wm779, wm780⟩
theorem wm794 : Cond.codeWith yL_undo cL_undo 3 (some .int) [(0, 8, 11, 21)] ∈ WA := wa_of 794 (by decide +kernel) (by decide +kernel)
theorem wm792 : Cond.methodLink RL 190 yL_undo ∈ WA := wa_of 792 (by decide +kernel) (by decide +kernel)
theorem wm793 : Cond.static yL_undo ∈ WA := wa_of 793 (by decide +kernel) (by decide +kernel)
theorem lkL_190 : LkH RL 190 yL_undo cL_undo 3 (some .int) [(0, 8, 11, 21)] 2 := ⟨⟨wm28, wm794, by decide +kernel, by decide +kernel, by decide +kernel⟩, wm792, wm793⟩
def kL_load (E : String) : Int := if E = "java/lang/IllegalArgumentException" then 1 else 0
set_option maxHeartbeats 4000000 in
set_option maxRecDepth 100000 in
theorem wL_load {S : Type} (l : Launch) (hl0 : l.stackTraces = false) (G : GG) (x o : Nat)  (fo : Int → Int64) (rm : Room) (bs : List va_W) (val : S → Int) (post : S → Prop) (bw : S → List va_W) (pE : String → Prop) (k0 : Nat) {fs : List Value} (he : bs.flatten[k0]? = some (x, .inr (8, fs))) (hpE : ∀ E : String, pE E → E = "java/lang/IllegalArgumentException") (hM : Xt l yX8_load cX8_load 1 (some .int) rm G [.ref x] bs (fun u : S => some (.int (jz (val u)))) post bw pE) : XtH l yL_load cL_load 3 (some .int) [(0, 8, 11, 13)] (rmW rm 1) G [.ref x, .ref o] ([(o, jl G 1 fo)] :: bs) (fun u : S ⊕ String => some (.int (jz (u.elim (fun _ => 0) kL_load)))) (fun u => u.elim post pE) (fun u => u.elim (fun u => [(o, jl G 1 (up fo 0 ((jz (val u)).toInt64)))] :: bw u) (fun _ => [(o, jl G 1 fo)] :: bs)) := by
  refine xhof (by decide) (Nat.le_of_ble_eq_true rfl) ?_
  intro p e s m args below meth c A ls hx hb hr hml hown hts hlocks hin hA hK hP hD hS hl hX htab Q hQ
  have hown : s.vm.findClass RL = some m.cls := hown
  have hl : lv_has ls 3 [(0, .ref x), (1, .ref o)] := hl
  have KH : ∀ (H : Heap) (locs : List Loc), wP G ([(o, jl G 1 fo)] :: bs) H → wD A ([(o, jl G 1 fo)] :: bs) → va_S A s.heap H locs → W p l e (rmW rm 1) s m args below meth c H locs 0 0 Q (F0 m 0 ls []) := by
    intro H locs hP hD hS
    refine lv_aload_n hx hb dL_load_0 rfl (lv_at hl 1 rfl) ?_
    refine jv_iconst hx hb dL_load_1 ?_
    refine lv_aload_n hx hb dL_load_2 rfl (lv_at hl 0 rfl) ?_
    refine xkV ⟨hx, hb, hml, hown, hts⟩ hK hA hS hP hD [] [.int (jz 0), .ref o] hM lkL_7 (List.range' 1 bs.length) [0] (br := [[(o, jl G 1 fo)]]) (ix_c _ bs) rfl (ix_n _) k0 8 he rfl rfl rfl (Nat.le_of_ble_eq_true rfl) hl.1 dL_load_3 ⟨Nat.le_refl _, Nat.le_refl _⟩ ⟨Nat.le_of_eq (Nat.zero_add _), Nat.le_of_eq (Nat.zero_add _)⟩ hX (fun E ce q9 H locs hE hP hD hS hce hcv hcl => ?_) (fun u9 H locs hp9 hP hD hS => ?_)
    · have hP : wP G ([(o, jl G 1 fo)] :: bs) H := hP
      have hD : wD A ([(o, jl G 1 fo)] :: bs) := hD
      have hE1 := hpE E hE
      subst hE1
      refine vx_catch hown [] (⟨0, 8, 11, 13⟩ : ExceptionTableEntry) [] (htab.trans rfl) (fun z hz => absurd hz List.not_mem_nil) (by decide) (by decide) (hts _ wm562) (va_Nw.use rfl (hK.2.1 _ wb582)) hce hcv hcl ?_
      show W p l e (rmW rm 1) s m args below meth c H locs (0 + rm.cells) (0 + rm.slots) Q (F0 m 11 ls [.ref q9])
      refine lv_astore_n (lv' := [(2, .ref q9), (0, .ref x), (1, .ref o)]) hx hb dL_load_11 rfl hl (by decide) rfl (fun ls hl => ?_)
      refine jv_iconst hx hb dL_load_12 ?_
      exact cret_i9 (bw := fun u : S ⊕ String => u.elim (fun u => [(o, jl G 1 (up fo 0 ((jz (val u)).toInt64)))] :: bw u) (fun _ => [(o, jl G 1 fo)] :: bs)) hx hb hr hlocks (Sum.inr "java/lang/IllegalArgumentException") hS hP hD (Nat.le_of_eq (Nat.zero_add _)) (Nat.le_of_eq (Nat.zero_add _)) rfl dL_load_13 hE (congrArg (fun z : Int => some (Value.int (jz z))) (show (1 : Int) = kL_load "java/lang/IllegalArgumentException" from by decide +kernel)) hQ
    · show W p l e (rmW rm 1) s m args below meth c H locs (0 + rm.cells) (0 + rm.slots) Q (F0 m 6 ls [.int (jz (val u9)), .int (jz 0), .ref o])
      have hP : wP G ([(o, jl G 1 fo)] :: bw u9) H := hP
      have hD : wD A ([(o, jl G 1 fo)] :: bw u9) := hD
      refine lv_i2l (v := (jz (val u9)).toInt64) hx hb dL_load_6 rfl ?_
      refine jv_last hx hb hK.1 hP hD hS 0 (g := fo) rfl (by omega) (by omega) (by decide) dL_load_7 (fun H locs hP hD hS => ?_)
      have hP : wP G ([(o, jl G 1 (up fo 0 ((jz (val u9)).toInt64)))] :: bw u9) H := hP
      have hD : wD A ([(o, jl G 1 (up fo 0 ((jz (val u9)).toInt64)))] :: bw u9) := hD
      refine lv_goto (tgt := 14) hx hb dL_load_8 (by decide) ?_
      refine jv_iconst hx hb dL_load_14 ?_
      exact cret_i9 (bw := fun u : S ⊕ String => u.elim (fun u => [(o, jl G 1 (up fo 0 ((jz (val u)).toInt64)))] :: bw u) (fun _ => [(o, jl G 1 fo)] :: bs)) hx hb hr hlocks (Sum.inl u9) hS hP hD (Nat.le_of_eq (Nat.zero_add _)) (Nat.le_of_eq (Nat.zero_add _)) rfl dL_load_15 hp9 rfl hQ
  exact KH s.heap [] hP hD hS
def kL_insert (E : String) : Int := if E = "java/lang/IndexOutOfBoundsException" then 1 else if E = "java/lang/IllegalArgumentException" then 2 else if E = "java/lang/IllegalStateException" then 3 else 0
set_option maxHeartbeats 4000000 in
set_option maxRecDepth 100000 in
theorem wL_insert {S : Type} (l : Launch) (hl0 : l.stackTraces = false) (G : GG) (x o : Nat) (z : Int) (i : Int) (v : Int) (fo : Int → Int64) (rm : Room) (bs : List va_W) (val : S → Int) (post : S → Prop) (bw : S → List va_W) (pE : String → Prop) (k0 : Nat) {fs : List Value} (he : bs.flatten[k0]? = some (x, .inr (8, fs))) (hpE : ∀ E : String, pE E → E = "java/lang/IndexOutOfBoundsException" ∨ E = "java/lang/IllegalArgumentException" ∨ E = "java/lang/IllegalStateException") (hM : Xt l yX8_insert cX8_insert 5 (some .int) rm G [.ref x, .int (jz z), .int (jz i), .int (jz v)] bs (fun u : S => some (.int (jz (val u)))) post bw pE) : XtH l yL_insert cL_insert 6 (some .int) [(0, 12, 15, 19), (0, 12, 19, 13), (0, 12, 23, 21)] (rmW rm 5) G [.ref x, .int (jz z), .int (jz i), .int (jz v), .ref o] ([(o, jl G 1 fo)] :: bs) (fun u : S ⊕ String => some (.int (jz (u.elim (fun _ => 0) kL_insert)))) (fun u => u.elim post pE) (fun u => u.elim (fun u => [(o, jl G 1 (up fo 0 ((jz (val u)).toInt64)))] :: bw u) (fun _ => [(o, jl G 1 fo)] :: bs)) := by
  refine xhof (by decide) (Nat.le_of_ble_eq_true rfl) ?_
  intro p e s m args below meth c A ls hx hb hr hml hown hts hlocks hin hA hK hP hD hS hl hX htab Q hQ
  have hown : s.vm.findClass RL = some m.cls := hown
  have hl : lv_has ls 6 [(0, .ref x), (1, .int (jz z)), (2, .int (jz i)), (3, .int (jz v)), (4, .ref o)] := hl
  have KH : ∀ (H : Heap) (locs : List Loc), wP G ([(o, jl G 1 fo)] :: bs) H → wD A ([(o, jl G 1 fo)] :: bs) → va_S A s.heap H locs → W p l e (rmW rm 5) s m args below meth c H locs 0 0 Q (F0 m 0 ls []) := by
    intro H locs hP hD hS
    refine lv_aload hx hb dL_insert_0 (lv_at hl 4 rfl) ?_
    refine jv_iconst hx hb dL_insert_2 ?_
    refine lv_aload_n hx hb dL_insert_3 rfl (lv_at hl 0 rfl) ?_
    refine lv_iload_n hx hb dL_insert_4 rfl (lv_at hl 1 rfl) ?_
    refine lv_iload_n hx hb dL_insert_5 rfl (lv_at hl 2 rfl) ?_
    refine lv_iload_n hx hb dL_insert_6 rfl (lv_at hl 3 rfl) ?_
    refine xkV ⟨hx, hb, hml, hown, hts⟩ hK hA hS hP hD [.int (jz z), .int (jz i), .int (jz v)] [.int (jz 0), .ref o] hM lkL_15 (List.range' 1 bs.length) [0] (br := [[(o, jl G 1 fo)]]) (ix_c _ bs) rfl (ix_n _) k0 8 he rfl rfl rfl (Nat.le_of_ble_eq_true rfl) hl.1 dL_insert_7 ⟨Nat.le_refl _, Nat.le_refl _⟩ ⟨Nat.le_of_eq (Nat.zero_add _), Nat.le_of_eq (Nat.zero_add _)⟩ hX (fun E ce q9 H locs hE hP hD hS hce hcv hcl => ?_) (fun u9 H locs hp9 hP hD hS => ?_)
    · have hP : wP G ([(o, jl G 1 fo)] :: bs) H := hP
      have hD : wD A ([(o, jl G 1 fo)] :: bs) := hD
      rcases hpE E hE with rfl | rfl | rfl
      · refine vx_catch hown [] (⟨0, 12, 15, 19⟩ : ExceptionTableEntry) [(⟨0, 12, 19, 13⟩ : ExceptionTableEntry), (⟨0, 12, 23, 21⟩ : ExceptionTableEntry)] (htab.trans rfl) (fun z hz => absurd hz List.not_mem_nil) (by decide) (by decide) (hts _ wm607) (va_Nw.use rfl (hK.2.1 _ wb470)) hce hcv hcl ?_
        show W p l e (rmW rm 5) s m args below meth c H locs (0 + rm.cells) (0 + rm.slots) Q (F0 m 15 ls [.ref q9])
        refine lv_astore (lv' := [(5, .ref q9), (0, .ref x), (1, .int (jz z)), (2, .int (jz i)), (3, .int (jz v)), (4, .ref o)]) hx hb dL_insert_15 hl (by decide) rfl (fun ls hl => ?_)
        refine jv_iconst hx hb dL_insert_17 ?_
        exact cret_i9 (bw := fun u : S ⊕ String => u.elim (fun u => [(o, jl G 1 (up fo 0 ((jz (val u)).toInt64)))] :: bw u) (fun _ => [(o, jl G 1 fo)] :: bs)) hx hb hr hlocks (Sum.inr "java/lang/IndexOutOfBoundsException") hS hP hD (Nat.le_of_eq (Nat.zero_add _)) (Nat.le_of_eq (Nat.zero_add _)) rfl dL_insert_18 hE (congrArg (fun z : Int => some (Value.int (jz z))) (show (1 : Int) = kL_insert "java/lang/IndexOutOfBoundsException" from by decide +kernel)) hQ
      · refine vx_catch hown [(⟨0, 12, 15, 19⟩ : ExceptionTableEntry)] (⟨0, 12, 19, 13⟩ : ExceptionTableEntry) [(⟨0, 12, 23, 21⟩ : ExceptionTableEntry)] (htab.trans rfl) (fun z hz => by
            simp only [List.mem_cons, List.not_mem_nil, or_false] at hz
            subst hz
            exact Or.inr ⟨by decide, "java/lang/IndexOutOfBoundsException", hts _ wm607, hK.2.2.2.2.1 ("java/lang/IllegalArgumentException", "java/lang/IndexOutOfBoundsException") (by decide +kernel)⟩) (by decide) (by decide) (hts _ wm562) (va_Nw.use rfl (hK.2.1 _ wb582)) hce hcv hcl ?_
        show W p l e (rmW rm 5) s m args below meth c H locs (0 + rm.cells) (0 + rm.slots) Q (F0 m 19 ls [.ref q9])
        refine lv_astore (lv' := [(5, .ref q9), (0, .ref x), (1, .int (jz z)), (2, .int (jz i)), (3, .int (jz v)), (4, .ref o)]) hx hb dL_insert_19 hl (by decide) rfl (fun ls hl => ?_)
        refine jv_iconst hx hb dL_insert_21 ?_
        exact cret_i9 (bw := fun u : S ⊕ String => u.elim (fun u => [(o, jl G 1 (up fo 0 ((jz (val u)).toInt64)))] :: bw u) (fun _ => [(o, jl G 1 fo)] :: bs)) hx hb hr hlocks (Sum.inr "java/lang/IllegalArgumentException") hS hP hD (Nat.le_of_eq (Nat.zero_add _)) (Nat.le_of_eq (Nat.zero_add _)) rfl dL_insert_22 hE (congrArg (fun z : Int => some (Value.int (jz z))) (show (2 : Int) = kL_insert "java/lang/IllegalArgumentException" from by decide +kernel)) hQ
      · refine vx_catch hown [(⟨0, 12, 15, 19⟩ : ExceptionTableEntry), (⟨0, 12, 19, 13⟩ : ExceptionTableEntry)] (⟨0, 12, 23, 21⟩ : ExceptionTableEntry) [] (htab.trans rfl) (fun z hz => by
            simp only [List.mem_cons, List.not_mem_nil, or_false] at hz
            rcases hz with rfl | rfl
            · exact Or.inr ⟨by decide, "java/lang/IndexOutOfBoundsException", hts _ wm607, hK.2.2.2.2.1 ("java/lang/IllegalStateException", "java/lang/IndexOutOfBoundsException") (by decide +kernel)⟩
            · exact Or.inr ⟨by decide, "java/lang/IllegalArgumentException", hts _ wm562, hK.2.2.2.2.1 ("java/lang/IllegalStateException", "java/lang/IllegalArgumentException") (by decide +kernel)⟩) (by decide) (by decide) (hts _ wm608) (va_Nw.use rfl (hK.2.1 _ wb621)) hce hcv hcl ?_
        show W p l e (rmW rm 5) s m args below meth c H locs (0 + rm.cells) (0 + rm.slots) Q (F0 m 23 ls [.ref q9])
        refine lv_astore (lv' := [(5, .ref q9), (0, .ref x), (1, .int (jz z)), (2, .int (jz i)), (3, .int (jz v)), (4, .ref o)]) hx hb dL_insert_23 hl (by decide) rfl (fun ls hl => ?_)
        refine jv_iconst hx hb dL_insert_25 ?_
        exact cret_i9 (bw := fun u : S ⊕ String => u.elim (fun u => [(o, jl G 1 (up fo 0 ((jz (val u)).toInt64)))] :: bw u) (fun _ => [(o, jl G 1 fo)] :: bs)) hx hb hr hlocks (Sum.inr "java/lang/IllegalStateException") hS hP hD (Nat.le_of_eq (Nat.zero_add _)) (Nat.le_of_eq (Nat.zero_add _)) rfl dL_insert_26 hE (congrArg (fun z : Int => some (Value.int (jz z))) (show (3 : Int) = kL_insert "java/lang/IllegalStateException" from by decide +kernel)) hQ
    · show W p l e (rmW rm 5) s m args below meth c H locs (0 + rm.cells) (0 + rm.slots) Q (F0 m 10 ls [.int (jz (val u9)), .int (jz 0), .ref o])
      have hP : wP G ([(o, jl G 1 fo)] :: bw u9) H := hP
      have hD : wD A ([(o, jl G 1 fo)] :: bw u9) := hD
      refine lv_i2l (v := (jz (val u9)).toInt64) hx hb dL_insert_10 rfl ?_
      refine jv_last hx hb hK.1 hP hD hS 0 (g := fo) rfl (by omega) (by omega) (by decide) dL_insert_11 (fun H locs hP hD hS => ?_)
      have hP : wP G ([(o, jl G 1 (up fo 0 ((jz (val u9)).toInt64)))] :: bw u9) H := hP
      have hD : wD A ([(o, jl G 1 (up fo 0 ((jz (val u9)).toInt64)))] :: bw u9) := hD
      refine lv_goto (tgt := 27) hx hb dL_insert_12 (by decide) ?_
      refine jv_iconst hx hb dL_insert_27 ?_
      exact cret_i9 (bw := fun u : S ⊕ String => u.elim (fun u => [(o, jl G 1 (up fo 0 ((jz (val u)).toInt64)))] :: bw u) (fun _ => [(o, jl G 1 fo)] :: bs)) hx hb hr hlocks (Sum.inl u9) hS hP hD (Nat.le_of_eq (Nat.zero_add _)) (Nat.le_of_eq (Nat.zero_add _)) rfl dL_insert_28 hp9 rfl hQ
  exact KH s.heap [] hP hD hS
def kL_remove (E : String) : Int := if E = "java/lang/IndexOutOfBoundsException" then 1 else 0
set_option maxHeartbeats 4000000 in
set_option maxRecDepth 100000 in
theorem wL_remove {S : Type} (l : Launch) (hl0 : l.stackTraces = false) (G : GG) (x o : Nat) (z : Int) (i : Int) (fo : Int → Int64) (rm : Room) (bs : List va_W) (val : S → Int) (post : S → Prop) (bw : S → List va_W) (pE : String → Prop) (k0 : Nat) {fs : List Value} (he : bs.flatten[k0]? = some (x, .inr (8, fs))) (hpE : ∀ E : String, pE E → E = "java/lang/IndexOutOfBoundsException") (hM : Xt l yX8_remove cX8_remove 5 (some .int) rm G [.ref x, .int (jz z), .int (jz i)] bs (fun u : S => some (.int (jz (val u)))) post bw pE) : XtH l yL_remove cL_remove 5 (some .int) [(0, 10, 13, 19)] (rmW rm 5) G [.ref x, .int (jz z), .int (jz i), .ref o] ([(o, jl G 1 fo)] :: bs) (fun u : S ⊕ String => some (.int (jz (u.elim (fun _ => 0) kL_remove)))) (fun u => u.elim post pE) (fun u => u.elim (fun u => [(o, jl G 1 (up fo 0 ((jz (val u)).toInt64)))] :: bw u) (fun _ => [(o, jl G 1 fo)] :: bs)) := by
  refine xhof (by decide) (Nat.le_of_ble_eq_true rfl) ?_
  intro p e s m args below meth c A ls hx hb hr hml hown hts hlocks hin hA hK hP hD hS hl hX htab Q hQ
  have hown : s.vm.findClass RL = some m.cls := hown
  have hl : lv_has ls 5 [(0, .ref x), (1, .int (jz z)), (2, .int (jz i)), (3, .ref o)] := hl
  have KH : ∀ (H : Heap) (locs : List Loc), wP G ([(o, jl G 1 fo)] :: bs) H → wD A ([(o, jl G 1 fo)] :: bs) → va_S A s.heap H locs → W p l e (rmW rm 5) s m args below meth c H locs 0 0 Q (F0 m 0 ls []) := by
    intro H locs hP hD hS
    refine lv_aload_n hx hb dL_remove_0 rfl (lv_at hl 3 rfl) ?_
    refine jv_iconst hx hb dL_remove_1 ?_
    refine lv_aload_n hx hb dL_remove_2 rfl (lv_at hl 0 rfl) ?_
    refine lv_iload_n hx hb dL_remove_3 rfl (lv_at hl 1 rfl) ?_
    refine lv_iload_n hx hb dL_remove_4 rfl (lv_at hl 2 rfl) ?_
    refine xkV ⟨hx, hb, hml, hown, hts⟩ hK hA hS hP hD [.int (jz z), .int (jz i)] [.int (jz 0), .ref o] hM lkL_23 (List.range' 1 bs.length) [0] (br := [[(o, jl G 1 fo)]]) (ix_c _ bs) rfl (ix_n _) k0 8 he rfl rfl rfl (Nat.le_of_ble_eq_true rfl) hl.1 dL_remove_5 ⟨Nat.le_refl _, Nat.le_refl _⟩ ⟨Nat.le_of_eq (Nat.zero_add _), Nat.le_of_eq (Nat.zero_add _)⟩ hX (fun E ce q9 H locs hE hP hD hS hce hcv hcl => ?_) (fun u9 H locs hp9 hP hD hS => ?_)
    · have hP : wP G ([(o, jl G 1 fo)] :: bs) H := hP
      have hD : wD A ([(o, jl G 1 fo)] :: bs) := hD
      have hE1 := hpE E hE
      subst hE1
      refine vx_catch hown [] (⟨0, 10, 13, 19⟩ : ExceptionTableEntry) [] (htab.trans rfl) (fun z hz => absurd hz List.not_mem_nil) (by decide) (by decide) (hts _ wm607) (va_Nw.use rfl (hK.2.1 _ wb470)) hce hcv hcl ?_
      show W p l e (rmW rm 5) s m args below meth c H locs (0 + rm.cells) (0 + rm.slots) Q (F0 m 13 ls [.ref q9])
      refine lv_astore (lv' := [(4, .ref q9), (0, .ref x), (1, .int (jz z)), (2, .int (jz i)), (3, .ref o)]) hx hb dL_remove_13 hl (by decide) rfl (fun ls hl => ?_)
      refine jv_iconst hx hb dL_remove_15 ?_
      exact cret_i9 (bw := fun u : S ⊕ String => u.elim (fun u => [(o, jl G 1 (up fo 0 ((jz (val u)).toInt64)))] :: bw u) (fun _ => [(o, jl G 1 fo)] :: bs)) hx hb hr hlocks (Sum.inr "java/lang/IndexOutOfBoundsException") hS hP hD (Nat.le_of_eq (Nat.zero_add _)) (Nat.le_of_eq (Nat.zero_add _)) rfl dL_remove_16 hE (congrArg (fun z : Int => some (Value.int (jz z))) (show (1 : Int) = kL_remove "java/lang/IndexOutOfBoundsException" from by decide +kernel)) hQ
    · show W p l e (rmW rm 5) s m args below meth c H locs (0 + rm.cells) (0 + rm.slots) Q (F0 m 8 ls [.int (jz (val u9)), .int (jz 0), .ref o])
      have hP : wP G ([(o, jl G 1 fo)] :: bw u9) H := hP
      have hD : wD A ([(o, jl G 1 fo)] :: bw u9) := hD
      refine lv_i2l (v := (jz (val u9)).toInt64) hx hb dL_remove_8 rfl ?_
      refine jv_last hx hb hK.1 hP hD hS 0 (g := fo) rfl (by omega) (by omega) (by decide) dL_remove_9 (fun H locs hP hD hS => ?_)
      have hP : wP G ([(o, jl G 1 (up fo 0 ((jz (val u9)).toInt64)))] :: bw u9) H := hP
      have hD : wD A ([(o, jl G 1 (up fo 0 ((jz (val u9)).toInt64)))] :: bw u9) := hD
      refine lv_goto (tgt := 17) hx hb dL_remove_10 (by decide) ?_
      refine jv_iconst hx hb dL_remove_17 ?_
      exact cret_i9 (bw := fun u : S ⊕ String => u.elim (fun u => [(o, jl G 1 (up fo 0 ((jz (val u)).toInt64)))] :: bw u) (fun _ => [(o, jl G 1 fo)] :: bs)) hx hb hr hlocks (Sum.inl u9) hS hP hD (Nat.le_of_eq (Nat.zero_add _)) (Nat.le_of_eq (Nat.zero_add _)) rfl dL_remove_18 hp9 rfl hQ
  exact KH s.heap [] hP hD hS
def kL_replace (E : String) : Int := if E = "java/lang/IndexOutOfBoundsException" then 1 else if E = "java/lang/IllegalArgumentException" then 2 else 0
set_option maxHeartbeats 4000000 in
set_option maxRecDepth 100000 in
theorem wL_replace {S : Type} (l : Launch) (hl0 : l.stackTraces = false) (G : GG) (x o : Nat) (z : Int) (i : Int) (v : Int) (fo : Int → Int64) (rm : Room) (bs : List va_W) (val : S → Int) (post : S → Prop) (bw : S → List va_W) (pE : String → Prop) (k0 : Nat) {fs : List Value} (he : bs.flatten[k0]? = some (x, .inr (8, fs))) (hpE : ∀ E : String, pE E → E = "java/lang/IndexOutOfBoundsException" ∨ E = "java/lang/IllegalArgumentException") (hM : Xt l yX8_replace cX8_replace 6 (some .int) rm G [.ref x, .int (jz z), .int (jz i), .int (jz v)] bs (fun u : S => some (.int (jz (val u)))) post bw pE) : XtH l yL_replace cL_replace 6 (some .int) [(0, 12, 15, 19), (0, 12, 19, 13)] (rmW rm 6) G [.ref x, .int (jz z), .int (jz i), .int (jz v), .ref o] ([(o, jl G 1 fo)] :: bs) (fun u : S ⊕ String => some (.int (jz (u.elim (fun _ => 0) kL_replace)))) (fun u => u.elim post pE) (fun u => u.elim (fun u => [(o, jl G 1 (up fo 0 ((jz (val u)).toInt64)))] :: bw u) (fun _ => [(o, jl G 1 fo)] :: bs)) := by
  refine xhof (by decide) (Nat.le_of_ble_eq_true rfl) ?_
  intro p e s m args below meth c A ls hx hb hr hml hown hts hlocks hin hA hK hP hD hS hl hX htab Q hQ
  have hown : s.vm.findClass RL = some m.cls := hown
  have hl : lv_has ls 6 [(0, .ref x), (1, .int (jz z)), (2, .int (jz i)), (3, .int (jz v)), (4, .ref o)] := hl
  have KH : ∀ (H : Heap) (locs : List Loc), wP G ([(o, jl G 1 fo)] :: bs) H → wD A ([(o, jl G 1 fo)] :: bs) → va_S A s.heap H locs → W p l e (rmW rm 6) s m args below meth c H locs 0 0 Q (F0 m 0 ls []) := by
    intro H locs hP hD hS
    refine lv_aload hx hb dL_replace_0 (lv_at hl 4 rfl) ?_
    refine jv_iconst hx hb dL_replace_2 ?_
    refine lv_aload_n hx hb dL_replace_3 rfl (lv_at hl 0 rfl) ?_
    refine lv_iload_n hx hb dL_replace_4 rfl (lv_at hl 1 rfl) ?_
    refine lv_iload_n hx hb dL_replace_5 rfl (lv_at hl 2 rfl) ?_
    refine lv_iload_n hx hb dL_replace_6 rfl (lv_at hl 3 rfl) ?_
    refine xkV ⟨hx, hb, hml, hown, hts⟩ hK hA hS hP hD [.int (jz z), .int (jz i), .int (jz v)] [.int (jz 0), .ref o] hM lkL_27 (List.range' 1 bs.length) [0] (br := [[(o, jl G 1 fo)]]) (ix_c _ bs) rfl (ix_n _) k0 8 he rfl rfl rfl (Nat.le_of_ble_eq_true rfl) hl.1 dL_replace_7 ⟨Nat.le_refl _, Nat.le_refl _⟩ ⟨Nat.le_of_eq (Nat.zero_add _), Nat.le_of_eq (Nat.zero_add _)⟩ hX (fun E ce q9 H locs hE hP hD hS hce hcv hcl => ?_) (fun u9 H locs hp9 hP hD hS => ?_)
    · have hP : wP G ([(o, jl G 1 fo)] :: bs) H := hP
      have hD : wD A ([(o, jl G 1 fo)] :: bs) := hD
      rcases hpE E hE with rfl | rfl
      · refine vx_catch hown [] (⟨0, 12, 15, 19⟩ : ExceptionTableEntry) [(⟨0, 12, 19, 13⟩ : ExceptionTableEntry)] (htab.trans rfl) (fun z hz => absurd hz List.not_mem_nil) (by decide) (by decide) (hts _ wm607) (va_Nw.use rfl (hK.2.1 _ wb470)) hce hcv hcl ?_
        show W p l e (rmW rm 6) s m args below meth c H locs (0 + rm.cells) (0 + rm.slots) Q (F0 m 15 ls [.ref q9])
        refine lv_astore (lv' := [(5, .ref q9), (0, .ref x), (1, .int (jz z)), (2, .int (jz i)), (3, .int (jz v)), (4, .ref o)]) hx hb dL_replace_15 hl (by decide) rfl (fun ls hl => ?_)
        refine jv_iconst hx hb dL_replace_17 ?_
        exact cret_i9 (bw := fun u : S ⊕ String => u.elim (fun u => [(o, jl G 1 (up fo 0 ((jz (val u)).toInt64)))] :: bw u) (fun _ => [(o, jl G 1 fo)] :: bs)) hx hb hr hlocks (Sum.inr "java/lang/IndexOutOfBoundsException") hS hP hD (Nat.le_of_eq (Nat.zero_add _)) (Nat.le_of_eq (Nat.zero_add _)) rfl dL_replace_18 hE (congrArg (fun z : Int => some (Value.int (jz z))) (show (1 : Int) = kL_replace "java/lang/IndexOutOfBoundsException" from by decide +kernel)) hQ
      · refine vx_catch hown [(⟨0, 12, 15, 19⟩ : ExceptionTableEntry)] (⟨0, 12, 19, 13⟩ : ExceptionTableEntry) [] (htab.trans rfl) (fun z hz => by
            simp only [List.mem_cons, List.not_mem_nil, or_false] at hz
            subst hz
            exact Or.inr ⟨by decide, "java/lang/IndexOutOfBoundsException", hts _ wm607, hK.2.2.2.2.1 ("java/lang/IllegalArgumentException", "java/lang/IndexOutOfBoundsException") (by decide +kernel)⟩) (by decide) (by decide) (hts _ wm562) (va_Nw.use rfl (hK.2.1 _ wb582)) hce hcv hcl ?_
        show W p l e (rmW rm 6) s m args below meth c H locs (0 + rm.cells) (0 + rm.slots) Q (F0 m 19 ls [.ref q9])
        refine lv_astore (lv' := [(5, .ref q9), (0, .ref x), (1, .int (jz z)), (2, .int (jz i)), (3, .int (jz v)), (4, .ref o)]) hx hb dL_replace_19 hl (by decide) rfl (fun ls hl => ?_)
        refine jv_iconst hx hb dL_replace_21 ?_
        exact cret_i9 (bw := fun u : S ⊕ String => u.elim (fun u => [(o, jl G 1 (up fo 0 ((jz (val u)).toInt64)))] :: bw u) (fun _ => [(o, jl G 1 fo)] :: bs)) hx hb hr hlocks (Sum.inr "java/lang/IllegalArgumentException") hS hP hD (Nat.le_of_eq (Nat.zero_add _)) (Nat.le_of_eq (Nat.zero_add _)) rfl dL_replace_22 hE (congrArg (fun z : Int => some (Value.int (jz z))) (show (2 : Int) = kL_replace "java/lang/IllegalArgumentException" from by decide +kernel)) hQ
    · show W p l e (rmW rm 6) s m args below meth c H locs (0 + rm.cells) (0 + rm.slots) Q (F0 m 10 ls [.int (jz (val u9)), .int (jz 0), .ref o])
      have hP : wP G ([(o, jl G 1 fo)] :: bw u9) H := hP
      have hD : wD A ([(o, jl G 1 fo)] :: bw u9) := hD
      refine lv_i2l (v := (jz (val u9)).toInt64) hx hb dL_replace_10 rfl ?_
      refine jv_last hx hb hK.1 hP hD hS 0 (g := fo) rfl (by omega) (by omega) (by decide) dL_replace_11 (fun H locs hP hD hS => ?_)
      have hP : wP G ([(o, jl G 1 (up fo 0 ((jz (val u9)).toInt64)))] :: bw u9) H := hP
      have hD : wD A ([(o, jl G 1 (up fo 0 ((jz (val u9)).toInt64)))] :: bw u9) := hD
      refine lv_goto (tgt := 23) hx hb dL_replace_12 (by decide) ?_
      refine jv_iconst hx hb dL_replace_23 ?_
      exact cret_i9 (bw := fun u : S ⊕ String => u.elim (fun u => [(o, jl G 1 (up fo 0 ((jz (val u)).toInt64)))] :: bw u) (fun _ => [(o, jl G 1 fo)] :: bs)) hx hb hr hlocks (Sum.inl u9) hS hP hD (Nat.le_of_eq (Nat.zero_add _)) (Nat.le_of_eq (Nat.zero_add _)) rfl dL_replace_24 hp9 rfl hQ
  exact KH s.heap [] hP hD hS
def kL_setAlphabet (E : String) : Int := if E = "java/lang/IllegalArgumentException" then 1 else if E = "java/lang/IllegalStateException" then 2 else 0
set_option maxHeartbeats 4000000 in
set_option maxRecDepth 100000 in
theorem wL_setAlphabet {S : Type} (l : Launch) (hl0 : l.stackTraces = false) (G : GG) (x o : Nat) (z : Int) (fo : Int → Int64) (rm : Room) (bs : List va_W) (val : S → Int) (post : S → Prop) (bw : S → List va_W) (pE : String → Prop) (k0 : Nat) {fs : List Value} (he : bs.flatten[k0]? = some (x, .inr (8, fs))) (hpE : ∀ E : String, pE E → E = "java/lang/IllegalArgumentException" ∨ E = "java/lang/IllegalStateException") (hM : Xt l yX8_setAlphabet cX8_setAlphabet 3 (some .int) rm G [.ref x, .int (jz z)] bs (fun u : S => some (.int (jz (val u)))) post bw pE) : XtH l yL_setAlphabet cL_setAlphabet 4 (some .int) [(0, 9, 12, 13), (0, 9, 15, 21)] (rmW rm 3) G [.ref x, .int (jz z), .ref o] ([(o, jl G 1 fo)] :: bs) (fun u : S ⊕ String => some (.int (jz (u.elim (fun _ => 0) kL_setAlphabet)))) (fun u => u.elim post pE) (fun u => u.elim (fun u => [(o, jl G 1 (up fo 0 ((jz (val u)).toInt64)))] :: bw u) (fun _ => [(o, jl G 1 fo)] :: bs)) := by
  refine xhof (by decide) (Nat.le_of_ble_eq_true rfl) ?_
  intro p e s m args below meth c A ls hx hb hr hml hown hts hlocks hin hA hK hP hD hS hl hX htab Q hQ
  have hown : s.vm.findClass RL = some m.cls := hown
  have hl : lv_has ls 4 [(0, .ref x), (1, .int (jz z)), (2, .ref o)] := hl
  have KH : ∀ (H : Heap) (locs : List Loc), wP G ([(o, jl G 1 fo)] :: bs) H → wD A ([(o, jl G 1 fo)] :: bs) → va_S A s.heap H locs → W p l e (rmW rm 3) s m args below meth c H locs 0 0 Q (F0 m 0 ls []) := by
    intro H locs hP hD hS
    refine lv_aload_n hx hb dL_setAlphabet_0 rfl (lv_at hl 2 rfl) ?_
    refine jv_iconst hx hb dL_setAlphabet_1 ?_
    refine lv_aload_n hx hb dL_setAlphabet_2 rfl (lv_at hl 0 rfl) ?_
    refine lv_iload_n hx hb dL_setAlphabet_3 rfl (lv_at hl 1 rfl) ?_
    refine xkV ⟨hx, hb, hml, hown, hts⟩ hK hA hS hP hD [.int (jz z)] [.int (jz 0), .ref o] hM lkL_30 (List.range' 1 bs.length) [0] (br := [[(o, jl G 1 fo)]]) (ix_c _ bs) rfl (ix_n _) k0 8 he rfl rfl rfl (Nat.le_of_ble_eq_true rfl) hl.1 dL_setAlphabet_4 ⟨Nat.le_refl _, Nat.le_refl _⟩ ⟨Nat.le_of_eq (Nat.zero_add _), Nat.le_of_eq (Nat.zero_add _)⟩ hX (fun E ce q9 H locs hE hP hD hS hce hcv hcl => ?_) (fun u9 H locs hp9 hP hD hS => ?_)
    · have hP : wP G ([(o, jl G 1 fo)] :: bs) H := hP
      have hD : wD A ([(o, jl G 1 fo)] :: bs) := hD
      rcases hpE E hE with rfl | rfl
      · refine vx_catch hown [] (⟨0, 9, 12, 13⟩ : ExceptionTableEntry) [(⟨0, 9, 15, 21⟩ : ExceptionTableEntry)] (htab.trans rfl) (fun z hz => absurd hz List.not_mem_nil) (by decide) (by decide) (hts _ wm562) (va_Nw.use rfl (hK.2.1 _ wb582)) hce hcv hcl ?_
        show W p l e (rmW rm 3) s m args below meth c H locs (0 + rm.cells) (0 + rm.slots) Q (F0 m 12 ls [.ref q9])
        refine lv_astore_n (lv' := [(3, .ref q9), (0, .ref x), (1, .int (jz z)), (2, .ref o)]) hx hb dL_setAlphabet_12 rfl hl (by decide) rfl (fun ls hl => ?_)
        refine jv_iconst hx hb dL_setAlphabet_13 ?_
        exact cret_i9 (bw := fun u : S ⊕ String => u.elim (fun u => [(o, jl G 1 (up fo 0 ((jz (val u)).toInt64)))] :: bw u) (fun _ => [(o, jl G 1 fo)] :: bs)) hx hb hr hlocks (Sum.inr "java/lang/IllegalArgumentException") hS hP hD (Nat.le_of_eq (Nat.zero_add _)) (Nat.le_of_eq (Nat.zero_add _)) rfl dL_setAlphabet_14 hE (congrArg (fun z : Int => some (Value.int (jz z))) (show (1 : Int) = kL_setAlphabet "java/lang/IllegalArgumentException" from by decide +kernel)) hQ
      · refine vx_catch hown [(⟨0, 9, 12, 13⟩ : ExceptionTableEntry)] (⟨0, 9, 15, 21⟩ : ExceptionTableEntry) [] (htab.trans rfl) (fun z hz => by
            simp only [List.mem_cons, List.not_mem_nil, or_false] at hz
            subst hz
            exact Or.inr ⟨by decide, "java/lang/IllegalArgumentException", hts _ wm562, hK.2.2.2.2.1 ("java/lang/IllegalStateException", "java/lang/IllegalArgumentException") (by decide +kernel)⟩) (by decide) (by decide) (hts _ wm608) (va_Nw.use rfl (hK.2.1 _ wb621)) hce hcv hcl ?_
        show W p l e (rmW rm 3) s m args below meth c H locs (0 + rm.cells) (0 + rm.slots) Q (F0 m 15 ls [.ref q9])
        refine lv_astore_n (lv' := [(3, .ref q9), (0, .ref x), (1, .int (jz z)), (2, .ref o)]) hx hb dL_setAlphabet_15 rfl hl (by decide) rfl (fun ls hl => ?_)
        refine jv_iconst hx hb dL_setAlphabet_16 ?_
        exact cret_i9 (bw := fun u : S ⊕ String => u.elim (fun u => [(o, jl G 1 (up fo 0 ((jz (val u)).toInt64)))] :: bw u) (fun _ => [(o, jl G 1 fo)] :: bs)) hx hb hr hlocks (Sum.inr "java/lang/IllegalStateException") hS hP hD (Nat.le_of_eq (Nat.zero_add _)) (Nat.le_of_eq (Nat.zero_add _)) rfl dL_setAlphabet_17 hE (congrArg (fun z : Int => some (Value.int (jz z))) (show (2 : Int) = kL_setAlphabet "java/lang/IllegalStateException" from by decide +kernel)) hQ
    · show W p l e (rmW rm 3) s m args below meth c H locs (0 + rm.cells) (0 + rm.slots) Q (F0 m 7 ls [.int (jz (val u9)), .int (jz 0), .ref o])
      have hP : wP G ([(o, jl G 1 fo)] :: bw u9) H := hP
      have hD : wD A ([(o, jl G 1 fo)] :: bw u9) := hD
      refine lv_i2l (v := (jz (val u9)).toInt64) hx hb dL_setAlphabet_7 rfl ?_
      refine jv_last hx hb hK.1 hP hD hS 0 (g := fo) rfl (by omega) (by omega) (by decide) dL_setAlphabet_8 (fun H locs hP hD hS => ?_)
      have hP : wP G ([(o, jl G 1 (up fo 0 ((jz (val u9)).toInt64)))] :: bw u9) H := hP
      have hD : wD A ([(o, jl G 1 (up fo 0 ((jz (val u9)).toInt64)))] :: bw u9) := hD
      refine lv_goto (tgt := 18) hx hb dL_setAlphabet_9 (by decide) ?_
      refine jv_iconst hx hb dL_setAlphabet_18 ?_
      exact cret_i9 (bw := fun u : S ⊕ String => u.elim (fun u => [(o, jl G 1 (up fo 0 ((jz (val u)).toInt64)))] :: bw u) (fun _ => [(o, jl G 1 fo)] :: bs)) hx hb hr hlocks (Sum.inl u9) hS hP hD (Nat.le_of_eq (Nat.zero_add _)) (Nat.le_of_eq (Nat.zero_add _)) rfl dL_setAlphabet_19 hp9 rfl hQ
  exact KH s.heap [] hP hD hS
def kL_length (E : String) : Int := if E = "java/lang/IndexOutOfBoundsException" then 1 else 0
set_option maxHeartbeats 4000000 in
set_option maxRecDepth 100000 in
theorem wL_length {S : Type} (l : Launch) (hl0 : l.stackTraces = false) (G : GG) (x o : Nat) (z : Int) (fo : Int → Int64) (rm : Room) (bs : List va_W) (val : S → Int) (post : S → Prop) (bw : S → List va_W) (pE : String → Prop) (k0 : Nat) {fs : List Value} (he : bs.flatten[k0]? = some (x, .inr (8, fs))) (hpE : ∀ E : String, pE E → E = "java/lang/IndexOutOfBoundsException") (hM : Xt l yX8_length cX8_length 2 (some .int) rm G [.ref x, .int (jz z)] bs (fun u : S => some (.int (jz (val u)))) post bw pE) : XtH l yL_length cL_length 4 (some .int) [(0, 9, 12, 19)] (rmW rm 2) G [.ref x, .int (jz z), .ref o] ([(o, jl G 1 fo)] :: bs) (fun u : S ⊕ String => some (.int (jz (u.elim (fun _ => 0) kL_length)))) (fun u => u.elim post pE) (fun u => u.elim (fun u => [(o, jl G 1 (up fo 0 ((jz (val u)).toInt64)))] :: bw u) (fun _ => [(o, jl G 1 fo)] :: bs)) := by
  refine xhof (by decide) (Nat.le_of_ble_eq_true rfl) ?_
  intro p e s m args below meth c A ls hx hb hr hml hown hts hlocks hin hA hK hP hD hS hl hX htab Q hQ
  have hown : s.vm.findClass RL = some m.cls := hown
  have hl : lv_has ls 4 [(0, .ref x), (1, .int (jz z)), (2, .ref o)] := hl
  have KH : ∀ (H : Heap) (locs : List Loc), wP G ([(o, jl G 1 fo)] :: bs) H → wD A ([(o, jl G 1 fo)] :: bs) → va_S A s.heap H locs → W p l e (rmW rm 2) s m args below meth c H locs 0 0 Q (F0 m 0 ls []) := by
    intro H locs hP hD hS
    refine lv_aload_n hx hb dL_length_0 rfl (lv_at hl 2 rfl) ?_
    refine jv_iconst hx hb dL_length_1 ?_
    refine lv_aload_n hx hb dL_length_2 rfl (lv_at hl 0 rfl) ?_
    refine lv_iload_n hx hb dL_length_3 rfl (lv_at hl 1 rfl) ?_
    refine xkV ⟨hx, hb, hml, hown, hts⟩ hK hA hS hP hD [.int (jz z)] [.int (jz 0), .ref o] hM lkL_34 (List.range' 1 bs.length) [0] (br := [[(o, jl G 1 fo)]]) (ix_c _ bs) rfl (ix_n _) k0 8 he rfl rfl rfl (Nat.le_of_ble_eq_true rfl) hl.1 dL_length_4 ⟨Nat.le_refl _, Nat.le_refl _⟩ ⟨Nat.le_of_eq (Nat.zero_add _), Nat.le_of_eq (Nat.zero_add _)⟩ hX (fun E ce q9 H locs hE hP hD hS hce hcv hcl => ?_) (fun u9 H locs hp9 hP hD hS => ?_)
    · have hP : wP G ([(o, jl G 1 fo)] :: bs) H := hP
      have hD : wD A ([(o, jl G 1 fo)] :: bs) := hD
      have hE1 := hpE E hE
      subst hE1
      refine vx_catch hown [] (⟨0, 9, 12, 19⟩ : ExceptionTableEntry) [] (htab.trans rfl) (fun z hz => absurd hz List.not_mem_nil) (by decide) (by decide) (hts _ wm607) (va_Nw.use rfl (hK.2.1 _ wb470)) hce hcv hcl ?_
      show W p l e (rmW rm 2) s m args below meth c H locs (0 + rm.cells) (0 + rm.slots) Q (F0 m 12 ls [.ref q9])
      refine lv_astore_n (lv' := [(3, .ref q9), (0, .ref x), (1, .int (jz z)), (2, .ref o)]) hx hb dL_length_12 rfl hl (by decide) rfl (fun ls hl => ?_)
      refine jv_iconst hx hb dL_length_13 ?_
      exact cret_i9 (bw := fun u : S ⊕ String => u.elim (fun u => [(o, jl G 1 (up fo 0 ((jz (val u)).toInt64)))] :: bw u) (fun _ => [(o, jl G 1 fo)] :: bs)) hx hb hr hlocks (Sum.inr "java/lang/IndexOutOfBoundsException") hS hP hD (Nat.le_of_eq (Nat.zero_add _)) (Nat.le_of_eq (Nat.zero_add _)) rfl dL_length_14 hE (congrArg (fun z : Int => some (Value.int (jz z))) (show (1 : Int) = kL_length "java/lang/IndexOutOfBoundsException" from by decide +kernel)) hQ
    · show W p l e (rmW rm 2) s m args below meth c H locs (0 + rm.cells) (0 + rm.slots) Q (F0 m 7 ls [.int (jz (val u9)), .int (jz 0), .ref o])
      have hP : wP G ([(o, jl G 1 fo)] :: bw u9) H := hP
      have hD : wD A ([(o, jl G 1 fo)] :: bw u9) := hD
      refine lv_i2l (v := (jz (val u9)).toInt64) hx hb dL_length_7 rfl ?_
      refine jv_last hx hb hK.1 hP hD hS 0 (g := fo) rfl (by omega) (by omega) (by decide) dL_length_8 (fun H locs hP hD hS => ?_)
      have hP : wP G ([(o, jl G 1 (up fo 0 ((jz (val u9)).toInt64)))] :: bw u9) H := hP
      have hD : wD A ([(o, jl G 1 (up fo 0 ((jz (val u9)).toInt64)))] :: bw u9) := hD
      refine lv_goto (tgt := 15) hx hb dL_length_9 (by decide) ?_
      refine jv_iconst hx hb dL_length_15 ?_
      exact cret_i9 (bw := fun u : S ⊕ String => u.elim (fun u => [(o, jl G 1 (up fo 0 ((jz (val u)).toInt64)))] :: bw u) (fun _ => [(o, jl G 1 fo)] :: bs)) hx hb hr hlocks (Sum.inl u9) hS hP hD (Nat.le_of_eq (Nat.zero_add _)) (Nat.le_of_eq (Nat.zero_add _)) rfl dL_length_16 hp9 rfl hQ
  exact KH s.heap [] hP hD hS
def kL_letter (E : String) : Int := if E = "java/lang/IndexOutOfBoundsException" then 1 else 0
set_option maxHeartbeats 4000000 in
set_option maxRecDepth 100000 in
theorem wL_letter {S : Type} (l : Launch) (hl0 : l.stackTraces = false) (G : GG) (x o : Nat) (z : Int) (i : Int) (fo : Int → Int64) (rm : Room) (bs : List va_W) (val : S → Int) (post : S → Prop) (bw : S → List va_W) (pE : String → Prop) (k0 : Nat) {fs : List Value} (he : bs.flatten[k0]? = some (x, .inr (8, fs))) (hpE : ∀ E : String, pE E → E = "java/lang/IndexOutOfBoundsException") (hM : Xt l yX8_letter cX8_letter 4 (some .int) rm G [.ref x, .int (jz z), .int (jz i)] bs (fun u : S => some (.int (jz (val u)))) post bw pE) : XtH l yL_letter cL_letter 5 (some .int) [(0, 10, 13, 19)] (rmW rm 4) G [.ref x, .int (jz z), .int (jz i), .ref o] ([(o, jl G 1 fo)] :: bs) (fun u : S ⊕ String => some (.int (jz (u.elim (fun _ => 0) kL_letter)))) (fun u => u.elim post pE) (fun u => u.elim (fun u => [(o, jl G 1 (up fo 0 ((jz (val u)).toInt64)))] :: bw u) (fun _ => [(o, jl G 1 fo)] :: bs)) := by
  refine xhof (by decide) (Nat.le_of_ble_eq_true rfl) ?_
  intro p e s m args below meth c A ls hx hb hr hml hown hts hlocks hin hA hK hP hD hS hl hX htab Q hQ
  have hown : s.vm.findClass RL = some m.cls := hown
  have hl : lv_has ls 5 [(0, .ref x), (1, .int (jz z)), (2, .int (jz i)), (3, .ref o)] := hl
  have KH : ∀ (H : Heap) (locs : List Loc), wP G ([(o, jl G 1 fo)] :: bs) H → wD A ([(o, jl G 1 fo)] :: bs) → va_S A s.heap H locs → W p l e (rmW rm 4) s m args below meth c H locs 0 0 Q (F0 m 0 ls []) := by
    intro H locs hP hD hS
    refine lv_aload_n hx hb dL_letter_0 rfl (lv_at hl 3 rfl) ?_
    refine jv_iconst hx hb dL_letter_1 ?_
    refine lv_aload_n hx hb dL_letter_2 rfl (lv_at hl 0 rfl) ?_
    refine lv_iload_n hx hb dL_letter_3 rfl (lv_at hl 1 rfl) ?_
    refine lv_iload_n hx hb dL_letter_4 rfl (lv_at hl 2 rfl) ?_
    refine xkV ⟨hx, hb, hml, hown, hts⟩ hK hA hS hP hD [.int (jz z), .int (jz i)] [.int (jz 0), .ref o] hM lkL_37 (List.range' 1 bs.length) [0] (br := [[(o, jl G 1 fo)]]) (ix_c _ bs) rfl (ix_n _) k0 8 he rfl rfl rfl (Nat.le_of_ble_eq_true rfl) hl.1 dL_letter_5 ⟨Nat.le_refl _, Nat.le_refl _⟩ ⟨Nat.le_of_eq (Nat.zero_add _), Nat.le_of_eq (Nat.zero_add _)⟩ hX (fun E ce q9 H locs hE hP hD hS hce hcv hcl => ?_) (fun u9 H locs hp9 hP hD hS => ?_)
    · have hP : wP G ([(o, jl G 1 fo)] :: bs) H := hP
      have hD : wD A ([(o, jl G 1 fo)] :: bs) := hD
      have hE1 := hpE E hE
      subst hE1
      refine vx_catch hown [] (⟨0, 10, 13, 19⟩ : ExceptionTableEntry) [] (htab.trans rfl) (fun z hz => absurd hz List.not_mem_nil) (by decide) (by decide) (hts _ wm607) (va_Nw.use rfl (hK.2.1 _ wb470)) hce hcv hcl ?_
      show W p l e (rmW rm 4) s m args below meth c H locs (0 + rm.cells) (0 + rm.slots) Q (F0 m 13 ls [.ref q9])
      refine lv_astore (lv' := [(4, .ref q9), (0, .ref x), (1, .int (jz z)), (2, .int (jz i)), (3, .ref o)]) hx hb dL_letter_13 hl (by decide) rfl (fun ls hl => ?_)
      refine jv_iconst hx hb dL_letter_15 ?_
      exact cret_i9 (bw := fun u : S ⊕ String => u.elim (fun u => [(o, jl G 1 (up fo 0 ((jz (val u)).toInt64)))] :: bw u) (fun _ => [(o, jl G 1 fo)] :: bs)) hx hb hr hlocks (Sum.inr "java/lang/IndexOutOfBoundsException") hS hP hD (Nat.le_of_eq (Nat.zero_add _)) (Nat.le_of_eq (Nat.zero_add _)) rfl dL_letter_16 hE (congrArg (fun z : Int => some (Value.int (jz z))) (show (1 : Int) = kL_letter "java/lang/IndexOutOfBoundsException" from by decide +kernel)) hQ
    · show W p l e (rmW rm 4) s m args below meth c H locs (0 + rm.cells) (0 + rm.slots) Q (F0 m 8 ls [.int (jz (val u9)), .int (jz 0), .ref o])
      have hP : wP G ([(o, jl G 1 fo)] :: bw u9) H := hP
      have hD : wD A ([(o, jl G 1 fo)] :: bw u9) := hD
      refine lv_i2l (v := (jz (val u9)).toInt64) hx hb dL_letter_8 rfl ?_
      refine jv_last hx hb hK.1 hP hD hS 0 (g := fo) rfl (by omega) (by omega) (by decide) dL_letter_9 (fun H locs hP hD hS => ?_)
      have hP : wP G ([(o, jl G 1 (up fo 0 ((jz (val u9)).toInt64)))] :: bw u9) H := hP
      have hD : wD A ([(o, jl G 1 (up fo 0 ((jz (val u9)).toInt64)))] :: bw u9) := hD
      refine lv_goto (tgt := 17) hx hb dL_letter_10 (by decide) ?_
      refine jv_iconst hx hb dL_letter_17 ?_
      exact cret_i9 (bw := fun u : S ⊕ String => u.elim (fun u => [(o, jl G 1 (up fo 0 ((jz (val u)).toInt64)))] :: bw u) (fun _ => [(o, jl G 1 fo)] :: bs)) hx hb hr hlocks (Sum.inl u9) hS hP hD (Nat.le_of_eq (Nat.zero_add _)) (Nat.le_of_eq (Nat.zero_add _)) rfl dL_letter_18 hp9 rfl hQ
  exact KH s.heap [] hP hD hS
def kL_prefix (E : String) : Int := if E = "java/lang/IndexOutOfBoundsException" then 1 else 0
set_option maxHeartbeats 4000000 in
set_option maxRecDepth 100000 in
theorem wL_prefix {S : Type} (l : Launch) (hl0 : l.stackTraces = false) (G : GG) (x o : Nat) (z : Int) (i : Int) (fo : Int → Int64) (rm : Room) (bs : List va_W) (val : S → Int) (post : S → Prop) (bw : S → List va_W) (pE : String → Prop) (k0 : Nat) {fs : List Value} (he : bs.flatten[k0]? = some (x, .inr (8, fs))) (hpE : ∀ E : String, pE E → E = "java/lang/IndexOutOfBoundsException") (hM : Xt l yX8_prefix cX8_prefix 3 (some .int) rm G [.ref x, .int (jz z), .int (jz i)] bs (fun u : S => some (.int (jz (val u)))) post bw pE) : XtH l yL_prefix cL_prefix 5 (some .int) [(0, 10, 13, 19)] (rmW rm 3) G [.ref x, .int (jz z), .int (jz i), .ref o] ([(o, jl G 1 fo)] :: bs) (fun u : S ⊕ String => some (.int (jz (u.elim (fun _ => 0) kL_prefix)))) (fun u => u.elim post pE) (fun u => u.elim (fun u => [(o, jl G 1 (up fo 0 ((jz (val u)).toInt64)))] :: bw u) (fun _ => [(o, jl G 1 fo)] :: bs)) := by
  refine xhof (by decide) (Nat.le_of_ble_eq_true rfl) ?_
  intro p e s m args below meth c A ls hx hb hr hml hown hts hlocks hin hA hK hP hD hS hl hX htab Q hQ
  have hown : s.vm.findClass RL = some m.cls := hown
  have hl : lv_has ls 5 [(0, .ref x), (1, .int (jz z)), (2, .int (jz i)), (3, .ref o)] := hl
  have KH : ∀ (H : Heap) (locs : List Loc), wP G ([(o, jl G 1 fo)] :: bs) H → wD A ([(o, jl G 1 fo)] :: bs) → va_S A s.heap H locs → W p l e (rmW rm 3) s m args below meth c H locs 0 0 Q (F0 m 0 ls []) := by
    intro H locs hP hD hS
    refine lv_aload_n hx hb dL_prefix_0 rfl (lv_at hl 3 rfl) ?_
    refine jv_iconst hx hb dL_prefix_1 ?_
    refine lv_aload_n hx hb dL_prefix_2 rfl (lv_at hl 0 rfl) ?_
    refine lv_iload_n hx hb dL_prefix_3 rfl (lv_at hl 1 rfl) ?_
    refine lv_iload_n hx hb dL_prefix_4 rfl (lv_at hl 2 rfl) ?_
    refine xkV ⟨hx, hb, hml, hown, hts⟩ hK hA hS hP hD [.int (jz z), .int (jz i)] [.int (jz 0), .ref o] hM lkL_40 (List.range' 1 bs.length) [0] (br := [[(o, jl G 1 fo)]]) (ix_c _ bs) rfl (ix_n _) k0 8 he rfl rfl rfl (Nat.le_of_ble_eq_true rfl) hl.1 dL_prefix_5 ⟨Nat.le_refl _, Nat.le_refl _⟩ ⟨Nat.le_of_eq (Nat.zero_add _), Nat.le_of_eq (Nat.zero_add _)⟩ hX (fun E ce q9 H locs hE hP hD hS hce hcv hcl => ?_) (fun u9 H locs hp9 hP hD hS => ?_)
    · have hP : wP G ([(o, jl G 1 fo)] :: bs) H := hP
      have hD : wD A ([(o, jl G 1 fo)] :: bs) := hD
      have hE1 := hpE E hE
      subst hE1
      refine vx_catch hown [] (⟨0, 10, 13, 19⟩ : ExceptionTableEntry) [] (htab.trans rfl) (fun z hz => absurd hz List.not_mem_nil) (by decide) (by decide) (hts _ wm607) (va_Nw.use rfl (hK.2.1 _ wb470)) hce hcv hcl ?_
      show W p l e (rmW rm 3) s m args below meth c H locs (0 + rm.cells) (0 + rm.slots) Q (F0 m 13 ls [.ref q9])
      refine lv_astore (lv' := [(4, .ref q9), (0, .ref x), (1, .int (jz z)), (2, .int (jz i)), (3, .ref o)]) hx hb dL_prefix_13 hl (by decide) rfl (fun ls hl => ?_)
      refine jv_iconst hx hb dL_prefix_15 ?_
      exact cret_i9 (bw := fun u : S ⊕ String => u.elim (fun u => [(o, jl G 1 (up fo 0 ((jz (val u)).toInt64)))] :: bw u) (fun _ => [(o, jl G 1 fo)] :: bs)) hx hb hr hlocks (Sum.inr "java/lang/IndexOutOfBoundsException") hS hP hD (Nat.le_of_eq (Nat.zero_add _)) (Nat.le_of_eq (Nat.zero_add _)) rfl dL_prefix_16 hE (congrArg (fun z : Int => some (Value.int (jz z))) (show (1 : Int) = kL_prefix "java/lang/IndexOutOfBoundsException" from by decide +kernel)) hQ
    · show W p l e (rmW rm 3) s m args below meth c H locs (0 + rm.cells) (0 + rm.slots) Q (F0 m 8 ls [.int (jz (val u9)), .int (jz 0), .ref o])
      have hP : wP G ([(o, jl G 1 fo)] :: bw u9) H := hP
      have hD : wD A ([(o, jl G 1 fo)] :: bw u9) := hD
      refine lv_i2l (v := (jz (val u9)).toInt64) hx hb dL_prefix_8 rfl ?_
      refine jv_last hx hb hK.1 hP hD hS 0 (g := fo) rfl (by omega) (by omega) (by decide) dL_prefix_9 (fun H locs hP hD hS => ?_)
      have hP : wP G ([(o, jl G 1 (up fo 0 ((jz (val u9)).toInt64)))] :: bw u9) H := hP
      have hD : wD A ([(o, jl G 1 (up fo 0 ((jz (val u9)).toInt64)))] :: bw u9) := hD
      refine lv_goto (tgt := 17) hx hb dL_prefix_10 (by decide) ?_
      refine jv_iconst hx hb dL_prefix_17 ?_
      exact cret_i9 (bw := fun u : S ⊕ String => u.elim (fun u => [(o, jl G 1 (up fo 0 ((jz (val u)).toInt64)))] :: bw u) (fun _ => [(o, jl G 1 fo)] :: bs)) hx hb hr hlocks (Sum.inl u9) hS hP hD (Nat.le_of_eq (Nat.zero_add _)) (Nat.le_of_eq (Nat.zero_add _)) rfl dL_prefix_18 hp9 rfl hQ
  exact KH s.heap [] hP hD hS
def kL_step (E : String) : Int := if E = "java/lang/IndexOutOfBoundsException" then 1 else 0
set_option maxHeartbeats 4000000 in
set_option maxRecDepth 100000 in
theorem wL_step {S : Type} (l : Launch) (hl0 : l.stackTraces = false) (G : GG) (x o : Nat) (z : Int) (fo : Int → Int64) (rm : Room) (bs : List va_W) (val : S → Int) (post : S → Prop) (bw : S → List va_W) (pE : String → Prop) (k0 : Nat) {fs : List Value} (he : bs.flatten[k0]? = some (x, .inr (8, fs))) (hpE : ∀ E : String, pE E → E = "java/lang/IndexOutOfBoundsException") (hM : Xt l yX8_step cX8_step 2 (some .int) rm G [.ref x, .int (jz z)] bs (fun u : S => some (.int (jz (val u)))) post bw pE) : XtH l yL_step cL_step 4 (some .int) [(0, 9, 12, 19)] (rmW rm 2) G [.ref x, .int (jz z), .ref o] ([(o, jl G 1 fo)] :: bs) (fun u : S ⊕ String => some (.int (jz (u.elim (fun _ => 0) kL_step)))) (fun u => u.elim post pE) (fun u => u.elim (fun u => [(o, jl G 1 (up fo 0 ((jz (val u)).toInt64)))] :: bw u) (fun _ => [(o, jl G 1 fo)] :: bs)) := by
  refine xhof (by decide) (Nat.le_of_ble_eq_true rfl) ?_
  intro p e s m args below meth c A ls hx hb hr hml hown hts hlocks hin hA hK hP hD hS hl hX htab Q hQ
  have hown : s.vm.findClass RL = some m.cls := hown
  have hl : lv_has ls 4 [(0, .ref x), (1, .int (jz z)), (2, .ref o)] := hl
  have KH : ∀ (H : Heap) (locs : List Loc), wP G ([(o, jl G 1 fo)] :: bs) H → wD A ([(o, jl G 1 fo)] :: bs) → va_S A s.heap H locs → W p l e (rmW rm 2) s m args below meth c H locs 0 0 Q (F0 m 0 ls []) := by
    intro H locs hP hD hS
    refine lv_aload_n hx hb dL_step_0 rfl (lv_at hl 2 rfl) ?_
    refine jv_iconst hx hb dL_step_1 ?_
    refine lv_aload_n hx hb dL_step_2 rfl (lv_at hl 0 rfl) ?_
    refine lv_iload_n hx hb dL_step_3 rfl (lv_at hl 1 rfl) ?_
    refine xkV ⟨hx, hb, hml, hown, hts⟩ hK hA hS hP hD [.int (jz z)] [.int (jz 0), .ref o] hM lkL_43 (List.range' 1 bs.length) [0] (br := [[(o, jl G 1 fo)]]) (ix_c _ bs) rfl (ix_n _) k0 8 he rfl rfl rfl (Nat.le_of_ble_eq_true rfl) hl.1 dL_step_4 ⟨Nat.le_refl _, Nat.le_refl _⟩ ⟨Nat.le_of_eq (Nat.zero_add _), Nat.le_of_eq (Nat.zero_add _)⟩ hX (fun E ce q9 H locs hE hP hD hS hce hcv hcl => ?_) (fun u9 H locs hp9 hP hD hS => ?_)
    · have hP : wP G ([(o, jl G 1 fo)] :: bs) H := hP
      have hD : wD A ([(o, jl G 1 fo)] :: bs) := hD
      have hE1 := hpE E hE
      subst hE1
      refine vx_catch hown [] (⟨0, 9, 12, 19⟩ : ExceptionTableEntry) [] (htab.trans rfl) (fun z hz => absurd hz List.not_mem_nil) (by decide) (by decide) (hts _ wm607) (va_Nw.use rfl (hK.2.1 _ wb470)) hce hcv hcl ?_
      show W p l e (rmW rm 2) s m args below meth c H locs (0 + rm.cells) (0 + rm.slots) Q (F0 m 12 ls [.ref q9])
      refine lv_astore_n (lv' := [(3, .ref q9), (0, .ref x), (1, .int (jz z)), (2, .ref o)]) hx hb dL_step_12 rfl hl (by decide) rfl (fun ls hl => ?_)
      refine jv_iconst hx hb dL_step_13 ?_
      exact cret_i9 (bw := fun u : S ⊕ String => u.elim (fun u => [(o, jl G 1 (up fo 0 ((jz (val u)).toInt64)))] :: bw u) (fun _ => [(o, jl G 1 fo)] :: bs)) hx hb hr hlocks (Sum.inr "java/lang/IndexOutOfBoundsException") hS hP hD (Nat.le_of_eq (Nat.zero_add _)) (Nat.le_of_eq (Nat.zero_add _)) rfl dL_step_14 hE (congrArg (fun z : Int => some (Value.int (jz z))) (show (1 : Int) = kL_step "java/lang/IndexOutOfBoundsException" from by decide +kernel)) hQ
    · show W p l e (rmW rm 2) s m args below meth c H locs (0 + rm.cells) (0 + rm.slots) Q (F0 m 7 ls [.int (jz (val u9)), .int (jz 0), .ref o])
      have hP : wP G ([(o, jl G 1 fo)] :: bw u9) H := hP
      have hD : wD A ([(o, jl G 1 fo)] :: bw u9) := hD
      refine lv_i2l (v := (jz (val u9)).toInt64) hx hb dL_step_7 rfl ?_
      refine jv_last hx hb hK.1 hP hD hS 0 (g := fo) rfl (by omega) (by omega) (by decide) dL_step_8 (fun H locs hP hD hS => ?_)
      have hP : wP G ([(o, jl G 1 (up fo 0 ((jz (val u9)).toInt64)))] :: bw u9) H := hP
      have hD : wD A ([(o, jl G 1 (up fo 0 ((jz (val u9)).toInt64)))] :: bw u9) := hD
      refine lv_goto (tgt := 15) hx hb dL_step_9 (by decide) ?_
      refine jv_iconst hx hb dL_step_15 ?_
      exact cret_i9 (bw := fun u : S ⊕ String => u.elim (fun u => [(o, jl G 1 (up fo 0 ((jz (val u)).toInt64)))] :: bw u) (fun _ => [(o, jl G 1 fo)] :: bs)) hx hb hr hlocks (Sum.inl u9) hS hP hD (Nat.le_of_eq (Nat.zero_add _)) (Nat.le_of_eq (Nat.zero_add _)) rfl dL_step_16 hp9 rfl hQ
  exact KH s.heap [] hP hD hS
def kL_count (E : String) : Int := if E = "java/lang/IndexOutOfBoundsException" then 1 else 0
set_option maxHeartbeats 4000000 in
set_option maxRecDepth 100000 in
theorem wL_count {S : Type} (l : Launch) (hl0 : l.stackTraces = false) (G : GG) (x o : Nat) (z : Int) (fo : Int → Int64) (rm : Room) (bs : List va_W) (val : S → Int) (post : S → Prop) (bw : S → List va_W) (pE : String → Prop) (k0 : Nat) {fs : List Value} (he : bs.flatten[k0]? = some (x, .inr (8, fs))) (hpE : ∀ E : String, pE E → E = "java/lang/IndexOutOfBoundsException") (hM : Xt l yX8_count cX8_count 2 (some .int) rm G [.ref x, .int (jz z)] bs (fun u : S => some (.int (jz (val u)))) post bw pE) : XtH l yL_count cL_count 4 (some .int) [(0, 9, 12, 19)] (rmW rm 2) G [.ref x, .int (jz z), .ref o] ([(o, jl G 1 fo)] :: bs) (fun u : S ⊕ String => some (.int (jz (u.elim (fun _ => 0) kL_count)))) (fun u => u.elim post pE) (fun u => u.elim (fun u => [(o, jl G 1 (up fo 0 ((jz (val u)).toInt64)))] :: bw u) (fun _ => [(o, jl G 1 fo)] :: bs)) := by
  refine xhof (by decide) (Nat.le_of_ble_eq_true rfl) ?_
  intro p e s m args below meth c A ls hx hb hr hml hown hts hlocks hin hA hK hP hD hS hl hX htab Q hQ
  have hown : s.vm.findClass RL = some m.cls := hown
  have hl : lv_has ls 4 [(0, .ref x), (1, .int (jz z)), (2, .ref o)] := hl
  have KH : ∀ (H : Heap) (locs : List Loc), wP G ([(o, jl G 1 fo)] :: bs) H → wD A ([(o, jl G 1 fo)] :: bs) → va_S A s.heap H locs → W p l e (rmW rm 2) s m args below meth c H locs 0 0 Q (F0 m 0 ls []) := by
    intro H locs hP hD hS
    refine lv_aload_n hx hb dL_count_0 rfl (lv_at hl 2 rfl) ?_
    refine jv_iconst hx hb dL_count_1 ?_
    refine lv_aload_n hx hb dL_count_2 rfl (lv_at hl 0 rfl) ?_
    refine lv_iload_n hx hb dL_count_3 rfl (lv_at hl 1 rfl) ?_
    refine xkV ⟨hx, hb, hml, hown, hts⟩ hK hA hS hP hD [.int (jz z)] [.int (jz 0), .ref o] hM lkL_46 (List.range' 1 bs.length) [0] (br := [[(o, jl G 1 fo)]]) (ix_c _ bs) rfl (ix_n _) k0 8 he rfl rfl rfl (Nat.le_of_ble_eq_true rfl) hl.1 dL_count_4 ⟨Nat.le_refl _, Nat.le_refl _⟩ ⟨Nat.le_of_eq (Nat.zero_add _), Nat.le_of_eq (Nat.zero_add _)⟩ hX (fun E ce q9 H locs hE hP hD hS hce hcv hcl => ?_) (fun u9 H locs hp9 hP hD hS => ?_)
    · have hP : wP G ([(o, jl G 1 fo)] :: bs) H := hP
      have hD : wD A ([(o, jl G 1 fo)] :: bs) := hD
      have hE1 := hpE E hE
      subst hE1
      refine vx_catch hown [] (⟨0, 9, 12, 19⟩ : ExceptionTableEntry) [] (htab.trans rfl) (fun z hz => absurd hz List.not_mem_nil) (by decide) (by decide) (hts _ wm607) (va_Nw.use rfl (hK.2.1 _ wb470)) hce hcv hcl ?_
      show W p l e (rmW rm 2) s m args below meth c H locs (0 + rm.cells) (0 + rm.slots) Q (F0 m 12 ls [.ref q9])
      refine lv_astore_n (lv' := [(3, .ref q9), (0, .ref x), (1, .int (jz z)), (2, .ref o)]) hx hb dL_count_12 rfl hl (by decide) rfl (fun ls hl => ?_)
      refine jv_iconst hx hb dL_count_13 ?_
      exact cret_i9 (bw := fun u : S ⊕ String => u.elim (fun u => [(o, jl G 1 (up fo 0 ((jz (val u)).toInt64)))] :: bw u) (fun _ => [(o, jl G 1 fo)] :: bs)) hx hb hr hlocks (Sum.inr "java/lang/IndexOutOfBoundsException") hS hP hD (Nat.le_of_eq (Nat.zero_add _)) (Nat.le_of_eq (Nat.zero_add _)) rfl dL_count_14 hE (congrArg (fun z : Int => some (Value.int (jz z))) (show (1 : Int) = kL_count "java/lang/IndexOutOfBoundsException" from by decide +kernel)) hQ
    · show W p l e (rmW rm 2) s m args below meth c H locs (0 + rm.cells) (0 + rm.slots) Q (F0 m 7 ls [.int (jz (val u9)), .int (jz 0), .ref o])
      have hP : wP G ([(o, jl G 1 fo)] :: bw u9) H := hP
      have hD : wD A ([(o, jl G 1 fo)] :: bw u9) := hD
      refine lv_i2l (v := (jz (val u9)).toInt64) hx hb dL_count_7 rfl ?_
      refine jv_last hx hb hK.1 hP hD hS 0 (g := fo) rfl (by omega) (by omega) (by decide) dL_count_8 (fun H locs hP hD hS => ?_)
      have hP : wP G ([(o, jl G 1 (up fo 0 ((jz (val u9)).toInt64)))] :: bw u9) H := hP
      have hD : wD A ([(o, jl G 1 (up fo 0 ((jz (val u9)).toInt64)))] :: bw u9) := hD
      refine lv_goto (tgt := 15) hx hb dL_count_9 (by decide) ?_
      refine jv_iconst hx hb dL_count_15 ?_
      exact cret_i9 (bw := fun u : S ⊕ String => u.elim (fun u => [(o, jl G 1 (up fo 0 ((jz (val u)).toInt64)))] :: bw u) (fun _ => [(o, jl G 1 fo)] :: bs)) hx hb hr hlocks (Sum.inl u9) hS hP hD (Nat.le_of_eq (Nat.zero_add _)) (Nat.le_of_eq (Nat.zero_add _)) rfl dL_count_16 hp9 rfl hQ
  exact KH s.heap [] hP hD hS
def kL_within (E : String) : Int := if E = "java/lang/IllegalArgumentException" then 1 else 0
set_option maxHeartbeats 4000000 in
set_option maxRecDepth 100000 in
theorem wL_within {S : Type} (l : Launch) (hl0 : l.stackTraces = false) (G : GG) (x o : Nat) (z : Int) (fo : Int → Int64) (rm : Room) (bs : List va_W) (val : S → Int) (post : S → Prop) (bw : S → List va_W) (pE : String → Prop) (k0 : Nat) {fs : List Value} (he : bs.flatten[k0]? = some (x, .inr (8, fs))) (hpE : ∀ E : String, pE E → E = "java/lang/IllegalArgumentException") (hM : Xt l yX8_within cX8_within 3 (some .int) rm G [.ref x, .int (jz z)] bs (fun u : S => some (.int (jz (val u)))) post bw pE) : XtH l yL_within cL_within 4 (some .int) [(0, 9, 12, 13)] (rmW rm 3) G [.ref x, .int (jz z), .ref o] ([(o, jl G 1 fo)] :: bs) (fun u : S ⊕ String => some (.int (jz (u.elim (fun _ => 0) kL_within)))) (fun u => u.elim post pE) (fun u => u.elim (fun u => [(o, jl G 1 (up fo 0 ((jz (val u)).toInt64)))] :: bw u) (fun _ => [(o, jl G 1 fo)] :: bs)) := by
  refine xhof (by decide) (Nat.le_of_ble_eq_true rfl) ?_
  intro p e s m args below meth c A ls hx hb hr hml hown hts hlocks hin hA hK hP hD hS hl hX htab Q hQ
  have hown : s.vm.findClass RL = some m.cls := hown
  have hl : lv_has ls 4 [(0, .ref x), (1, .int (jz z)), (2, .ref o)] := hl
  have KH : ∀ (H : Heap) (locs : List Loc), wP G ([(o, jl G 1 fo)] :: bs) H → wD A ([(o, jl G 1 fo)] :: bs) → va_S A s.heap H locs → W p l e (rmW rm 3) s m args below meth c H locs 0 0 Q (F0 m 0 ls []) := by
    intro H locs hP hD hS
    refine lv_aload_n hx hb dL_within_0 rfl (lv_at hl 2 rfl) ?_
    refine jv_iconst hx hb dL_within_1 ?_
    refine lv_aload_n hx hb dL_within_2 rfl (lv_at hl 0 rfl) ?_
    refine lv_iload_n hx hb dL_within_3 rfl (lv_at hl 1 rfl) ?_
    refine xkV ⟨hx, hb, hml, hown, hts⟩ hK hA hS hP hD [.int (jz z)] [.int (jz 0), .ref o] hM lkL_49 (List.range' 1 bs.length) [0] (br := [[(o, jl G 1 fo)]]) (ix_c _ bs) rfl (ix_n _) k0 8 he rfl rfl rfl (Nat.le_of_ble_eq_true rfl) hl.1 dL_within_4 ⟨Nat.le_refl _, Nat.le_refl _⟩ ⟨Nat.le_of_eq (Nat.zero_add _), Nat.le_of_eq (Nat.zero_add _)⟩ hX (fun E ce q9 H locs hE hP hD hS hce hcv hcl => ?_) (fun u9 H locs hp9 hP hD hS => ?_)
    · have hP : wP G ([(o, jl G 1 fo)] :: bs) H := hP
      have hD : wD A ([(o, jl G 1 fo)] :: bs) := hD
      have hE1 := hpE E hE
      subst hE1
      refine vx_catch hown [] (⟨0, 9, 12, 13⟩ : ExceptionTableEntry) [] (htab.trans rfl) (fun z hz => absurd hz List.not_mem_nil) (by decide) (by decide) (hts _ wm562) (va_Nw.use rfl (hK.2.1 _ wb582)) hce hcv hcl ?_
      show W p l e (rmW rm 3) s m args below meth c H locs (0 + rm.cells) (0 + rm.slots) Q (F0 m 12 ls [.ref q9])
      refine lv_astore_n (lv' := [(3, .ref q9), (0, .ref x), (1, .int (jz z)), (2, .ref o)]) hx hb dL_within_12 rfl hl (by decide) rfl (fun ls hl => ?_)
      refine jv_iconst hx hb dL_within_13 ?_
      exact cret_i9 (bw := fun u : S ⊕ String => u.elim (fun u => [(o, jl G 1 (up fo 0 ((jz (val u)).toInt64)))] :: bw u) (fun _ => [(o, jl G 1 fo)] :: bs)) hx hb hr hlocks (Sum.inr "java/lang/IllegalArgumentException") hS hP hD (Nat.le_of_eq (Nat.zero_add _)) (Nat.le_of_eq (Nat.zero_add _)) rfl dL_within_14 hE (congrArg (fun z : Int => some (Value.int (jz z))) (show (1 : Int) = kL_within "java/lang/IllegalArgumentException" from by decide +kernel)) hQ
    · show W p l e (rmW rm 3) s m args below meth c H locs (0 + rm.cells) (0 + rm.slots) Q (F0 m 7 ls [.int (jz (val u9)), .int (jz 0), .ref o])
      have hP : wP G ([(o, jl G 1 fo)] :: bw u9) H := hP
      have hD : wD A ([(o, jl G 1 fo)] :: bw u9) := hD
      refine lv_i2l (v := (jz (val u9)).toInt64) hx hb dL_within_7 rfl ?_
      refine jv_last hx hb hK.1 hP hD hS 0 (g := fo) rfl (by omega) (by omega) (by decide) dL_within_8 (fun H locs hP hD hS => ?_)
      have hP : wP G ([(o, jl G 1 (up fo 0 ((jz (val u9)).toInt64)))] :: bw u9) H := hP
      have hD : wD A ([(o, jl G 1 (up fo 0 ((jz (val u9)).toInt64)))] :: bw u9) := hD
      refine lv_goto (tgt := 15) hx hb dL_within_9 (by decide) ?_
      refine jv_iconst hx hb dL_within_15 ?_
      exact cret_i9 (bw := fun u : S ⊕ String => u.elim (fun u => [(o, jl G 1 (up fo 0 ((jz (val u)).toInt64)))] :: bw u) (fun _ => [(o, jl G 1 fo)] :: bs)) hx hb hr hlocks (Sum.inl u9) hS hP hD (Nat.le_of_eq (Nat.zero_add _)) (Nat.le_of_eq (Nat.zero_add _)) rfl dL_within_16 hp9 rfl hQ
  exact KH s.heap [] hP hD hS
def kL_band (E : String) : Int := if E = "java/lang/IllegalArgumentException" then 1 else 0
set_option maxHeartbeats 4000000 in
set_option maxRecDepth 100000 in
theorem wL_band {S : Type} (l : Launch) (hl0 : l.stackTraces = false) (G : GG) (x o : Nat) (z : Int) (fo : Int → Int64) (rm : Room) (bs : List va_W) (val : S → Int) (post : S → Prop) (bw : S → List va_W) (pE : String → Prop) (k0 : Nat) {fs : List Value} (he : bs.flatten[k0]? = some (x, .inr (8, fs))) (hpE : ∀ E : String, pE E → E = "java/lang/IllegalArgumentException") (hM : Xt l yX8_band cX8_band 8 (some .int) rm G [.ref x, .int (jz z)] bs (fun u : S => some (.int (jz (val u)))) post bw pE) : XtH l yL_band cL_band 4 (some .int) [(0, 9, 12, 13)] (rmW rm 8) G [.ref x, .int (jz z), .ref o] ([(o, jl G 1 fo)] :: bs) (fun u : S ⊕ String => some (.int (jz (u.elim (fun _ => 0) kL_band)))) (fun u => u.elim post pE) (fun u => u.elim (fun u => [(o, jl G 1 (up fo 0 ((jz (val u)).toInt64)))] :: bw u) (fun _ => [(o, jl G 1 fo)] :: bs)) := by
  refine xhof (by decide) (Nat.le_of_ble_eq_true rfl) ?_
  intro p e s m args below meth c A ls hx hb hr hml hown hts hlocks hin hA hK hP hD hS hl hX htab Q hQ
  have hown : s.vm.findClass RL = some m.cls := hown
  have hl : lv_has ls 4 [(0, .ref x), (1, .int (jz z)), (2, .ref o)] := hl
  have KH : ∀ (H : Heap) (locs : List Loc), wP G ([(o, jl G 1 fo)] :: bs) H → wD A ([(o, jl G 1 fo)] :: bs) → va_S A s.heap H locs → W p l e (rmW rm 8) s m args below meth c H locs 0 0 Q (F0 m 0 ls []) := by
    intro H locs hP hD hS
    refine lv_aload_n hx hb dL_band_0 rfl (lv_at hl 2 rfl) ?_
    refine jv_iconst hx hb dL_band_1 ?_
    refine lv_aload_n hx hb dL_band_2 rfl (lv_at hl 0 rfl) ?_
    refine lv_iload_n hx hb dL_band_3 rfl (lv_at hl 1 rfl) ?_
    refine xkV ⟨hx, hb, hml, hown, hts⟩ hK hA hS hP hD [.int (jz z)] [.int (jz 0), .ref o] hM lkL_52 (List.range' 1 bs.length) [0] (br := [[(o, jl G 1 fo)]]) (ix_c _ bs) rfl (ix_n _) k0 8 he rfl rfl rfl (Nat.le_of_ble_eq_true rfl) hl.1 dL_band_4 ⟨Nat.le_refl _, Nat.le_refl _⟩ ⟨Nat.le_of_eq (Nat.zero_add _), Nat.le_of_eq (Nat.zero_add _)⟩ hX (fun E ce q9 H locs hE hP hD hS hce hcv hcl => ?_) (fun u9 H locs hp9 hP hD hS => ?_)
    · have hP : wP G ([(o, jl G 1 fo)] :: bs) H := hP
      have hD : wD A ([(o, jl G 1 fo)] :: bs) := hD
      have hE1 := hpE E hE
      subst hE1
      refine vx_catch hown [] (⟨0, 9, 12, 13⟩ : ExceptionTableEntry) [] (htab.trans rfl) (fun z hz => absurd hz List.not_mem_nil) (by decide) (by decide) (hts _ wm562) (va_Nw.use rfl (hK.2.1 _ wb582)) hce hcv hcl ?_
      show W p l e (rmW rm 8) s m args below meth c H locs (0 + rm.cells) (0 + rm.slots) Q (F0 m 12 ls [.ref q9])
      refine lv_astore_n (lv' := [(3, .ref q9), (0, .ref x), (1, .int (jz z)), (2, .ref o)]) hx hb dL_band_12 rfl hl (by decide) rfl (fun ls hl => ?_)
      refine jv_iconst hx hb dL_band_13 ?_
      exact cret_i9 (bw := fun u : S ⊕ String => u.elim (fun u => [(o, jl G 1 (up fo 0 ((jz (val u)).toInt64)))] :: bw u) (fun _ => [(o, jl G 1 fo)] :: bs)) hx hb hr hlocks (Sum.inr "java/lang/IllegalArgumentException") hS hP hD (Nat.le_of_eq (Nat.zero_add _)) (Nat.le_of_eq (Nat.zero_add _)) rfl dL_band_14 hE (congrArg (fun z : Int => some (Value.int (jz z))) (show (1 : Int) = kL_band "java/lang/IllegalArgumentException" from by decide +kernel)) hQ
    · show W p l e (rmW rm 8) s m args below meth c H locs (0 + rm.cells) (0 + rm.slots) Q (F0 m 7 ls [.int (jz (val u9)), .int (jz 0), .ref o])
      have hP : wP G ([(o, jl G 1 fo)] :: bw u9) H := hP
      have hD : wD A ([(o, jl G 1 fo)] :: bw u9) := hD
      refine lv_i2l (v := (jz (val u9)).toInt64) hx hb dL_band_7 rfl ?_
      refine jv_last hx hb hK.1 hP hD hS 0 (g := fo) rfl (by omega) (by omega) (by decide) dL_band_8 (fun H locs hP hD hS => ?_)
      have hP : wP G ([(o, jl G 1 (up fo 0 ((jz (val u9)).toInt64)))] :: bw u9) H := hP
      have hD : wD A ([(o, jl G 1 (up fo 0 ((jz (val u9)).toInt64)))] :: bw u9) := hD
      refine lv_goto (tgt := 15) hx hb dL_band_9 (by decide) ?_
      refine jv_iconst hx hb dL_band_15 ?_
      exact cret_i9 (bw := fun u : S ⊕ String => u.elim (fun u => [(o, jl G 1 (up fo 0 ((jz (val u)).toInt64)))] :: bw u) (fun _ => [(o, jl G 1 fo)] :: bs)) hx hb hr hlocks (Sum.inl u9) hS hP hD (Nat.le_of_eq (Nat.zero_add _)) (Nat.le_of_eq (Nat.zero_add _)) rfl dL_band_16 hp9 rfl hQ
  exact KH s.heap [] hP hD hS
def kL_setBlock (E : String) : Int := if E = "java/lang/IllegalArgumentException" then 1 else 0
set_option maxHeartbeats 4000000 in
set_option maxRecDepth 100000 in
theorem wL_setBlock {S : Type} (l : Launch) (hl0 : l.stackTraces = false) (G : GG) (x o : Nat) (z : Int) (fo : Int → Int64) (rm : Room) (bs : List va_W) (val : S → Int) (post : S → Prop) (bw : S → List va_W) (pE : String → Prop) (k0 : Nat) {fs : List Value} (he : bs.flatten[k0]? = some (x, .inr (8, fs))) (hpE : ∀ E : String, pE E → E = "java/lang/IllegalArgumentException") (hM : Xt l yX8_setBlock cX8_setBlock 3 (some .int) rm G [.ref x, .int (jz z)] bs (fun u : S => some (.int (jz (val u)))) post bw pE) : XtH l yL_setBlock cL_setBlock 4 (some .int) [(0, 9, 12, 13)] (rmW rm 3) G [.ref x, .int (jz z), .ref o] ([(o, jl G 1 fo)] :: bs) (fun u : S ⊕ String => some (.int (jz (u.elim (fun _ => 0) kL_setBlock)))) (fun u => u.elim post pE) (fun u => u.elim (fun u => [(o, jl G 1 (up fo 0 ((jz (val u)).toInt64)))] :: bw u) (fun _ => [(o, jl G 1 fo)] :: bs)) := by
  refine xhof (by decide) (Nat.le_of_ble_eq_true rfl) ?_
  intro p e s m args below meth c A ls hx hb hr hml hown hts hlocks hin hA hK hP hD hS hl hX htab Q hQ
  have hown : s.vm.findClass RL = some m.cls := hown
  have hl : lv_has ls 4 [(0, .ref x), (1, .int (jz z)), (2, .ref o)] := hl
  have KH : ∀ (H : Heap) (locs : List Loc), wP G ([(o, jl G 1 fo)] :: bs) H → wD A ([(o, jl G 1 fo)] :: bs) → va_S A s.heap H locs → W p l e (rmW rm 3) s m args below meth c H locs 0 0 Q (F0 m 0 ls []) := by
    intro H locs hP hD hS
    refine lv_aload_n hx hb dL_setBlock_0 rfl (lv_at hl 2 rfl) ?_
    refine jv_iconst hx hb dL_setBlock_1 ?_
    refine lv_aload_n hx hb dL_setBlock_2 rfl (lv_at hl 0 rfl) ?_
    refine lv_iload_n hx hb dL_setBlock_3 rfl (lv_at hl 1 rfl) ?_
    refine xkV ⟨hx, hb, hml, hown, hts⟩ hK hA hS hP hD [.int (jz z)] [.int (jz 0), .ref o] hM lkL_55 (List.range' 1 bs.length) [0] (br := [[(o, jl G 1 fo)]]) (ix_c _ bs) rfl (ix_n _) k0 8 he rfl rfl rfl (Nat.le_of_ble_eq_true rfl) hl.1 dL_setBlock_4 ⟨Nat.le_refl _, Nat.le_refl _⟩ ⟨Nat.le_of_eq (Nat.zero_add _), Nat.le_of_eq (Nat.zero_add _)⟩ hX (fun E ce q9 H locs hE hP hD hS hce hcv hcl => ?_) (fun u9 H locs hp9 hP hD hS => ?_)
    · have hP : wP G ([(o, jl G 1 fo)] :: bs) H := hP
      have hD : wD A ([(o, jl G 1 fo)] :: bs) := hD
      have hE1 := hpE E hE
      subst hE1
      refine vx_catch hown [] (⟨0, 9, 12, 13⟩ : ExceptionTableEntry) [] (htab.trans rfl) (fun z hz => absurd hz List.not_mem_nil) (by decide) (by decide) (hts _ wm562) (va_Nw.use rfl (hK.2.1 _ wb582)) hce hcv hcl ?_
      show W p l e (rmW rm 3) s m args below meth c H locs (0 + rm.cells) (0 + rm.slots) Q (F0 m 12 ls [.ref q9])
      refine lv_astore_n (lv' := [(3, .ref q9), (0, .ref x), (1, .int (jz z)), (2, .ref o)]) hx hb dL_setBlock_12 rfl hl (by decide) rfl (fun ls hl => ?_)
      refine jv_iconst hx hb dL_setBlock_13 ?_
      exact cret_i9 (bw := fun u : S ⊕ String => u.elim (fun u => [(o, jl G 1 (up fo 0 ((jz (val u)).toInt64)))] :: bw u) (fun _ => [(o, jl G 1 fo)] :: bs)) hx hb hr hlocks (Sum.inr "java/lang/IllegalArgumentException") hS hP hD (Nat.le_of_eq (Nat.zero_add _)) (Nat.le_of_eq (Nat.zero_add _)) rfl dL_setBlock_14 hE (congrArg (fun z : Int => some (Value.int (jz z))) (show (1 : Int) = kL_setBlock "java/lang/IllegalArgumentException" from by decide +kernel)) hQ
    · show W p l e (rmW rm 3) s m args below meth c H locs (0 + rm.cells) (0 + rm.slots) Q (F0 m 7 ls [.int (jz (val u9)), .int (jz 0), .ref o])
      have hP : wP G ([(o, jl G 1 fo)] :: bw u9) H := hP
      have hD : wD A ([(o, jl G 1 fo)] :: bw u9) := hD
      refine lv_i2l (v := (jz (val u9)).toInt64) hx hb dL_setBlock_7 rfl ?_
      refine jv_last hx hb hK.1 hP hD hS 0 (g := fo) rfl (by omega) (by omega) (by decide) dL_setBlock_8 (fun H locs hP hD hS => ?_)
      have hP : wP G ([(o, jl G 1 (up fo 0 ((jz (val u9)).toInt64)))] :: bw u9) H := hP
      have hD : wD A ([(o, jl G 1 (up fo 0 ((jz (val u9)).toInt64)))] :: bw u9) := hD
      refine lv_goto (tgt := 15) hx hb dL_setBlock_9 (by decide) ?_
      refine jv_iconst hx hb dL_setBlock_15 ?_
      exact cret_i9 (bw := fun u : S ⊕ String => u.elim (fun u => [(o, jl G 1 (up fo 0 ((jz (val u)).toInt64)))] :: bw u) (fun _ => [(o, jl G 1 fo)] :: bs)) hx hb hr hlocks (Sum.inl u9) hS hP hD (Nat.le_of_eq (Nat.zero_add _)) (Nat.le_of_eq (Nat.zero_add _)) rfl dL_setBlock_16 hp9 rfl hQ
  exact KH s.heap [] hP hD hS
def kL_across (E : String) : Int := if E = "java/lang/IndexOutOfBoundsException" then 1 else 0
set_option maxHeartbeats 4000000 in
set_option maxRecDepth 100000 in
theorem wL_across {S : Type} (l : Launch) (hl0 : l.stackTraces = false) (G : GG) (x o : Nat) (z : Int) (i : Int) (fo : Int → Int64) (rm : Room) (bs : List va_W) (val : S → Int) (post : S → Prop) (bw : S → List va_W) (pE : String → Prop) (k0 : Nat) {fs : List Value} (he : bs.flatten[k0]? = some (x, .inr (8, fs))) (hpE : ∀ E : String, pE E → E = "java/lang/IndexOutOfBoundsException") (hM : Xt l yX8_across cX8_across 3 (some .int) rm G [.ref x, .int (jz z), .int (jz i)] bs (fun u : S => some (.int (jz (val u)))) post bw pE) : XtH l yL_across cL_across 5 (some .int) [(0, 10, 13, 19)] (rmW rm 3) G [.ref x, .int (jz z), .int (jz i), .ref o] ([(o, jl G 1 fo)] :: bs) (fun u : S ⊕ String => some (.int (jz (u.elim (fun _ => 0) kL_across)))) (fun u => u.elim post pE) (fun u => u.elim (fun u => [(o, jl G 1 (up fo 0 ((jz (val u)).toInt64)))] :: bw u) (fun _ => [(o, jl G 1 fo)] :: bs)) := by
  refine xhof (by decide) (Nat.le_of_ble_eq_true rfl) ?_
  intro p e s m args below meth c A ls hx hb hr hml hown hts hlocks hin hA hK hP hD hS hl hX htab Q hQ
  have hown : s.vm.findClass RL = some m.cls := hown
  have hl : lv_has ls 5 [(0, .ref x), (1, .int (jz z)), (2, .int (jz i)), (3, .ref o)] := hl
  have KH : ∀ (H : Heap) (locs : List Loc), wP G ([(o, jl G 1 fo)] :: bs) H → wD A ([(o, jl G 1 fo)] :: bs) → va_S A s.heap H locs → W p l e (rmW rm 3) s m args below meth c H locs 0 0 Q (F0 m 0 ls []) := by
    intro H locs hP hD hS
    refine lv_aload_n hx hb dL_across_0 rfl (lv_at hl 3 rfl) ?_
    refine jv_iconst hx hb dL_across_1 ?_
    refine lv_aload_n hx hb dL_across_2 rfl (lv_at hl 0 rfl) ?_
    refine lv_iload_n hx hb dL_across_3 rfl (lv_at hl 1 rfl) ?_
    refine lv_iload_n hx hb dL_across_4 rfl (lv_at hl 2 rfl) ?_
    refine xkV ⟨hx, hb, hml, hown, hts⟩ hK hA hS hP hD [.int (jz z), .int (jz i)] [.int (jz 0), .ref o] hM lkL_58 (List.range' 1 bs.length) [0] (br := [[(o, jl G 1 fo)]]) (ix_c _ bs) rfl (ix_n _) k0 8 he rfl rfl rfl (Nat.le_of_ble_eq_true rfl) hl.1 dL_across_5 ⟨Nat.le_refl _, Nat.le_refl _⟩ ⟨Nat.le_of_eq (Nat.zero_add _), Nat.le_of_eq (Nat.zero_add _)⟩ hX (fun E ce q9 H locs hE hP hD hS hce hcv hcl => ?_) (fun u9 H locs hp9 hP hD hS => ?_)
    · have hP : wP G ([(o, jl G 1 fo)] :: bs) H := hP
      have hD : wD A ([(o, jl G 1 fo)] :: bs) := hD
      have hE1 := hpE E hE
      subst hE1
      refine vx_catch hown [] (⟨0, 10, 13, 19⟩ : ExceptionTableEntry) [] (htab.trans rfl) (fun z hz => absurd hz List.not_mem_nil) (by decide) (by decide) (hts _ wm607) (va_Nw.use rfl (hK.2.1 _ wb470)) hce hcv hcl ?_
      show W p l e (rmW rm 3) s m args below meth c H locs (0 + rm.cells) (0 + rm.slots) Q (F0 m 13 ls [.ref q9])
      refine lv_astore (lv' := [(4, .ref q9), (0, .ref x), (1, .int (jz z)), (2, .int (jz i)), (3, .ref o)]) hx hb dL_across_13 hl (by decide) rfl (fun ls hl => ?_)
      refine jv_iconst hx hb dL_across_15 ?_
      exact cret_i9 (bw := fun u : S ⊕ String => u.elim (fun u => [(o, jl G 1 (up fo 0 ((jz (val u)).toInt64)))] :: bw u) (fun _ => [(o, jl G 1 fo)] :: bs)) hx hb hr hlocks (Sum.inr "java/lang/IndexOutOfBoundsException") hS hP hD (Nat.le_of_eq (Nat.zero_add _)) (Nat.le_of_eq (Nat.zero_add _)) rfl dL_across_16 hE (congrArg (fun z : Int => some (Value.int (jz z))) (show (1 : Int) = kL_across "java/lang/IndexOutOfBoundsException" from by decide +kernel)) hQ
    · show W p l e (rmW rm 3) s m args below meth c H locs (0 + rm.cells) (0 + rm.slots) Q (F0 m 8 ls [.int (jz (val u9)), .int (jz 0), .ref o])
      have hP : wP G ([(o, jl G 1 fo)] :: bw u9) H := hP
      have hD : wD A ([(o, jl G 1 fo)] :: bw u9) := hD
      refine lv_i2l (v := (jz (val u9)).toInt64) hx hb dL_across_8 rfl ?_
      refine jv_last hx hb hK.1 hP hD hS 0 (g := fo) rfl (by omega) (by omega) (by decide) dL_across_9 (fun H locs hP hD hS => ?_)
      have hP : wP G ([(o, jl G 1 (up fo 0 ((jz (val u9)).toInt64)))] :: bw u9) H := hP
      have hD : wD A ([(o, jl G 1 (up fo 0 ((jz (val u9)).toInt64)))] :: bw u9) := hD
      refine lv_goto (tgt := 17) hx hb dL_across_10 (by decide) ?_
      refine jv_iconst hx hb dL_across_17 ?_
      exact cret_i9 (bw := fun u : S ⊕ String => u.elim (fun u => [(o, jl G 1 (up fo 0 ((jz (val u)).toInt64)))] :: bw u) (fun _ => [(o, jl G 1 fo)] :: bs)) hx hb hr hlocks (Sum.inl u9) hS hP hD (Nat.le_of_eq (Nat.zero_add _)) (Nat.le_of_eq (Nat.zero_add _)) rfl dL_across_18 hp9 rfl hQ
  exact KH s.heap [] hP hD hS
def kL_ifReplaced (E : String) : Int := if E = "java/lang/IndexOutOfBoundsException" then 1 else if E = "java/lang/IllegalArgumentException" then 2 else 0
set_option maxHeartbeats 4000000 in
set_option maxRecDepth 100000 in
theorem wL_ifReplaced {S : Type} (l : Launch) (hl0 : l.stackTraces = false) (G : GG) (x o : Nat) (z : Int) (i : Int) (v : Int) (fo : Int → Int64) (rm : Room) (bs : List va_W) (val : S → Int) (post : S → Prop) (bw : S → List va_W) (pE : String → Prop) (k0 : Nat) {fs : List Value} (he : bs.flatten[k0]? = some (x, .inr (8, fs))) (hpE : ∀ E : String, pE E → E = "java/lang/IndexOutOfBoundsException" ∨ E = "java/lang/IllegalArgumentException") (hM : Xt l yX8_ifReplaced cX8_ifReplaced 6 (some .int) rm G [.ref x, .int (jz z), .int (jz i), .int (jz v)] bs (fun u : S => some (.int (jz (val u)))) post bw pE) : XtH l yL_ifReplaced cL_ifReplaced 6 (some .int) [(0, 12, 15, 19), (0, 12, 19, 13)] (rmW rm 6) G [.ref x, .int (jz z), .int (jz i), .int (jz v), .ref o] ([(o, jl G 1 fo)] :: bs) (fun u : S ⊕ String => some (.int (jz (u.elim (fun _ => 0) kL_ifReplaced)))) (fun u => u.elim post pE) (fun u => u.elim (fun u => [(o, jl G 1 (up fo 0 ((jz (val u)).toInt64)))] :: bw u) (fun _ => [(o, jl G 1 fo)] :: bs)) := by
  refine xhof (by decide) (Nat.le_of_ble_eq_true rfl) ?_
  intro p e s m args below meth c A ls hx hb hr hml hown hts hlocks hin hA hK hP hD hS hl hX htab Q hQ
  have hown : s.vm.findClass RL = some m.cls := hown
  have hl : lv_has ls 6 [(0, .ref x), (1, .int (jz z)), (2, .int (jz i)), (3, .int (jz v)), (4, .ref o)] := hl
  have KH : ∀ (H : Heap) (locs : List Loc), wP G ([(o, jl G 1 fo)] :: bs) H → wD A ([(o, jl G 1 fo)] :: bs) → va_S A s.heap H locs → W p l e (rmW rm 6) s m args below meth c H locs 0 0 Q (F0 m 0 ls []) := by
    intro H locs hP hD hS
    refine lv_aload hx hb dL_ifReplaced_0 (lv_at hl 4 rfl) ?_
    refine jv_iconst hx hb dL_ifReplaced_2 ?_
    refine lv_aload_n hx hb dL_ifReplaced_3 rfl (lv_at hl 0 rfl) ?_
    refine lv_iload_n hx hb dL_ifReplaced_4 rfl (lv_at hl 1 rfl) ?_
    refine lv_iload_n hx hb dL_ifReplaced_5 rfl (lv_at hl 2 rfl) ?_
    refine lv_iload_n hx hb dL_ifReplaced_6 rfl (lv_at hl 3 rfl) ?_
    refine xkV ⟨hx, hb, hml, hown, hts⟩ hK hA hS hP hD [.int (jz z), .int (jz i), .int (jz v)] [.int (jz 0), .ref o] hM lkL_61 (List.range' 1 bs.length) [0] (br := [[(o, jl G 1 fo)]]) (ix_c _ bs) rfl (ix_n _) k0 8 he rfl rfl rfl (Nat.le_of_ble_eq_true rfl) hl.1 dL_ifReplaced_7 ⟨Nat.le_refl _, Nat.le_refl _⟩ ⟨Nat.le_of_eq (Nat.zero_add _), Nat.le_of_eq (Nat.zero_add _)⟩ hX (fun E ce q9 H locs hE hP hD hS hce hcv hcl => ?_) (fun u9 H locs hp9 hP hD hS => ?_)
    · have hP : wP G ([(o, jl G 1 fo)] :: bs) H := hP
      have hD : wD A ([(o, jl G 1 fo)] :: bs) := hD
      rcases hpE E hE with rfl | rfl
      · refine vx_catch hown [] (⟨0, 12, 15, 19⟩ : ExceptionTableEntry) [(⟨0, 12, 19, 13⟩ : ExceptionTableEntry)] (htab.trans rfl) (fun z hz => absurd hz List.not_mem_nil) (by decide) (by decide) (hts _ wm607) (va_Nw.use rfl (hK.2.1 _ wb470)) hce hcv hcl ?_
        show W p l e (rmW rm 6) s m args below meth c H locs (0 + rm.cells) (0 + rm.slots) Q (F0 m 15 ls [.ref q9])
        refine lv_astore (lv' := [(5, .ref q9), (0, .ref x), (1, .int (jz z)), (2, .int (jz i)), (3, .int (jz v)), (4, .ref o)]) hx hb dL_ifReplaced_15 hl (by decide) rfl (fun ls hl => ?_)
        refine jv_iconst hx hb dL_ifReplaced_17 ?_
        exact cret_i9 (bw := fun u : S ⊕ String => u.elim (fun u => [(o, jl G 1 (up fo 0 ((jz (val u)).toInt64)))] :: bw u) (fun _ => [(o, jl G 1 fo)] :: bs)) hx hb hr hlocks (Sum.inr "java/lang/IndexOutOfBoundsException") hS hP hD (Nat.le_of_eq (Nat.zero_add _)) (Nat.le_of_eq (Nat.zero_add _)) rfl dL_ifReplaced_18 hE (congrArg (fun z : Int => some (Value.int (jz z))) (show (1 : Int) = kL_ifReplaced "java/lang/IndexOutOfBoundsException" from by decide +kernel)) hQ
      · refine vx_catch hown [(⟨0, 12, 15, 19⟩ : ExceptionTableEntry)] (⟨0, 12, 19, 13⟩ : ExceptionTableEntry) [] (htab.trans rfl) (fun z hz => by
            simp only [List.mem_cons, List.not_mem_nil, or_false] at hz
            subst hz
            exact Or.inr ⟨by decide, "java/lang/IndexOutOfBoundsException", hts _ wm607, hK.2.2.2.2.1 ("java/lang/IllegalArgumentException", "java/lang/IndexOutOfBoundsException") (by decide +kernel)⟩) (by decide) (by decide) (hts _ wm562) (va_Nw.use rfl (hK.2.1 _ wb582)) hce hcv hcl ?_
        show W p l e (rmW rm 6) s m args below meth c H locs (0 + rm.cells) (0 + rm.slots) Q (F0 m 19 ls [.ref q9])
        refine lv_astore (lv' := [(5, .ref q9), (0, .ref x), (1, .int (jz z)), (2, .int (jz i)), (3, .int (jz v)), (4, .ref o)]) hx hb dL_ifReplaced_19 hl (by decide) rfl (fun ls hl => ?_)
        refine jv_iconst hx hb dL_ifReplaced_21 ?_
        exact cret_i9 (bw := fun u : S ⊕ String => u.elim (fun u => [(o, jl G 1 (up fo 0 ((jz (val u)).toInt64)))] :: bw u) (fun _ => [(o, jl G 1 fo)] :: bs)) hx hb hr hlocks (Sum.inr "java/lang/IllegalArgumentException") hS hP hD (Nat.le_of_eq (Nat.zero_add _)) (Nat.le_of_eq (Nat.zero_add _)) rfl dL_ifReplaced_22 hE (congrArg (fun z : Int => some (Value.int (jz z))) (show (2 : Int) = kL_ifReplaced "java/lang/IllegalArgumentException" from by decide +kernel)) hQ
    · show W p l e (rmW rm 6) s m args below meth c H locs (0 + rm.cells) (0 + rm.slots) Q (F0 m 10 ls [.int (jz (val u9)), .int (jz 0), .ref o])
      have hP : wP G ([(o, jl G 1 fo)] :: bw u9) H := hP
      have hD : wD A ([(o, jl G 1 fo)] :: bw u9) := hD
      refine lv_i2l (v := (jz (val u9)).toInt64) hx hb dL_ifReplaced_10 rfl ?_
      refine jv_last hx hb hK.1 hP hD hS 0 (g := fo) rfl (by omega) (by omega) (by decide) dL_ifReplaced_11 (fun H locs hP hD hS => ?_)
      have hP : wP G ([(o, jl G 1 (up fo 0 ((jz (val u9)).toInt64)))] :: bw u9) H := hP
      have hD : wD A ([(o, jl G 1 (up fo 0 ((jz (val u9)).toInt64)))] :: bw u9) := hD
      refine lv_goto (tgt := 23) hx hb dL_ifReplaced_12 (by decide) ?_
      refine jv_iconst hx hb dL_ifReplaced_23 ?_
      exact cret_i9 (bw := fun u : S ⊕ String => u.elim (fun u => [(o, jl G 1 (up fo 0 ((jz (val u)).toInt64)))] :: bw u) (fun _ => [(o, jl G 1 fo)] :: bs)) hx hb hr hlocks (Sum.inl u9) hS hP hD (Nat.le_of_eq (Nat.zero_add _)) (Nat.le_of_eq (Nat.zero_add _)) rfl dL_ifReplaced_24 hp9 rfl hQ
  exact KH s.heap [] hP hD hS
def kL_bestReplacement (E : String) : Int := if E = "java/lang/IndexOutOfBoundsException" then 1 else 0
set_option maxHeartbeats 4000000 in
set_option maxRecDepth 100000 in
theorem wL_bestReplacement {S : Type} (l : Launch) (hl0 : l.stackTraces = false) (G : GG) (x o : Nat) (z : Int) (fo : Int → Int64) (rm : Room) (bs : List va_W) (val : S → Int) (post : S → Prop) (bw : S → List va_W) (pE : String → Prop) (k0 : Nat) {fs : List Value} (he : bs.flatten[k0]? = some (x, .inr (8, fs))) (hpE : ∀ E : String, pE E → E = "java/lang/IndexOutOfBoundsException") (hM : Xt l yX8_bestReplacement cX8_bestReplacement 9 (some .int) rm G [.ref x, .int (jz z)] bs (fun u : S => some (.int (jz (val u)))) post bw pE) : XtH l yL_bestReplacement cL_bestReplacement 4 (some .int) [(0, 9, 12, 19)] (rmW rm 9) G [.ref x, .int (jz z), .ref o] ([(o, jl G 1 fo)] :: bs) (fun u : S ⊕ String => some (.int (jz (u.elim (fun _ => 0) kL_bestReplacement)))) (fun u => u.elim post pE) (fun u => u.elim (fun u => [(o, jl G 1 (up fo 0 ((jz (val u)).toInt64)))] :: bw u) (fun _ => [(o, jl G 1 fo)] :: bs)) := by
  refine xhof (by decide) (Nat.le_of_ble_eq_true rfl) ?_
  intro p e s m args below meth c A ls hx hb hr hml hown hts hlocks hin hA hK hP hD hS hl hX htab Q hQ
  have hown : s.vm.findClass RL = some m.cls := hown
  have hl : lv_has ls 4 [(0, .ref x), (1, .int (jz z)), (2, .ref o)] := hl
  have KH : ∀ (H : Heap) (locs : List Loc), wP G ([(o, jl G 1 fo)] :: bs) H → wD A ([(o, jl G 1 fo)] :: bs) → va_S A s.heap H locs → W p l e (rmW rm 9) s m args below meth c H locs 0 0 Q (F0 m 0 ls []) := by
    intro H locs hP hD hS
    refine lv_aload_n hx hb dL_bestReplacement_0 rfl (lv_at hl 2 rfl) ?_
    refine jv_iconst hx hb dL_bestReplacement_1 ?_
    refine lv_aload_n hx hb dL_bestReplacement_2 rfl (lv_at hl 0 rfl) ?_
    refine lv_iload_n hx hb dL_bestReplacement_3 rfl (lv_at hl 1 rfl) ?_
    refine xkV ⟨hx, hb, hml, hown, hts⟩ hK hA hS hP hD [.int (jz z)] [.int (jz 0), .ref o] hM lkL_64 (List.range' 1 bs.length) [0] (br := [[(o, jl G 1 fo)]]) (ix_c _ bs) rfl (ix_n _) k0 8 he rfl rfl rfl (Nat.le_of_ble_eq_true rfl) hl.1 dL_bestReplacement_4 ⟨Nat.le_refl _, Nat.le_refl _⟩ ⟨Nat.le_of_eq (Nat.zero_add _), Nat.le_of_eq (Nat.zero_add _)⟩ hX (fun E ce q9 H locs hE hP hD hS hce hcv hcl => ?_) (fun u9 H locs hp9 hP hD hS => ?_)
    · have hP : wP G ([(o, jl G 1 fo)] :: bs) H := hP
      have hD : wD A ([(o, jl G 1 fo)] :: bs) := hD
      have hE1 := hpE E hE
      subst hE1
      refine vx_catch hown [] (⟨0, 9, 12, 19⟩ : ExceptionTableEntry) [] (htab.trans rfl) (fun z hz => absurd hz List.not_mem_nil) (by decide) (by decide) (hts _ wm607) (va_Nw.use rfl (hK.2.1 _ wb470)) hce hcv hcl ?_
      show W p l e (rmW rm 9) s m args below meth c H locs (0 + rm.cells) (0 + rm.slots) Q (F0 m 12 ls [.ref q9])
      refine lv_astore_n (lv' := [(3, .ref q9), (0, .ref x), (1, .int (jz z)), (2, .ref o)]) hx hb dL_bestReplacement_12 rfl hl (by decide) rfl (fun ls hl => ?_)
      refine jv_iconst hx hb dL_bestReplacement_13 ?_
      exact cret_i9 (bw := fun u : S ⊕ String => u.elim (fun u => [(o, jl G 1 (up fo 0 ((jz (val u)).toInt64)))] :: bw u) (fun _ => [(o, jl G 1 fo)] :: bs)) hx hb hr hlocks (Sum.inr "java/lang/IndexOutOfBoundsException") hS hP hD (Nat.le_of_eq (Nat.zero_add _)) (Nat.le_of_eq (Nat.zero_add _)) rfl dL_bestReplacement_14 hE (congrArg (fun z : Int => some (Value.int (jz z))) (show (1 : Int) = kL_bestReplacement "java/lang/IndexOutOfBoundsException" from by decide +kernel)) hQ
    · show W p l e (rmW rm 9) s m args below meth c H locs (0 + rm.cells) (0 + rm.slots) Q (F0 m 7 ls [.int (jz (val u9)), .int (jz 0), .ref o])
      have hP : wP G ([(o, jl G 1 fo)] :: bw u9) H := hP
      have hD : wD A ([(o, jl G 1 fo)] :: bw u9) := hD
      refine lv_i2l (v := (jz (val u9)).toInt64) hx hb dL_bestReplacement_7 rfl ?_
      refine jv_last hx hb hK.1 hP hD hS 0 (g := fo) rfl (by omega) (by omega) (by decide) dL_bestReplacement_8 (fun H locs hP hD hS => ?_)
      have hP : wP G ([(o, jl G 1 (up fo 0 ((jz (val u9)).toInt64)))] :: bw u9) H := hP
      have hD : wD A ([(o, jl G 1 (up fo 0 ((jz (val u9)).toInt64)))] :: bw u9) := hD
      refine lv_goto (tgt := 15) hx hb dL_bestReplacement_9 (by decide) ?_
      refine jv_iconst hx hb dL_bestReplacement_15 ?_
      exact cret_i9 (bw := fun u : S ⊕ String => u.elim (fun u => [(o, jl G 1 (up fo 0 ((jz (val u)).toInt64)))] :: bw u) (fun _ => [(o, jl G 1 fo)] :: bs)) hx hb hr hlocks (Sum.inl u9) hS hP hD (Nat.le_of_eq (Nat.zero_add _)) (Nat.le_of_eq (Nat.zero_add _)) rfl dL_bestReplacement_16 hp9 rfl hQ
  exact KH s.heap [] hP hD hS
def kL_append (E : String) : Int := if E = "java/lang/IllegalArgumentException" then 1 else if E = "java/lang/IllegalStateException" then 2 else 0
set_option maxHeartbeats 4000000 in
set_option maxRecDepth 100000 in
theorem wL_append {S : Type} (l : Launch) (hl0 : l.stackTraces = false) (G : GG) (x o : Nat) (z : Int) (fo : Int → Int64) (rm : Room) (bs : List va_W) (val : S → Int) (post : S → Prop) (bw : S → List va_W) (pE : String → Prop) (k0 : Nat) {fs : List Value} (he : bs.flatten[k0]? = some (x, .inr (8, fs))) (hpE : ∀ E : String, pE E → E = "java/lang/IllegalArgumentException" ∨ E = "java/lang/IllegalStateException") (hM : Xt l yX8_append cX8_append 2 (some .int) rm G [.ref x, .int (jz z)] bs (fun u : S => some (.int (jz (val u)))) post bw pE) : XtH l yL_append cL_append 4 (some .int) [(0, 9, 12, 13), (0, 9, 15, 21)] (rmW rm 2) G [.ref x, .int (jz z), .ref o] ([(o, jl G 1 fo)] :: bs) (fun u : S ⊕ String => some (.int (jz (u.elim (fun _ => 0) kL_append)))) (fun u => u.elim post pE) (fun u => u.elim (fun u => [(o, jl G 1 (up fo 0 ((jz (val u)).toInt64)))] :: bw u) (fun _ => [(o, jl G 1 fo)] :: bs)) := by
  refine xhof (by decide) (Nat.le_of_ble_eq_true rfl) ?_
  intro p e s m args below meth c A ls hx hb hr hml hown hts hlocks hin hA hK hP hD hS hl hX htab Q hQ
  have hown : s.vm.findClass RL = some m.cls := hown
  have hl : lv_has ls 4 [(0, .ref x), (1, .int (jz z)), (2, .ref o)] := hl
  have KH : ∀ (H : Heap) (locs : List Loc), wP G ([(o, jl G 1 fo)] :: bs) H → wD A ([(o, jl G 1 fo)] :: bs) → va_S A s.heap H locs → W p l e (rmW rm 2) s m args below meth c H locs 0 0 Q (F0 m 0 ls []) := by
    intro H locs hP hD hS
    refine lv_aload_n hx hb dL_append_0 rfl (lv_at hl 2 rfl) ?_
    refine jv_iconst hx hb dL_append_1 ?_
    refine lv_aload_n hx hb dL_append_2 rfl (lv_at hl 0 rfl) ?_
    refine lv_iload_n hx hb dL_append_3 rfl (lv_at hl 1 rfl) ?_
    refine xkV ⟨hx, hb, hml, hown, hts⟩ hK hA hS hP hD [.int (jz z)] [.int (jz 0), .ref o] hM lkL_67 (List.range' 1 bs.length) [0] (br := [[(o, jl G 1 fo)]]) (ix_c _ bs) rfl (ix_n _) k0 8 he rfl rfl rfl (Nat.le_of_ble_eq_true rfl) hl.1 dL_append_4 ⟨Nat.le_refl _, Nat.le_refl _⟩ ⟨Nat.le_of_eq (Nat.zero_add _), Nat.le_of_eq (Nat.zero_add _)⟩ hX (fun E ce q9 H locs hE hP hD hS hce hcv hcl => ?_) (fun u9 H locs hp9 hP hD hS => ?_)
    · have hP : wP G ([(o, jl G 1 fo)] :: bs) H := hP
      have hD : wD A ([(o, jl G 1 fo)] :: bs) := hD
      rcases hpE E hE with rfl | rfl
      · refine vx_catch hown [] (⟨0, 9, 12, 13⟩ : ExceptionTableEntry) [(⟨0, 9, 15, 21⟩ : ExceptionTableEntry)] (htab.trans rfl) (fun z hz => absurd hz List.not_mem_nil) (by decide) (by decide) (hts _ wm562) (va_Nw.use rfl (hK.2.1 _ wb582)) hce hcv hcl ?_
        show W p l e (rmW rm 2) s m args below meth c H locs (0 + rm.cells) (0 + rm.slots) Q (F0 m 12 ls [.ref q9])
        refine lv_astore_n (lv' := [(3, .ref q9), (0, .ref x), (1, .int (jz z)), (2, .ref o)]) hx hb dL_append_12 rfl hl (by decide) rfl (fun ls hl => ?_)
        refine jv_iconst hx hb dL_append_13 ?_
        exact cret_i9 (bw := fun u : S ⊕ String => u.elim (fun u => [(o, jl G 1 (up fo 0 ((jz (val u)).toInt64)))] :: bw u) (fun _ => [(o, jl G 1 fo)] :: bs)) hx hb hr hlocks (Sum.inr "java/lang/IllegalArgumentException") hS hP hD (Nat.le_of_eq (Nat.zero_add _)) (Nat.le_of_eq (Nat.zero_add _)) rfl dL_append_14 hE (congrArg (fun z : Int => some (Value.int (jz z))) (show (1 : Int) = kL_append "java/lang/IllegalArgumentException" from by decide +kernel)) hQ
      · refine vx_catch hown [(⟨0, 9, 12, 13⟩ : ExceptionTableEntry)] (⟨0, 9, 15, 21⟩ : ExceptionTableEntry) [] (htab.trans rfl) (fun z hz => by
            simp only [List.mem_cons, List.not_mem_nil, or_false] at hz
            subst hz
            exact Or.inr ⟨by decide, "java/lang/IllegalArgumentException", hts _ wm562, hK.2.2.2.2.1 ("java/lang/IllegalStateException", "java/lang/IllegalArgumentException") (by decide +kernel)⟩) (by decide) (by decide) (hts _ wm608) (va_Nw.use rfl (hK.2.1 _ wb621)) hce hcv hcl ?_
        show W p l e (rmW rm 2) s m args below meth c H locs (0 + rm.cells) (0 + rm.slots) Q (F0 m 15 ls [.ref q9])
        refine lv_astore_n (lv' := [(3, .ref q9), (0, .ref x), (1, .int (jz z)), (2, .ref o)]) hx hb dL_append_15 rfl hl (by decide) rfl (fun ls hl => ?_)
        refine jv_iconst hx hb dL_append_16 ?_
        exact cret_i9 (bw := fun u : S ⊕ String => u.elim (fun u => [(o, jl G 1 (up fo 0 ((jz (val u)).toInt64)))] :: bw u) (fun _ => [(o, jl G 1 fo)] :: bs)) hx hb hr hlocks (Sum.inr "java/lang/IllegalStateException") hS hP hD (Nat.le_of_eq (Nat.zero_add _)) (Nat.le_of_eq (Nat.zero_add _)) rfl dL_append_17 hE (congrArg (fun z : Int => some (Value.int (jz z))) (show (2 : Int) = kL_append "java/lang/IllegalStateException" from by decide +kernel)) hQ
    · show W p l e (rmW rm 2) s m args below meth c H locs (0 + rm.cells) (0 + rm.slots) Q (F0 m 7 ls [.int (jz (val u9)), .int (jz 0), .ref o])
      have hP : wP G ([(o, jl G 1 fo)] :: bw u9) H := hP
      have hD : wD A ([(o, jl G 1 fo)] :: bw u9) := hD
      refine lv_i2l (v := (jz (val u9)).toInt64) hx hb dL_append_7 rfl ?_
      refine jv_last hx hb hK.1 hP hD hS 0 (g := fo) rfl (by omega) (by omega) (by decide) dL_append_8 (fun H locs hP hD hS => ?_)
      have hP : wP G ([(o, jl G 1 (up fo 0 ((jz (val u9)).toInt64)))] :: bw u9) H := hP
      have hD : wD A ([(o, jl G 1 (up fo 0 ((jz (val u9)).toInt64)))] :: bw u9) := hD
      refine lv_goto (tgt := 18) hx hb dL_append_9 (by decide) ?_
      refine jv_iconst hx hb dL_append_18 ?_
      exact cret_i9 (bw := fun u : S ⊕ String => u.elim (fun u => [(o, jl G 1 (up fo 0 ((jz (val u)).toInt64)))] :: bw u) (fun _ => [(o, jl G 1 fo)] :: bs)) hx hb hr hlocks (Sum.inl u9) hS hP hD (Nat.le_of_eq (Nat.zero_add _)) (Nat.le_of_eq (Nat.zero_add _)) rfl dL_append_19 hp9 rfl hQ
  exact KH s.heap [] hP hD hS
def kL_undo (E : String) : Int := if E = "java/lang/IllegalStateException" then 1 else 0
set_option maxHeartbeats 4000000 in
set_option maxRecDepth 100000 in
theorem wL_undo {S : Type} (l : Launch) (hl0 : l.stackTraces = false) (G : GG) (x o : Nat)  (fo : Int → Int64) (rm : Room) (bs : List va_W) (val : S → Int) (post : S → Prop) (bw : S → List va_W) (pE : String → Prop) (k0 : Nat) {fs : List Value} (he : bs.flatten[k0]? = some (x, .inr (8, fs))) (hpE : ∀ E : String, pE E → E = "java/lang/IllegalStateException") (hM : Xt l yX8_undo cX8_undo 1 (some .int) rm G [.ref x] bs (fun u : S => some (.int (jz (val u)))) post bw pE) : XtH l yL_undo cL_undo 3 (some .int) [(0, 8, 11, 21)] (rmW rm 1) G [.ref x, .ref o] ([(o, jl G 1 fo)] :: bs) (fun u : S ⊕ String => some (.int (jz (u.elim (fun _ => 0) kL_undo)))) (fun u => u.elim post pE) (fun u => u.elim (fun u => [(o, jl G 1 (up fo 0 ((jz (val u)).toInt64)))] :: bw u) (fun _ => [(o, jl G 1 fo)] :: bs)) := by
  refine xhof (by decide) (Nat.le_of_ble_eq_true rfl) ?_
  intro p e s m args below meth c A ls hx hb hr hml hown hts hlocks hin hA hK hP hD hS hl hX htab Q hQ
  have hown : s.vm.findClass RL = some m.cls := hown
  have hl : lv_has ls 3 [(0, .ref x), (1, .ref o)] := hl
  have KH : ∀ (H : Heap) (locs : List Loc), wP G ([(o, jl G 1 fo)] :: bs) H → wD A ([(o, jl G 1 fo)] :: bs) → va_S A s.heap H locs → W p l e (rmW rm 1) s m args below meth c H locs 0 0 Q (F0 m 0 ls []) := by
    intro H locs hP hD hS
    refine lv_aload_n hx hb dL_undo_0 rfl (lv_at hl 1 rfl) ?_
    refine jv_iconst hx hb dL_undo_1 ?_
    refine lv_aload_n hx hb dL_undo_2 rfl (lv_at hl 0 rfl) ?_
    refine xkV ⟨hx, hb, hml, hown, hts⟩ hK hA hS hP hD [] [.int (jz 0), .ref o] hM lkL_70 (List.range' 1 bs.length) [0] (br := [[(o, jl G 1 fo)]]) (ix_c _ bs) rfl (ix_n _) k0 8 he rfl rfl rfl (Nat.le_of_ble_eq_true rfl) hl.1 dL_undo_3 ⟨Nat.le_refl _, Nat.le_refl _⟩ ⟨Nat.le_of_eq (Nat.zero_add _), Nat.le_of_eq (Nat.zero_add _)⟩ hX (fun E ce q9 H locs hE hP hD hS hce hcv hcl => ?_) (fun u9 H locs hp9 hP hD hS => ?_)
    · have hP : wP G ([(o, jl G 1 fo)] :: bs) H := hP
      have hD : wD A ([(o, jl G 1 fo)] :: bs) := hD
      have hE1 := hpE E hE
      subst hE1
      refine vx_catch hown [] (⟨0, 8, 11, 21⟩ : ExceptionTableEntry) [] (htab.trans rfl) (fun z hz => absurd hz List.not_mem_nil) (by decide) (by decide) (hts _ wm608) (va_Nw.use rfl (hK.2.1 _ wb621)) hce hcv hcl ?_
      show W p l e (rmW rm 1) s m args below meth c H locs (0 + rm.cells) (0 + rm.slots) Q (F0 m 11 ls [.ref q9])
      refine lv_astore_n (lv' := [(2, .ref q9), (0, .ref x), (1, .ref o)]) hx hb dL_undo_11 rfl hl (by decide) rfl (fun ls hl => ?_)
      refine jv_iconst hx hb dL_undo_12 ?_
      exact cret_i9 (bw := fun u : S ⊕ String => u.elim (fun u => [(o, jl G 1 (up fo 0 ((jz (val u)).toInt64)))] :: bw u) (fun _ => [(o, jl G 1 fo)] :: bs)) hx hb hr hlocks (Sum.inr "java/lang/IllegalStateException") hS hP hD (Nat.le_of_eq (Nat.zero_add _)) (Nat.le_of_eq (Nat.zero_add _)) rfl dL_undo_13 hE (congrArg (fun z : Int => some (Value.int (jz z))) (show (1 : Int) = kL_undo "java/lang/IllegalStateException" from by decide +kernel)) hQ
    · show W p l e (rmW rm 1) s m args below meth c H locs (0 + rm.cells) (0 + rm.slots) Q (F0 m 6 ls [.int (jz (val u9)), .int (jz 0), .ref o])
      have hP : wP G ([(o, jl G 1 fo)] :: bw u9) H := hP
      have hD : wD A ([(o, jl G 1 fo)] :: bw u9) := hD
      refine lv_i2l (v := (jz (val u9)).toInt64) hx hb dL_undo_6 rfl ?_
      refine jv_last hx hb hK.1 hP hD hS 0 (g := fo) rfl (by omega) (by omega) (by decide) dL_undo_7 (fun H locs hP hD hS => ?_)
      have hP : wP G ([(o, jl G 1 (up fo 0 ((jz (val u9)).toInt64)))] :: bw u9) H := hP
      have hD : wD A ([(o, jl G 1 (up fo 0 ((jz (val u9)).toInt64)))] :: bw u9) := hD
      refine lv_goto (tgt := 14) hx hb dL_undo_8 (by decide) ?_
      refine jv_iconst hx hb dL_undo_14 ?_
      exact cret_i9 (bw := fun u : S ⊕ String => u.elim (fun u => [(o, jl G 1 (up fo 0 ((jz (val u)).toInt64)))] :: bw u) (fun _ => [(o, jl G 1 fo)] :: bs)) hx hb hr hlocks (Sum.inl u9) hS hP hD (Nat.le_of_eq (Nat.zero_add _)) (Nat.le_of_eq (Nat.zero_add _)) rfl dL_undo_15 hp9 rfl hQ
  exact KH s.heap [] hP hD hS
