set_option maxHeartbeats 4000000 in
set_option maxRecDepth 100000 in
theorem law_ins {p : Program} {l : Launch} {e : Env} {s : State} {m : MethodId} {args : Array Value} {below : List Frame} {meth : Method} {c : Code} {ba L : Nat} {xs9 : Nat → Int32} {A : Nat → Prop} {G : GG} {x : Nat} {Q : State → Prop} (hF : LawF p s m args meth c ba L xs9 A G)
    (hend : ∀ (bs9 : List va_W) (H : Heap) (locs : List Loc) (ls : Array Slot), INV G x 4 2 0 20 bs9 → wP G bs9 H → wD A bs9 → va_S A s.heap H locs → lv_has ls 8 [(3, .int (jz 4)), (2, .int (jz 2)), (1, .ref x), (0, .ref ba)] → W p l e room_1 s m args below meth c H locs 69 3019 Q (F0 m 51 ls [])) :
    ∀ (n9 : Nat) (e9 : Int) (cl sl : Nat) (bs9 : List va_W) (H : Heap) (locs : List Loc) (ls : Array Slot), ((8 : Int) - e9).toNat < n9 → (0 ≤ e9 ∧ e9 ≤ 8) → cl + 5 * ((8 : Int) - e9).toNat ≤ 69 → sl + 47 * ((8 : Int) - e9).toNat ≤ 3019 → INV G x 4 2 0 e9 bs9 → wP G bs9 H → wD A bs9 → va_S A s.heap H locs → lv_has ls 8 [(4, .int (jz e9)), (3, .int (jz 4)), (2, .int (jz 2)), (1, .ref x), (0, .ref ba)] → W p l e room_1 s m args below meth c H locs cl sl Q (F0 m 15 ls []) := by
  intro n9
  induction n9 with
  | zero => intro e9 cl sl bs9 H locs ls h1; exact absurd h1 (Nat.not_lt_zero _)
  | succ n9 ih =>
    intro e9 cl sl bs9 H locs ls h1 h2 h3 h4 hI hP hD hS hl
    obtain ⟨hx, hb, hml, hown, hts, hA, hK, hX, hbl, hbA, hLm⟩ := id hF
    refine lv_iload hx hb dL_law_15 (lv_at hl 0 rfl) ?_
    refine jv_bipush hx hb dL_law_17 (by decide) ?_
    refine jv_icmp_ge (tgt := 51) hx hb dL_law_19 (by decide) (by omega) (by omega) (fun c_1 => ?_) (fun c_1 => ?_)
    · refine W.widen (k := 69) (n := 3019) (by omega) (by omega) ?_
      exact hend bs9 H locs ls (INV_le hI (by omega) (by omega) (by omega)) hP hD hS (lv_sub hl [1, 2, 3, 4] rfl)
    · refine lv_aload_n hx hb dL_law_22 rfl (lv_at hl 3 rfl) ?_
      refine lv_iload hx hb dL_law_23 (lv_at hl 0 rfl) ?_
      refine jv_iconst hx hb dL_law_25 ?_
      refine jv_iand hx hb dL_law_26 ?_
      have ha_2 := an_bd e9 (y := 1) (by decide) (by decide)
      refine jv_iconst hx hb dL_law_27 ?_
      refine lv_aload_n hx hb dL_law_28 rfl (lv_at hl 4 rfl) ?_
      refine lv_iload hx hb dL_law_29 (lv_at hl 0 rfl) ?_
      refine w_cell hF hI hP hD hS hl (by omega) (Nat.le_of_ble_eq_true rfl) dL_law_31 ⟨show cl ≤ 600130 by omega, show sl ≤ 7301080 by omega⟩ (fun H locs hP hD hS => ?_)
      refine jv_top (fun v_3 ev_3 => ?_)
      have hv_3 : jr v_3 := by rw [ev_3]; exact cv_jr _ _ _
      show W p l e room_1 s m args below meth c H locs cl sl Q (F0 m 34 ls [.int (jz v_3), .int (jz 0), .int (jz (an e9 1)), .ref x])
      refine jv_iconst hx hb dL_law_34 ?_
      refine jv_ishr hx hb dL_law_35 ?_
      refine jv_iconst hx hb dL_law_36 ?_
      refine w_low hF hI hP hD hS hl (by omega) (Nat.le_of_ble_eq_true rfl) dL_law_37 ⟨show cl ≤ 600130 by omega, show sl ≤ 7301080 by omega⟩ (fun u_4 hu_4 H locs hP hD hS => ?_)
      show W p l e room_1 s m args below meth c H locs cl sl Q (F0 m 40 ls [.int (jz u_4), .int (jz 0), .int (jz (an e9 1)), .ref x])
      refine w_ins hF hI hP hD hS hl (by omega) (by omega) (by omega) ⟨show cl + 5 ≤ 600130 by omega, show sl + 47 ≤ 7301080 by omega⟩ (fun r_5 bs9 H locs hI hP hD hS => ?_)
      show W p l e room_1 s m args below meth c H locs (cl + 5) (sl + 47) Q (F0 m 43 ls [.int (jz r_5)])
      refine lv_istore (lv' := [(5, .int (jz r_5)), (4, .int (jz e9)), (3, .int (jz 4)), (2, .int (jz 2)), (1, .ref x), (0, .ref ba)]) hx hb dL_law_43 hl (by decide) rfl (fun ls hl => ?_)
      refine jv_iinc (lv' := [(4, .int (jz (e9 + 1))), (5, .int (jz r_5)), (3, .int (jz 4)), (2, .int (jz 2)), (1, .ref x), (0, .ref ba)]) (k := 1) hx hb dL_law_45 hl rfl (by decide) rfl (fun ls hl => ?_)
      refine lv_goto (tgt := 15) hx hb dL_law_48 (by decide) ?_
      exact ih (e9 + 1) (cl + 5) (sl + 47) bs9 H locs ls (by omega) (by omega) (by omega) (by omega) hI hP hD hS (lv_sub hl [0, 2, 3, 4, 5] rfl)
set_option maxHeartbeats 4000000 in
set_option maxRecDepth 100000 in
theorem law_rounds {p : Program} {l : Launch} {e : Env} {s : State} {m : MethodId} {args : Array Value} {below : List Frame} {meth : Method} {c : Code} {ba L : Nat} {xs9 : Nat → Int32} {A : Nat → Prop} {G : GG} {x : Nat} {Q : State → Prop} (hF : LawF p s m args meth c ba L xs9 A G)
    (hend : ∀ (H : Heap) (locs : List Loc) (ls : Array Slot), va_S A s.heap H locs → W p l e room_1 s m args below meth c H locs 600130 7301080 Q (F0 m 220 ls [])) :
    ∀ (n9 : Nat) (e9 al bs B : Int) (cl sl : Nat) (bs9 : List va_W) (H : Heap) (locs : List Loc) (ls : Array Slot), ((40 : Int) - e9).toNat < n9 → (0 ≤ e9 ∧ e9 ≤ 40) → (0 ≤ B ∧ B ≤ 6000 * e9) → cl + 21 * ((40 : Int) - e9).toNat ≤ 600130 → sl + 192 * ((40 : Int) - e9).toNat ≤ 7301080 → INV G x al bs B 20 bs9 → wP G bs9 H → wD A bs9 → va_S A s.heap H locs → lv_has ls 8 [(4, .int (jz e9)), (3, .int (jz 4)), (2, .int (jz bs)), (1, .ref x), (0, .ref ba)] → W p l e room_1 s m args below meth c H locs cl sl Q (F0 m 54 ls []) := by
  intro n9
  induction n9 with
  | zero => intro e9 al bs B cl sl bs9 H locs ls h1; exact absurd h1 (Nat.not_lt_zero _)
  | succ n9 ih =>
    intro e9 al bs B cl sl bs9 H locs ls h1 h2 hB0 h3 h4 hI hP hD hS hl
    obtain ⟨hx, hb, hml, hown, hts, hA, hK, hX, hbl, hbA, hLm⟩ := id hF
    refine lv_iload hx hb dL_law_54 (lv_at hl 0 rfl) ?_
    refine jv_bipush hx hb dL_law_56 (by decide) ?_
    refine jv_icmp_ge (tgt := 220) hx hb dL_law_58 (by decide) (by omega) (by omega) (fun c_1 => ?_) (fun c_1 => ?_)
    · refine W.widen (k := 600130) (n := 7301080) (by omega) (by omega) ?_
      exact hend H locs ls hS
    · refine lv_aload_n hx hb dL_law_61 rfl (lv_at hl 4 rfl) ?_
      refine lv_iload hx hb dL_law_62 (lv_at hl 0 rfl) ?_
      refine w_cell hF hI hP hD hS hl (by omega) (Nat.le_of_ble_eq_true rfl) dL_law_64 ⟨show cl ≤ 600130 by omega, show sl ≤ 7301080 by omega⟩ (fun H locs hP hD hS => ?_)
      refine jv_top (fun v_2 ev_2 => ?_)
      have hv_2 : jr v_2 := by rw [ev_2]; exact cv_jr _ _ _
      show W p l e room_1 s m args below meth c H locs cl sl Q (F0 m 67 ls [.int (jz v_2)])
      refine lv_istore (lv' := [(5, .int (jz v_2)), (4, .int (jz e9)), (3, .int (jz 4)), (2, .int (jz bs)), (1, .ref x), (0, .ref ba)]) hx hb dL_law_67 hl (by decide) rfl (fun ls hl => ?_)
      refine lv_aload_n hx hb dL_law_69 rfl (lv_at hl 4 rfl) ?_
      refine w_saved hF hI hP hD hS hl  ⟨show cl ≤ 600130 by omega, show sl ≤ 7301080 by omega⟩ (fun r_3 hr_4 bs9 H locs hI hP hD hS => ?_)
      show W p l e room_1 s m args below meth c H locs cl sl Q (F0 m 73 ls [.int (jz r_3)])
      refine lv_istore (lv' := [(6, .int (jz r_3)), (5, .int (jz v_2)), (4, .int (jz e9)), (3, .int (jz 4)), (2, .int (jz bs)), (1, .ref x), (0, .ref ba)]) hx hb dL_law_73 hl (by decide) rfl (fun ls hl => ?_)
      refine lv_aload_n hx hb dL_law_75 rfl (lv_at hl 5 rfl) ?_
      refine lv_iload hx hb dL_law_76 (lv_at hl 1 rfl) ?_
      refine w_does hF hI hP hD hS hl (by omega) hv_2 ⟨show cl + 5 ≤ 600130 by omega, show sl + 47 ≤ 7301080 by omega⟩ (fun al_5 bz_6 r_7 hbz_8 hr_9 bs9 H locs hI hP hD hS => ?_)
      show W p l e room_1 s m args below meth c H locs (cl + 5) (sl + 47) Q (F0 m 81 ls [.int (jz r_7)])
      refine jv_if_ge (tgt := 86) hx hb dL_law_81 (by decide) (by omega) (fun c_10 => ?_) (fun c_10 => ?_)
      · have K118 : W p l e room_1 s m args below meth c H locs (cl + 5) (sl + 47) Q (F0 m 118 ls [.int (jz bz_6)]) := by
          refine lv_istore_n (lv' := [(2, .int (jz bz_6)), (6, .int (jz r_3)), (5, .int (jz v_2)), (4, .int (jz e9)), (3, .int (jz 4)), (1, .ref x), (0, .ref ba)]) hx hb dL_law_118 rfl hl (by decide) rfl (fun ls hl => ?_)
          refine lv_aload_n hx hb dL_law_119 rfl (lv_at hl 5 rfl) ?_
          refine jv_iconst hx hb dL_law_120 ?_
          refine w_alpha hF hI hP hD hS hl  ⟨show cl + 10 ≤ 600130 by omega, show sl + 94 ≤ 7301080 by omega⟩ (fun r_11 hr_12 bs9 H locs hI hP hD hS => ?_)
          show W p l e room_1 s m args below meth c H locs (cl + 10) (sl + 94) Q (F0 m 124 ls [.int (jz r_11)])
          refine lv_istore (lv' := [(7, .int (jz r_11)), (2, .int (jz bz_6)), (6, .int (jz r_3)), (5, .int (jz v_2)), (4, .int (jz e9)), (3, .int (jz 4)), (1, .ref x), (0, .ref ba)]) hx hb dL_law_124 hl (by decide) rfl (fun ls hl => ?_)
          refine lv_iload hx hb dL_law_126 (lv_at hl 2 rfl) ?_
          refine jv_if_lt (tgt := 212) hx hb dL_law_128 (by decide) (by omega) (fun c_13 => ?_) (fun c_13 => ?_)
          · exfalso; omega
          · refine lv_iload hx hb dL_law_131 (lv_at hl 0 rfl) ?_
            refine jv_iconst hx hb dL_law_133 ?_
            refine jv_icmp_lt (tgt := 212) hx hb dL_law_134 (by decide) (by omega) (by omega) (fun c_14 => ?_) (fun c_14 => ?_)
            · exfalso; omega
            · have K151 : ∀ (bs9 : List va_W) (H : Heap) (locs : List Loc), INV G x 4 bz_6 (B + 2000) 20 bs9 → wP G bs9 H → wD A bs9 → va_S A s.heap H locs → W p l e room_1 s m args below meth c H locs (cl + 10) (sl + 94) Q (F0 m 151 ls []) := by
                intro bs9 H locs hI hP hD hS
                have K166 : ∀ (bs9 : List va_W) (H : Heap) (locs : List Loc), INV G x 4 bz_6 (B + 2000) 20 bs9 → wP G bs9 H → wD A bs9 → va_S A s.heap H locs → W p l e room_1 s m args below meth c H locs (cl + 11) (sl + 98) Q (F0 m 166 ls []) := by
                  intro bs9 H locs hI hP hD hS
                  have K181 : ∀ (bs9 : List va_W) (H : Heap) (locs : List Loc), INV G x 4 bz_6 (B + 2000) 20 bs9 → wP G bs9 H → wD A bs9 → va_S A s.heap H locs → W p l e room_1 s m args below meth c H locs (cl + 11) (sl + 98) Q (F0 m 181 ls []) := by
                    intro bs9 H locs hI hP hD hS
                    refine lv_aload_n hx hb dL_law_181 rfl (lv_at hl 6 rfl) ?_
                    refine lv_iload_n hx hb dL_law_182 rfl (lv_at hl 1 rfl) ?_
                    refine w_measure hF hI hP hD hS hl (by omega) ⟨show cl + 11 ≤ 600130 by omega, show sl + 98 ≤ 7301080 by omega⟩ (fun bs9 H locs hI hP hD hS => ?_)
                    show W p l e room_1 s m args below meth c H locs (cl + 11) (sl + 98) Q (F0 m 186 ls [.int (jz 1)])
                    refine jv_if_eq (tgt := 212) hx hb dL_law_186 (by decide) (by omega) (fun c_15 => ?_) (fun c_15 => ?_)
                    · exfalso; omega
                    · have K214 : ∀ (al9 : Int) (bs9 : List va_W) (H : Heap) (locs : List Loc), INV G x al9 bz_6 (B + 2000 + 4000) 20 bs9 → wP G bs9 H → wD A bs9 → va_S A s.heap H locs → W p l e room_1 s m args below meth c H locs (cl + 21) (sl + 192) Q (F0 m 214 ls []) := by
                        intro al9 bs9 H locs hI hP hD hS
                        refine jv_iinc (lv' := [(4, .int (jz (e9 + 1))), (7, .int (jz r_11)), (2, .int (jz bz_6)), (6, .int (jz r_3)), (5, .int (jz v_2)), (3, .int (jz 4)), (1, .ref x), (0, .ref ba)]) (k := 4) hx hb dL_law_214 hl rfl (by decide) rfl (fun ls hl => ?_)
                        refine lv_goto (tgt := 54) hx hb dL_law_217 (by decide) ?_
                        exact ih (e9 + 1) al9 bz_6 (B + 2000 + 4000) (cl + 21) (sl + 192) bs9 H locs ls (by omega) (by omega) (by omega) (by omega) (by omega) hI hP hD hS (lv_sub hl [0, 5, 2, 6, 7] rfl)
                      refine lv_iload hx hb dL_law_189 (lv_at hl 4 rfl) ?_
                      refine jv_bipush hx hb dL_law_191 (by decide) ?_
                      refine jv_irem hx hb dL_law_193 (by omega) (by omega) (by omega) (by omega) ?_
                      refine jv_iconst hx hb dL_law_194 ?_
                      refine jv_icmp_ne (tgt := 214) hx hb dL_law_195 (by decide) (by omega) (by omega) (fun c_16 => ?_) (fun c_16 => ?_)
                      · refine W.widen (k := cl + 21) (n := sl + 192) (by omega) (by omega) ?_
                        exact K214 4 bs9 H locs hI hP hD hS
                      · refine lv_aload_n hx hb dL_law_198 rfl (lv_at hl 6 rfl) ?_
                        refine lv_iload hx hb dL_law_199 (lv_at hl 3 rfl) ?_
                        refine jv_iconst hx hb dL_law_201 ?_
                        refine jv_ishr hx hb dL_law_202 ?_
                        refine jv_iconst hx hb dL_law_203 ?_
                        refine jv_iand hx hb dL_law_204 ?_
                        have ha_17 := an_bd (sh v_2 3) (y := 1) (by decide) (by decide)
                        refine lv_iload_n hx hb dL_law_205 rfl (lv_at hl 5 rfl) ?_
                        refine w_rep hF hI hP hD hS hl (by omega) ⟨show cl + 21 ≤ 600130 by omega, show sl + 192 ≤ 7301080 by omega⟩ (fun al_18 bs9 H locs hI hP hD hS => ?_)
                        show W p l e room_1 s m args below meth c H locs (cl + 21) (sl + 192) Q (F0 m 209 ls [.int (jz 1)])
                        refine jv_if_ne (tgt := 214) hx hb dL_law_209 (by decide) (by omega) (fun c_19 => ?_) (fun c_19 => ?_)
                        · exact K214 al_18 bs9 H locs hI hP hD hS
                        · exfalso; omega
                  refine lv_iload hx hb dL_law_166 (lv_at hl 4 rfl) ?_
                  refine jv_iconst hx hb dL_law_168 ?_
                  refine jv_irem hx hb dL_law_169 (by omega) (by omega) (by omega) (by omega) ?_
                  refine jv_iconst hx hb dL_law_170 ?_
                  refine jv_icmp_ne (tgt := 181) hx hb dL_law_171 (by decide) (by omega) (by omega) (fun c_20 => ?_) (fun c_20 => ?_)
                  · exact K181 bs9 H locs hI hP hD hS
                  · refine lv_aload_n hx hb dL_law_174 rfl (lv_at hl 6 rfl) ?_
                    refine w_bounds hF hI hP hD hS hl  ⟨show cl + 11 ≤ 600130 by omega, show sl + 98 ≤ 7301080 by omega⟩ (fun bs9 H locs hI hP hD hS => ?_)
                    show W p l e room_1 s m args below meth c H locs (cl + 11) (sl + 98) Q (F0 m 178 ls [.int (jz 1)])
                    refine jv_if_eq (tgt := 212) hx hb dL_law_178 (by decide) (by omega) (fun c_21 => ?_) (fun c_21 => ?_)
                    · exfalso; omega
                    · exact K181 bs9 H locs hI hP hD hS
                refine lv_iload hx hb dL_law_151 (lv_at hl 4 rfl) ?_
                refine jv_iconst hx hb dL_law_153 ?_
                refine jv_irem hx hb dL_law_154 (by omega) (by omega) (by omega) (by omega) ?_
                refine jv_iconst hx hb dL_law_155 ?_
                refine jv_icmp_ne (tgt := 166) hx hb dL_law_156 (by decide) (by omega) (by omega) (fun c_22 => ?_) (fun c_22 => ?_)
                · refine W.widen (k := cl + 11) (n := sl + 98) (by omega) (by omega) ?_
                  exact K166 bs9 H locs hI hP hD hS
                · refine lv_aload_n hx hb dL_law_159 rfl (lv_at hl 6 rfl) ?_
                  refine w_way hF hI hP hD hS hl  ⟨show cl + 11 ≤ 600130 by omega, show sl + 98 ≤ 7301080 by omega⟩ (fun bs9 H locs hI hP hD hS => ?_)
                  show W p l e room_1 s m args below meth c H locs (cl + 11) (sl + 98) Q (F0 m 163 ls [.int (jz 1)])
                  refine jv_if_eq (tgt := 212) hx hb dL_law_163 (by decide) (by omega) (fun c_23 => ?_) (fun c_23 => ?_)
                  · exfalso; omega
                  · exact K166 bs9 H locs hI hP hD hS
              refine lv_iload hx hb dL_law_137 (lv_at hl 4 rfl) ?_
              refine jv_iconst hx hb dL_law_139 ?_
              refine jv_irem hx hb dL_law_140 (by omega) (by omega) (by omega) (by omega) ?_
              refine jv_if_ne (tgt := 151) hx hb dL_law_141 (by decide) (by omega) (fun c_24 => ?_) (fun c_24 => ?_)
              · exact K151 bs9 H locs hI hP hD hS
              · refine lv_aload_n hx hb dL_law_144 rfl (lv_at hl 6 rfl) ?_
                refine w_grid hF hI hP hD hS hl  ⟨show cl + 10 ≤ 600130 by omega, show sl + 94 ≤ 7301080 by omega⟩ (fun bs9 H locs hI hP hD hS => ?_)
                show W p l e room_1 s m args below meth c H locs (cl + 10) (sl + 94) Q (F0 m 148 ls [.int (jz 1)])
                refine jv_if_eq (tgt := 212) hx hb dL_law_148 (by decide) (by omega) (fun c_25 => ?_) (fun c_25 => ?_)
                · exfalso; omega
                · exact K151 bs9 H locs hI hP hD hS
        refine lv_iload hx hb dL_law_86 (lv_at hl 1 rfl) ?_
        refine jv_bipush hx hb dL_law_88 (by decide) ?_
        refine jv_iand hx hb dL_law_90 ?_
        have ha_26 := an_bd v_2 (y := 15) (by decide) (by decide)
        refine jv_bipush hx hb dL_law_91 (by decide) ?_
        refine jv_icmp_ne (tgt := 117) hx hb dL_law_93 (by decide) (by omega) (by omega) (fun c_27 => ?_) (fun c_27 => ?_)
        · refine lv_iload_n hx hb dL_law_117 rfl (lv_at hl 4 rfl) ?_
          refine jv_to (z' := bz_6) (by rw [hbz_8]; first | rw [if_neg (by omega)] | rw [if_pos ⟨by omega, by omega⟩]) ?_
          exact K118
        · refine lv_iload hx hb dL_law_96 (lv_at hl 1 rfl) ?_
          refine jv_iconst hx hb dL_law_98 ?_
          refine jv_ishr hx hb dL_law_99 ?_
          refine jv_iconst hx hb dL_law_100 ?_
          refine jv_iand hx hb dL_law_101 ?_
          have ha_28 := an_bd (sh v_2 5) (y := 3) (by decide) (by decide)
          refine jv_if_ne (tgt := 117) hx hb dL_law_102 (by decide) (by omega) (fun c_29 => ?_) (fun c_29 => ?_)
          · refine lv_iload_n hx hb dL_law_117 rfl (lv_at hl 4 rfl) ?_
            refine jv_to (z' := bz_6) (by rw [hbz_8]; first | rw [if_neg (by omega)] | rw [if_pos ⟨by omega, by omega⟩]) ?_
            exact K118
          · refine jv_iconst hx hb dL_law_105 ?_
            refine lv_iload hx hb dL_law_106 (lv_at hl 1 rfl) ?_
            refine jv_bipush hx hb dL_law_108 (by decide) ?_
            refine jv_ishr hx hb dL_law_110 ?_
            refine jv_iconst hx hb dL_law_111 ?_
            refine jv_iand hx hb dL_law_112 ?_
            have ha_30 := an_bd (sh v_2 7) (y := 1) (by decide) (by decide)
            refine jv_iadd hx hb dL_law_113 ?_
            refine lv_goto (tgt := 118) hx hb dL_law_114 (by decide) ?_
            refine jv_to (z' := bz_6) (by rw [hbz_8]; first | rw [if_neg (by omega)] | rw [if_pos ⟨by omega, by omega⟩]) ?_
            exact K118
      · exfalso; omega
