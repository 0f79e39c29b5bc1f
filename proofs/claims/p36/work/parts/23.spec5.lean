/-! bounds of the way -/
theorem wayN_bd (a b : Int → Int) : ∀ (f : Nat) (i j : Int), 0 ≤ i → 0 ≤ j → (wayN a b f i j).length ≤ f ∧ ∀ v ∈ wayN a b f i j, 0 ≤ v ∧ v ≤ 3 := by
  intro f
  induction f with
  | zero => intro i j _ _; exact ⟨Nat.le_refl 0, fun v hv => absurd hv List.not_mem_nil⟩
  | succ f ih =>
    intro i j hi hj
    rw [wayN]
    by_cases h : 0 < i ∨ 0 < j
    · rw [if_pos h]
      have hb := stp_bd (a := a) (b := b) hi hj h
      have h1 := ih (if stp a b i j = 3 then i else i - 1) (if stp a b i j = 2 then j else j - 1) (by split <;> omega) (by split <;> omega)
      refine ⟨by rw [List.length_cons]; omega, fun v hv => ?_⟩
      rcases List.mem_cons.mp hv with e | e
      · rw [e]; omega
      · exact h1.2 v e
    · rw [if_neg h]
      exact ⟨Nat.zero_le _, fun v hv => absurd hv List.not_mem_nil⟩
theorem wL_bd (a b : Int → Int) {m n : Int} (hm : 0 ≤ m ∧ m ≤ 20) (hn : 0 ≤ n ∧ n ≤ 20) : 0 ≤ wL a b m n ∧ wL a b m n ≤ 40 := by
  have h := (wayN_bd a b 40 m n hm.1 hn.1).1
  unfold wL way
  omega
theorem wA_bd (a b : Int → Int) {m n : Int} (hm : 0 ≤ m ∧ m ≤ 20) (hn : 0 ≤ n ∧ n ≤ 20) {x : Int} (h0 : 0 ≤ x) (h1 : x < wL a b m n) : 0 ≤ wA a b m n x ∧ wA a b m n x ≤ 3 := by
  have h := (wayN_bd a b 40 m n hm.1 hn.1).2
  unfold wL at h1
  unfold wA
  have hl : x.toNat < (way a b m n).length := by omega
  rw [List.getD_eq_getElem?_getD, List.getElem?_eq_getElem hl]
  exact h _ (List.getElem_mem hl)
