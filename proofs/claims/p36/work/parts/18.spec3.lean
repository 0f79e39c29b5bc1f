/-! a distance out of the two halves -/
def rv (a : Int → Int) (n : Int) : Int → Int := fun k => a (n - 1 - k)
theorem D_down (a b : Int → Int) {i j : Int} (hi : 0 ≤ i) (hj : 0 ≤ j) : D 1 a b (i + 1) j ≤ D 1 a b i j + 1 := by
  by_cases h : j = 0
  · rw [D_l 1 a b h (by omega), D_l 1 a b h hi]; omega
  · have e := D_s 1 a b (i := i + 1) (j := j) (by omega) (by omega)
    rw [show i + 1 - 1 = i by omega] at e
    omega
theorem D_right (a b : Int → Int) {i j : Int} (hi : 0 ≤ i) (hj : 0 ≤ j) : D 1 a b i (j + 1) ≤ D 1 a b i j + 1 := by
  by_cases h : i = 0
  · rw [D_0 1 a b h (by omega), D_0 1 a b h hj]; omega
  · have e := D_s 1 a b (i := i) (j := j + 1) (by omega) (by omega)
    rw [show j + 1 - 1 = j by omega] at e
    omega
theorem D_diag (a b : Int → Int) {i j : Int} (hi : 0 ≤ i) (hj : 0 ≤ j) : D 1 a b (i + 1) (j + 1) ≤ D 1 a b i j + cst (a i) (b j) := by
  have e := D_s 1 a b (i := i + 1) (j := j + 1) (by omega) (by omega)
  rw [show j + 1 - 1 = j by omega, show i + 1 - 1 = i by omega] at e
  omega
theorem split_le (a b : Int → Int) (M N : Int) : ∀ (k : Nat) (i j : Int), 0 ≤ i → i ≤ M → 0 ≤ j → j ≤ N → (M - i) + (N - j) ≤ k → D 1 a b M N ≤ D 1 a b i j + D 1 (rv a M) (rv b N) (M - i) (N - j) := by
  intro k
  induction k with
  | zero =>
    intro i j h1 h2 h3 h4 h5
    have e1 : i = M := by omega
    have e2 : j = N := by omega
    rw [e1, e2]
    have := D_bd (c := 1) (Or.inr rfl) (rv a M) (rv b N) (i := M - M) (j := N - N) (by omega) (by omega)
    omega
  | succ k ih =>
    intro i j h1 h2 h3 h4 h5
    by_cases c1 : i = M
    · by_cases c2 : j = N
      · rw [c1, c2]
        have := D_bd (c := 1) (Or.inr rfl) (rv a M) (rv b N) (i := M - M) (j := N - N) (by omega) (by omega)
        omega
      · have q := ih i (j + 1) h1 h2 (by omega) (by omega) (by omega)
        have e5 := D_0 1 (rv a M) (rv b N) (i := M - i) (j := N - (j + 1)) (by omega) (by omega)
        have e6 := D_0 1 (rv a M) (rv b N) (i := M - i) (j := N - j) (by omega) (by omega)
        have r := D_right a b h1 h3
        omega
    · by_cases c2 : j = N
      · have q := ih (i + 1) j (by omega) (by omega) h3 h4 (by omega)
        have e5 := D_l 1 (rv a M) (rv b N) (i := M - (i + 1)) (j := N - j) (by omega) (by omega)
        have e6 := D_l 1 (rv a M) (rv b N) (i := M - i) (j := N - j) (by omega) (by omega)
        have r := D_down a b h1 h3
        omega
      · have q1 := ih i (j + 1) h1 h2 (by omega) (by omega) (by omega)
        have q2 := ih (i + 1) j (by omega) (by omega) h3 h4 (by omega)
        have q3 := ih (i + 1) (j + 1) (by omega) (by omega) (by omega) (by omega) (by omega)
        have r1 := D_right a b h1 h3
        have r2 := D_down a b h1 h3
        have r3 := D_diag a b h1 h3
        have e := D_s 1 (rv a M) (rv b N) (i := M - i) (j := N - j) (by omega) (by omega)
        have e1 : rv a M (M - i - 1) = a i := congrArg a (by omega)
        have e2 : rv b N (N - j - 1) = b j := congrArg b (by omega)
        rw [e1, e2] at e
        rw [show N - (j + 1) = N - j - 1 by omega] at q1
        rw [show M - (i + 1) = M - i - 1 by omega] at q2
        rw [show N - (j + 1) = N - j - 1 by omega, show M - (i + 1) = M - i - 1 by omega] at q3
        omega
theorem split_row (a b : Int → Int) (M N : Int) (T : Int) {i : Int} (hi : 0 ≤ i) (hM : i + 1 ≤ M) : ∀ (j : Nat), (j : Int) ≤ N → D 1 a b (i + 1) j + D 1 (rv a M) (rv b N) (M - (i + 1)) (N - j) ≤ T → ∃ y : Int, 0 ≤ y ∧ y ≤ N ∧ D 1 a b i y + D 1 (rv a M) (rv b N) (M - i) (N - y) ≤ T := by
  intro j
  induction j with
  | zero =>
    intro h1 h2
    refine ⟨0, by omega, by omega, ?_⟩
    have z0 : ((0 : Nat) : Int) = 0 := rfl
    rw [z0] at h2
    rw [D_l 1 a b rfl (by omega)] at h2
    rw [D_l 1 a b rfl hi]
    have r := D_down (rv a M) (rv b N) (i := M - (i + 1)) (j := N - 0) (by omega) (by omega)
    rw [show M - (i + 1) + 1 = M - i by omega] at r
    omega
  | succ j ih =>
    intro h1 h2
    have e := D_s 1 a b (i := i + 1) (j := (j : Int) + 1) (by omega) (by omega)
    rw [show i + 1 - 1 = i by omega, show (j : Int) + 1 - 1 = j by omega] at e
    have ej : ((j + 1 : Nat) : Int) = (j : Int) + 1 := by omega
    rw [ej] at h2 h1
    have r1 := D_down (rv a M) (rv b N) (i := M - (i + 1)) (j := N - ((j : Int) + 1)) (by omega) (by omega)
    rw [show M - (i + 1) + 1 = M - i by omega] at r1
    have r2 := D_right (rv a M) (rv b N) (i := M - (i + 1)) (j := N - ((j : Int) + 1)) (by omega) (by omega)
    rw [show N - ((j : Int) + 1) + 1 = N - j by omega] at r2
    have r3 := D_diag (rv a M) (rv b N) (i := M - (i + 1)) (j := N - ((j : Int) + 1)) (by omega) (by omega)
    rw [show M - (i + 1) + 1 = M - i by omega, show N - ((j : Int) + 1) + 1 = N - j by omega] at r3
    have e1 : rv a M (M - (i + 1)) = a i := congrArg a (by omega)
    have e2 : rv b N (N - ((j : Int) + 1)) = b j := congrArg b (by omega)
    rw [e1, e2] at r3
    by_cases c1 : D 1 a b (i + 1) ((j : Int) + 1) = D 1 a b i ((j : Int) + 1) + 1
    · exact ⟨(j : Int) + 1, by omega, by omega, by omega⟩
    · by_cases c2 : D 1 a b (i + 1) ((j : Int) + 1) = D 1 a b i j + cst (a i) (b j)
      · exact ⟨j, by omega, by omega, by omega⟩
      · exact ih (by omega) (by omega)
theorem split_ge (a b : Int → Int) {M N : Int} (hN : 0 ≤ N) : ∀ (k : Nat), (k : Int) ≤ M → ∃ y : Int, 0 ≤ y ∧ y ≤ N ∧ D 1 a b (M - k) y + D 1 (rv a M) (rv b N) k (N - y) ≤ D 1 a b M N := by
  intro k
  induction k with
  | zero =>
    intro h
    refine ⟨N, hN, Int.le_refl N, ?_⟩
    have z0 : ((0 : Nat) : Int) = 0 := rfl
    rw [z0, D_0 1 (rv a M) (rv b N) rfl (by omega), show M - 0 = M by omega]
    omega
  | succ k ih =>
    intro h
    obtain ⟨y, h1, h2, h3⟩ := ih (by omega)
    obtain ⟨j, rfl⟩ := Int.eq_ofNat_of_zero_le h1
    have e1 : M - ((k + 1 : Nat) : Int) + 1 = M - k := by omega
    have e2 : M - (M - ((k + 1 : Nat) : Int) + 1) = k := by omega
    have e3 : M - (M - ((k + 1 : Nat) : Int)) = ((k + 1 : Nat) : Int) := by omega
    have q := split_row a b M N (D 1 a b M N) (i := M - ((k + 1 : Nat) : Int)) (by omega) (by omega) j h2 (by rw [e1, show M - (M - (k : Int)) = k by omega]; exact h3)
    rw [e3] at q
    exact q
/-- the least sum over a row is the distance -/
theorem split_eq (a b : Int → Int) {M N i L : Int} (hN : 0 ≤ N) (hi : 0 ≤ i) (hM : i ≤ M) (h1 : ∀ y : Int, 0 ≤ y → y ≤ N → L ≤ D 1 a b i y + D 1 (rv a M) (rv b N) (M - i) (N - y)) (h2 : ∃ y : Int, 0 ≤ y ∧ y ≤ N ∧ L = D 1 a b i y + D 1 (rv a M) (rv b N) (M - i) (N - y)) : L = D 1 a b M N := by
  obtain ⟨y, q1, q2, q3⟩ := h2
  have r1 := split_le a b M N ((M - i) + (N - y)).toNat i y hi hM q1 q2 (by omega)
  obtain ⟨z, s1, s2, s3⟩ := split_ge a b (M := M) hN (M - i).toNat (by omega)
  have e : ((M - i).toNat : Int) = M - i := Int.toNat_of_nonneg (by omega)
  rw [e, show M - (M - i) = i by omega] at s3
  have r2 := h1 z s1 s2
  omega
theorem dN_sym (a b : Int → Int) : ∀ i j : Nat, dN 1 a b i j = dN 1 b a j i := by
  intro i
  induction i with
  | zero =>
    intro j
    cases j with
    | zero => rw [dN, dN]
    | succ j => rw [dN, dN]; omega
  | succ i ih =>
    intro j
    induction j with
    | zero => rw [dN, dN]; omega
    | succ j ihj =>
      rw [dN, dN, ih (j + 1), ihj, ih j, cst_comm (a i) (b j)]
      omega
theorem D_sym (a b : Int → Int) (i j : Int) : D 1 a b i j = D 1 b a j i := dN_sym a b i.toNat j.toNat
