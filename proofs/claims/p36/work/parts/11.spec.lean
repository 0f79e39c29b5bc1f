/-! distances, as numbers: c is 1 for the distance, 0 for the search -/
def cst (x y : Int) : Int := if x = y then 0 else 1
theorem cst_bd (x y : Int) : 0 ≤ cst x y ∧ cst x y ≤ 1 := by unfold cst; split <;> omega
theorem cst_comm (x y : Int) : cst x y = cst y x := by
  unfold cst
  by_cases h : x = y
  · rw [if_pos h, if_pos h.symm]
  · rw [if_neg h, if_neg (fun e => h e.symm)]
def dN (c : Int) (a b : Int → Int) : Nat → Nat → Int
  | 0, j => j
  | i + 1, 0 => ((i : Int) + 1) * c
  | i + 1, j + 1 => min (min (dN c a b i (j + 1)) (dN c a b (i + 1) j) + 1) (dN c a b i j + cst (a i) (b j))
def D (c : Int) (a b : Int → Int) (i j : Int) : Int := dN c a b i.toNat j.toNat
theorem D_0 (c : Int) (a b : Int → Int) {i j : Int} (hi : i = 0) (h : 0 ≤ j) : D c a b i j = j := by
  subst hi
  unfold D
  rw [Int.toNat_zero, dN]
  omega
theorem D_l (c : Int) (a b : Int → Int) {i j : Int} (hj : j = 0) (h : 0 ≤ i) : D c a b i j = i * c := by
  subst hj
  obtain ⟨n, rfl⟩ := Int.eq_ofNat_of_zero_le h
  unfold D
  cases n with
  | zero => rw [Int.toNat_zero]; show dN c a b 0 0 = _; rw [dN]; simp
  | succ n => show dN c a b (n + 1) 0 = _; rw [dN]; rfl
theorem D_s (c : Int) (a b : Int → Int) {i j : Int} (hi : 0 < i) (hj : 0 < j) : D c a b i j = min (min (D c a b (i - 1) j) (D c a b i (j - 1)) + 1) (D c a b (i - 1) (j - 1) + cst (a (i - 1)) (b (j - 1))) := by
  obtain ⟨n, hn⟩ : ∃ n : Nat, i = (n : Int) + 1 := ⟨(i - 1).toNat, by omega⟩
  obtain ⟨k, hk⟩ : ∃ k : Nat, j = (k : Int) + 1 := ⟨(j - 1).toNat, by omega⟩
  subst hn; subst hk
  have e1 : ((n : Int) + 1).toNat = n + 1 := by omega
  have e2 : ((k : Int) + 1).toNat = k + 1 := by omega
  have e3 : ((n : Int) + 1 - 1) = n := by omega
  have e4 : ((k : Int) + 1 - 1) = k := by omega
  unfold D
  rw [e3, e4, e1, e2, Int.toNat_natCast, Int.toNat_natCast, dN]
theorem dN_bd {c : Int} (hc : c = 0 ∨ c = 1) (a b : Int → Int) : ∀ i j : Nat, 0 ≤ dN c a b i j ∧ dN c a b i j ≤ i + j := by
  intro i
  induction i with
  | zero => intro j; rw [dN]; omega
  | succ i ih =>
    intro j
    induction j with
    | zero => rw [dN]; rcases hc with h | h <;> rw [h] <;> omega
    | succ j ihj =>
      have h1 := ih (j + 1)
      have h2 := ih j
      have h3 := cst_bd (a i) (b j)
      rw [dN]
      omega
theorem D_bd {c : Int} (hc : c = 0 ∨ c = 1) (a b : Int → Int) {i j : Int} (hi : 0 ≤ i) (hj : 0 ≤ j) : 0 ≤ D c a b i j ∧ D c a b i j ≤ i + j := by
  have h := dN_bd hc a b i.toNat j.toNat
  unfold D
  omega
theorem dN_cg (c : Int) {a b a' b' : Int → Int} : ∀ i j : Nat, (∀ k : Int, 0 ≤ k → k < i → a k = a' k) → (∀ k : Int, 0 ≤ k → k < j → b k = b' k) → dN c a b i j = dN c a' b' i j := by
  intro i
  induction i with
  | zero => intro j _ _; rw [dN, dN]
  | succ i ih =>
    intro j
    induction j with
    | zero => intro _ _; rw [dN, dN]
    | succ j ihj =>
      intro h1 h2
      rw [dN, dN, ih (j + 1) (fun k p q => h1 k p (by omega)) h2, ihj h1 (fun k p q => h2 k p (by omega)), ih j (fun k p q => h1 k p (by omega)) (fun k p q => h2 k p (by omega)), h1 i (by omega) (by omega), h2 j (by omega) (by omega)]
theorem D_cg (c : Int) {a b a' b' : Int → Int} {i j : Int} (h1 : ∀ k : Int, 0 ≤ k → k < i → a k = a' k) (h2 : ∀ k : Int, 0 ≤ k → k < j → b k = b' k) : D c a b i j = D c a' b' i j :=
  dN_cg c _ _ (fun k p q => h1 k p (by omega)) (fun k p q => h2 k p (by omega))
theorem up_row {h : Int → Int} {F : Int → Int → Int} {i j n2 v : Int} (hn : n2 ≤ 20) (hj : 0 ≤ j ∧ j ≤ n2) (hh : ∀ x y : Int, 0 ≤ x → 0 ≤ y → y ≤ n2 → (x < i ∨ (x = i ∧ y < j)) → h (x * 21 + y) = F x y) (hv : v = F i j) :
    ∀ x y : Int, 0 ≤ x → 0 ≤ y → y ≤ n2 → (x < i ∨ (x = i ∧ y < j + 1)) → up h (i * 21 + j) v (x * 21 + y) = F x y := by
  intro x y h1 h2 h3 h4
  unfold up
  by_cases e : x * 21 + y = i * 21 + j
  · have e1 : x = i := by omega
    have e2 : y = j := by omega
    rw [if_pos e, hv, e1, e2]
  · rw [if_neg e]
    exact hh x y h1 h2 h3 (by omega)
