/-! the model's keys -/
def dA (a b : Int → Int) (i j k : Int) : Int := D 1 a b (i - 1) (j + k) - D 1 a b (i - 1) (j + k - 1) + 1
def dB (a b : Int → Int) (i j k : Int) : Int := D 1 a b (i + k) (j - 1) - D 1 a b (i + k - 1) (j - 1) + 1
def keyM (t : Int) (a b : Int → Int) (i j : Int) : Int :=
  if t = 1 then ((a (i + 0 - 1) * 4 + b (j + 0 - 1)) * 3 + dA a b i j 0) * 3 + dB a b i j 0
  else ((((((a (i + 0 - 1) * 4 + a (i + 1 - 1)) * 4 + b (j + 0 - 1)) * 4 + b (j + 1 - 1)) * 3 + dA a b i j 0) * 3 + dA a b i j 1) * 3 + dB a b i j 0) * 3 + dB a b i j 1
def cv (t k : Int) : Int :=
  if t = 1 then k
  else (k / 3 / 3 / 3 / 3 / 4 / 4 / 4) * 5184 + (k / 3 / 3 / 3 / 3 / 4 % 4) * 1296 + (k / 3 / 3 / 3 % 3) * 432 + (k / 3 % 3) * 144 + (k / 3 / 3 / 3 / 3 / 4 / 4 % 4) * 36 + (k / 3 / 3 / 3 / 3 % 4) * 9 + (k / 3 / 3 % 3) * 3 + k % 3
theorem d3 {x y : Int} (h : 0 ≤ y ∧ y < 3) : (x * 3 + y) / 3 = x := by omega
theorem d4 {x y : Int} (h : 0 ≤ y ∧ y < 4) : (x * 4 + y) / 4 = x := by omega
theorem m3 {x y : Int} (h : 0 ≤ y ∧ y < 3) : (x * 3 + y) % 3 = y := by omega
theorem m4 {x y : Int} (h : 0 ≤ y ∧ y < 4) : (x * 4 + y) % 4 = y := by omega
theorem hor8 {a1 a2 b1 b2 c1 c2 d1 d2 k : Int} (h2 : 0 ≤ a2 ∧ a2 < 4) (h3 : 0 ≤ b1 ∧ b1 < 4) (h4 : 0 ≤ b2 ∧ b2 < 4) (h5 : 0 ≤ c1 ∧ c1 < 3) (h6 : 0 ≤ c2 ∧ c2 < 3) (h7 : 0 ≤ d1 ∧ d1 < 3) (h8 : 0 ≤ d2 ∧ d2 < 3)
    (e : k = ((((((a1 * 4 + a2) * 4 + b1) * 4 + b2) * 3 + c1) * 3 + c2) * 3 + d1) * 3 + d2) (t : Int) (ht : t ≠ 1) :
    cv t k = ((a1 * 4 + b1) * 9 + (c1 * 3 + d1)) * 144 + ((a2 * 4 + b2) * 9 + (c2 * 3 + d2)) := by
  subst e
  unfold cv
  rw [if_neg ht]
  simp only [d3 h8, d3 h7, d3 h6, d3 h5, d4 h4, d4 h3, d4 h2, m3 h8, m3 h7, m3 h6, m3 h5, m4 h4, m4 h3, m4 h2]
  clear h2 h3 h4 h5 h6 h7 h8 ht
  omega
theorem dg3 (k : Int) : ∃ q r : Int, (0 ≤ r ∧ r < 3) ∧ k = q * 3 + r := ⟨k / 3, k % 3, by omega, by omega⟩
theorem dg4 (k : Int) : ∃ q r : Int, (0 ≤ r ∧ r < 4) ∧ k = q * 4 + r := ⟨k / 4, k % 4, by omega, by omega⟩
theorem un3 {x y r s : Int} (h : 0 ≤ r ∧ r < 3) (h2 : 0 ≤ s ∧ s < 3) (e : x * 3 + r = y * 3 + s) : x = y ∧ r = s := by omega
theorem un4 {x y r s : Int} (h : 0 ≤ r ∧ r < 4) (h2 : 0 ≤ s ∧ s < 4) (e : x * 4 + r = y * 4 + s) : x = y ∧ r = s := by omega
theorem un9 {x y r s : Int} (h : 0 ≤ r ∧ r < 9) (h2 : 0 ≤ s ∧ s < 9) (e : x * 9 + r = y * 9 + s) : x = y ∧ r = s := by omega
theorem un144 {x y r s : Int} (h : 0 ≤ r ∧ r < 144) (h2 : 0 ≤ s ∧ s < 144) (e : x * 144 + r = y * 144 + s) : x = y ∧ r = s := by omega
theorem bd9 {c d : Int} (h : 0 ≤ c ∧ c < 3) (h2 : 0 ≤ d ∧ d < 3) : 0 ≤ c * 3 + d ∧ c * 3 + d < 9 := by omega
theorem bd144 {a b c : Int} (h : 0 ≤ a ∧ a < 4) (h2 : 0 ≤ b ∧ b < 4) (h3 : 0 ≤ c ∧ c < 9) : 0 ≤ (a * 4 + b) * 9 + c ∧ (a * 4 + b) * 9 + c < 144 := by omega
theorem cv_inj {t k k2 : Int} (e : cv t k = cv t k2) : k = k2 := by
  by_cases ht : t = 1
  · unfold cv at e
    rw [if_pos ht, if_pos ht] at e
    exact e
  · obtain ⟨k1, d2, g8, rfl⟩ := dg3 k
    obtain ⟨k1, d1, g7, rfl⟩ := dg3 k1
    obtain ⟨k1, c2, g6, rfl⟩ := dg3 k1
    obtain ⟨k1, c1, g5, rfl⟩ := dg3 k1
    obtain ⟨k1, b2, g4, rfl⟩ := dg4 k1
    obtain ⟨k1, b1, g3, rfl⟩ := dg4 k1
    obtain ⟨a1, a2, g2, rfl⟩ := dg4 k1
    obtain ⟨k1, w2, f8, rfl⟩ := dg3 k2
    obtain ⟨k1, w1, f7, rfl⟩ := dg3 k1
    obtain ⟨k1, z2, f6, rfl⟩ := dg3 k1
    obtain ⟨k1, z1, f5, rfl⟩ := dg3 k1
    obtain ⟨k1, y2, f4, rfl⟩ := dg4 k1
    obtain ⟨k1, y1, f3, rfl⟩ := dg4 k1
    obtain ⟨x1, x2, f2, rfl⟩ := dg4 k1
    rw [hor8 g2 g3 g4 g5 g6 g7 g8 rfl t ht, hor8 f2 f3 f4 f5 f6 f7 f8 rfl t ht] at e
    obtain ⟨e1, e2⟩ := un144 (bd144 g2 g4 (bd9 g6 g8)) (bd144 f2 f4 (bd9 f6 f8)) e
    obtain ⟨e3, e4⟩ := un9 (bd9 g5 g7) (bd9 f5 f7) e1
    obtain ⟨e5, e6⟩ := un9 (bd9 g6 g8) (bd9 f6 f8) e2
    obtain ⟨q1, q2⟩ := un4 g3 f3 e3
    obtain ⟨q3, q4⟩ := un3 g7 f7 e4
    obtain ⟨q5, q6⟩ := un4 g4 f4 e5
    obtain ⟨q7, q8⟩ := un3 g8 f8 e6
    rw [q1, q2, q3, q4, q5, q6, q7, q8]
theorem keyM_bd {t n n2 i j : Int} {g g2 : Int → Int} (ht : t = 1 ∨ t = 2) (hg : ∀ j : Int, 0 ≤ j → j < n → 0 ≤ g j ∧ g j < 4) (hg2 : ∀ j : Int, 0 ≤ j → j < n2 → 0 ≤ g2 j ∧ g2 j < 4) (hi : 1 ≤ i ∧ i + t - 1 ≤ n) (hj : 1 ≤ j ∧ j + t - 1 ≤ n2) : (0 ≤ keyM t g g2 i j ∧ keyM t g g2 i j < 20736) ∧ cv t (keyM t g g2 i j) = keyC t g g2 i j := by
  have a0 := hg (i + 0 - 1) (by omega) (by omega)
  have b0 := hg2 (j + 0 - 1) (by omega) (by omega)
  have h0 := (pk_bd (a := g) (b := g2) (i := i) (j := j) (k := 0) (by omega) (by omega) (by omega) a0 b0).2.2
  have c0 : 0 ≤ dA g g2 i j 0 ∧ dA g g2 i j 0 < 3 := by unfold dA; omega
  have e0 : 0 ≤ dB g g2 i j 0 ∧ dB g g2 i j 0 < 3 := by unfold dB; omega
  have p0 : pk g g2 i j 0 = ((g (i + 0 - 1) * 4 + g2 (j + 0 - 1)) * 3 + dA g g2 i j 0) * 3 + dB g g2 i j 0 := rfl
  rcases ht with e | e
  · have k1 : keyM t g g2 i j = ((g (i + 0 - 1) * 4 + g2 (j + 0 - 1)) * 3 + dA g g2 i j 0) * 3 + dB g g2 i j 0 := by unfold keyM; rw [if_pos e]
    refine ⟨by omega, ?_⟩
    unfold cv keyC
    rw [if_pos e, if_pos e, k1, p0]
  · have a1 := hg (i + 1 - 1) (by omega) (by omega)
    have b1 := hg2 (j + 1 - 1) (by omega) (by omega)
    have h1 := (pk_bd (a := g) (b := g2) (i := i) (j := j) (k := 1) (by omega) (by omega) (by omega) a1 b1).2.2
    have c1 : 0 ≤ dA g g2 i j 1 ∧ dA g g2 i j 1 < 3 := by unfold dA; omega
    have e1 : 0 ≤ dB g g2 i j 1 ∧ dB g g2 i j 1 < 3 := by unfold dB; omega
    have p1 : pk g g2 i j 1 = ((g (i + 1 - 1) * 4 + g2 (j + 1 - 1)) * 3 + dA g g2 i j 1) * 3 + dB g g2 i j 1 := rfl
    have k2 : keyM t g g2 i j = ((((((g (i + 0 - 1) * 4 + g (i + 1 - 1)) * 4 + g2 (j + 0 - 1)) * 4 + g2 (j + 1 - 1)) * 3 + dA g g2 i j 0) * 3 + dA g g2 i j 1) * 3 + dB g g2 i j 0) * 3 + dB g g2 i j 1 := by unfold keyM; rw [if_neg (by omega)]
    refine ⟨by omega, ?_⟩
    rw [hor8 a1 b0 b1 c0 c1 e0 e1 k2 t (by omega)]
    unfold keyC
    rw [if_neg (by omega), p0, p1]
    omega
/-! which keys are met, as the model keeps them -/
def rJ (t : Int) (f : Int → Int) (M : Int → Bool) : Prop := ∀ k : Int, 0 ≤ k → k < 20736 → (f k = 0 ∨ f k = 1) ∧ (f k = 1 ↔ M (cv t k) = true)
def rO (t : Int) (f o : Int → Int) (n : Int) (M : Int → Bool) : Prop := ∀ k : Int, 0 ≤ k → k < 20736 → (0 ≤ o k ∧ o k ≤ n) ∧ ((f k = 1 ∨ o k = n) ↔ M (cv t k) = true)
theorem upB_iff {M : Int → Bool} {x y : Int} : upB M x y = true ↔ (y = x ∨ M y = true) := by
  unfold upB
  by_cases h : y = x
  · rw [if_pos h]; exact ⟨fun _ => Or.inl h, fun _ => rfl⟩
  · rw [if_neg h]; exact ⟨Or.inr, fun q => q.resolve_left h⟩
theorem rO_0 {t n : Int} {f o : Int → Int} {M : Int → Bool} (h : rJ t f M) (ho : ∀ k : Int, 0 ≤ k → k < 20736 → 0 ≤ o k ∧ o k ≤ n) : rO t f o (n + 1) M := by
  intro k h1 h2
  have q := ho k h1 h2
  refine ⟨by omega, ?_⟩
  rw [← (h k h1 h2).2]
  exact ⟨fun z => z.elim id (fun z => by omega), Or.inl⟩
theorem rO_up {t n k : Int} {f o : Int → Int} {M : Int → Bool} (h : rO t f o n M) (hk : 0 ≤ k ∧ k < 20736) (hn : 0 ≤ n) : rO t f (up o k n) n (upB M (cv t k)) := by
  intro y h1 h2
  have q := h y h1 h2
  by_cases e : y = k
  · have e2 : up o k n y = n := by unfold up; rw [if_pos e]
    rw [e2]
    refine ⟨by omega, fun _ => upB_iff.mpr (Or.inl (by rw [e])), fun _ => Or.inr rfl⟩
  · have e2 : up o k n y = o y := by unfold up; rw [if_neg e]
    rw [e2]
    refine ⟨q.1, ?_⟩
    rw [upB_iff]
    exact ⟨fun z => Or.inr (q.2.mp z), fun z => z.elim (fun z => absurd (cv_inj z) e) q.2.mpr⟩
theorem rJ_up {t k : Int} {f : Int → Int} {M : Int → Bool} (h : rJ t f M) (hk : 0 ≤ k ∧ k < 20736) : rJ t (up f k 1) (upB M (cv t k)) := by
  intro y h1 h2
  have q := h y h1 h2
  by_cases e : y = k
  · have e2 : up f k 1 y = 1 := by unfold up; rw [if_pos e]
    rw [e2]
    exact ⟨Or.inr rfl, fun _ => upB_iff.mpr (Or.inl (by rw [e])), fun _ => rfl⟩
  · have e2 : up f k 1 y = f y := by unfold up; rw [if_neg e]
    rw [e2]
    refine ⟨q.1, ?_⟩
    rw [upB_iff]
    exact ⟨fun z => Or.inr (q.2.mp z), fun z => z.elim (fun z => absurd (cv_inj z) e) q.2.mpr⟩
theorem rJ_same {t k : Int} {f : Int → Int} {M : Int → Bool} (h : rJ t f M) (hk : 0 ≤ k ∧ k < 20736) (hm : M (cv t k) = true) : rJ t (up f k 1) M := by
  intro y h1 h2
  have q := h y h1 h2
  by_cases e : y = k
  · have e2 : up f k 1 y = 1 := by unfold up; rw [if_pos e]
    rw [e2]
    exact ⟨Or.inr rfl, fun _ => by rw [e]; exact hm, fun _ => rfl⟩
  · have e2 : up f k 1 y = f y := by unfold up; rw [if_neg e]
    rw [e2]
    exact q
theorem rO_same {t n k : Int} {f o : Int → Int} {M : Int → Bool} (h : rO t f o n M) (hk : 0 ≤ k ∧ k < 20736) (hn : 0 ≤ n) (hm : M (cv t k) = true) : rO t f (up o k n) n M := by
  intro y h1 h2
  have q := h y h1 h2
  by_cases e : y = k
  · have e2 : up o k n y = n := by unfold up; rw [if_pos e]
    rw [e2]
    exact ⟨by omega, fun _ => by rw [e]; exact hm, fun _ => Or.inr rfl⟩
  · have e2 : up o k n y = o y := by unfold up; rw [if_neg e]
    rw [e2]
    exact q
def rP (f o : Int → Int) (n : Int) : Prop := ∀ k : Int, 0 ≤ k → k < 20736 → (0 ≤ o k ∧ o k ≤ n) ∧ (o k = n → f k = 1)
theorem rP_up {n k : Int} {f o : Int → Int} (h : rP f o n) (hn : 0 ≤ n) : rP (up f k 1) (up o k n) n := by
  intro y h1 h2
  have q := h y h1 h2
  unfold up
  by_cases e : y = k
  · rw [if_pos e, if_pos e]
    exact ⟨by omega, fun _ => rfl⟩
  · rw [if_neg e, if_neg e]
    exact q
