/-! the way -/
def stp (a b : Int → Int) (i j : Int) : Int :=
  if 0 < i ∧ 0 < j ∧ D 1 a b i j = D 1 a b (i - 1) (j - 1) + cst (a (i - 1)) (b (j - 1)) then cst (a (i - 1)) (b (j - 1))
  else if 0 < i ∧ D 1 a b i j = D 1 a b (i - 1) j + 1 then 2 else 3
theorem stp_bd {a b : Int → Int} {i j : Int} (hi : 0 ≤ i) (hj : 0 ≤ j) (h : 0 < i ∨ 0 < j) :
    0 ≤ stp a b i j ∧ stp a b i j ≤ 3 ∧ (stp a b i j = 3 → 0 < j) ∧ (stp a b i j = 2 → 0 < i) ∧ (stp a b i j ≤ 1 → 0 < i ∧ 0 < j) := by
  have hc := cst_bd (a (i - 1)) (b (j - 1))
  unfold stp
  by_cases h1 : 0 < i ∧ 0 < j ∧ D 1 a b i j = D 1 a b (i - 1) (j - 1) + cst (a (i - 1)) (b (j - 1))
  · rw [if_pos h1]
    omega
  · rw [if_neg h1]
    by_cases h2 : 0 < i ∧ D 1 a b i j = D 1 a b (i - 1) j + 1
    · rw [if_pos h2]
      omega
    · rw [if_neg h2]
      refine ⟨by omega, by omega, fun _ => ?_, by omega, by omega⟩
      by_cases h3 : 0 < j
      · exact h3
      · have hj0 : j = 0 := by omega
        have e1 := D_l 1 a b hj0 hi
        have e2 := D_l 1 a b (i := i - 1) hj0 (by omega)
        exact absurd ⟨by omega, by omega⟩ h2
def wayN (a b : Int → Int) : Nat → Int → Int → List Int
  | 0, _, _ => []
  | f + 1, i, j => if 0 < i ∨ 0 < j then stp a b i j :: wayN a b f (if stp a b i j = 3 then i else i - 1) (if stp a b i j = 2 then j else j - 1) else []
def way (a b : Int → Int) (i j : Int) : List Int := wayN a b 40 i j
def wL (a b : Int → Int) (i j : Int) : Int := (way a b i j).length
def wA (a b : Int → Int) (i j x : Int) : Int := (way a b i j).getD x.toNat 0
/-- k steps of the way are told, and it goes on from (i, j) -/
def wInv (a b : Int → Int) (i0 j0 k i j : Int) : Prop := 0 ≤ k ∧ 0 ≤ i ∧ 0 ≤ j ∧ i + j + k ≤ 40 ∧ i ≤ i0 ∧ j ≤ j0 ∧ (way a b i0 j0).drop k.toNat = wayN a b (40 - k.toNat) i j
theorem wInv_0 {a b : Int → Int} {i j : Int} (hi : 0 ≤ i ∧ i ≤ 20) (hj : 0 ≤ j ∧ j ≤ 20) : wInv a b i j 0 i j := ⟨by omega, by omega, by omega, by omega, by omega, by omega, rfl⟩
theorem wInv_end {a b : Int → Int} {i0 j0 k i j : Int} (h : wInv a b i0 j0 k i j) (hi : i ≤ 0) (hj : j ≤ 0) (hk : k = 0 ∨ k.toNat ≤ (way a b i0 j0).length) : k = wL a b i0 j0 := by
  obtain ⟨h1, h2, h3, h4, h5, h6, h7⟩ := h
  have e : (way a b i0 j0).drop k.toNat = [] := by
    rw [h7]
    cases 40 - k.toNat with
    | zero => rfl
    | succ f => rw [wayN, if_neg (by omega)]
  have e2 := List.drop_eq_nil_iff.mp e
  unfold wL
  omega
theorem wInv_step {a b : Int → Int} {i0 j0 k i j : Int} (h : wInv a b i0 j0 k i j) (hij : 0 < i ∨ 0 < j) :
    k < 40 ∧ k.toNat < (way a b i0 j0).length ∧ wA a b i0 j0 k = stp a b i j ∧ wInv a b i0 j0 (k + 1) (if stp a b i j = 3 then i else i - 1) (if stp a b i j = 2 then j else j - 1) := by
  obtain ⟨h1, h2, h3, h4, h5, h6, h7⟩ := h
  have hb := stp_bd (a := a) (b := b) h2 h3 hij
  obtain ⟨f, hf⟩ : ∃ f, 40 - k.toNat = f + 1 := ⟨39 - k.toNat, by omega⟩
  rw [hf, wayN, if_pos hij] at h7
  have hl : k.toNat < (way a b i0 j0).length := by
    have := congrArg List.length h7
    rw [List.length_drop, List.length_cons] at this
    omega
  have e0 : (k + 1).toNat = k.toNat + 1 := by omega
  refine ⟨by omega, hl, ?_, by omega, ?_, ?_, ?_, ?_, ?_, ?_⟩
  · unfold wA
    rw [List.getD_eq_getElem?_getD, ← List.head?_drop, h7]
    rfl
  · split <;> omega
  · split <;> omega
  · split <;> split <;> omega
  · split <;> omega
  · split <;> omega
  · rw [e0, show 40 - (k.toNat + 1) = f by omega, ← List.drop_drop, h7]
    rfl
/-! counting -/
def cntF (f : Int → Int) (v : Int) : Nat → Int
  | 0 => 0
  | n + 1 => cntF f v n + if f n = v then 1 else 0
def cnt (f : Int → Int) (v n : Int) : Int := cntF f v n.toNat
theorem cnt_0 (f : Int → Int) (v : Int) : cnt f v 0 = 0 := rfl
theorem cnt_s (f : Int → Int) (v : Int) {n : Int} (h : 0 ≤ n) : cnt f v (n + 1) = cnt f v n + if f n = v then 1 else 0 := by
  unfold cnt
  rw [show (n + 1).toNat = n.toNat + 1 by omega, cntF, Int.toNat_of_nonneg h]
theorem cnt_bd (f : Int → Int) (v : Int) {n : Int} (h : 0 ≤ n) : 0 ≤ cnt f v n ∧ cnt f v n ≤ n := by
  have key : ∀ k : Nat, 0 ≤ cntF f v k ∧ cntF f v k ≤ k := by
    intro k
    induction k with
    | zero => exact ⟨Int.le_refl 0, Int.le_refl 0⟩
    | succ k ih => rw [cntF]; split <;> omega
  have := key n.toNat
  unfold cnt
  omega
theorem cntF_cg {f g : Int → Int} (v : Int) : ∀ n : Nat, (∀ x : Int, 0 ≤ x → x < n → f x = g x) → cntF f v n = cntF g v n := by
  intro n
  induction n with
  | zero => intro _; rfl
  | succ n ih => intro h; rw [cntF, cntF, ih (fun x h1 h2 => h x h1 (by omega)), h n (by omega) (by omega)]
theorem cntF_front (f : Int → Int) (v : Int) : ∀ n : Nat, cntF f v (n + 1) = (if f 0 = v then 1 else 0) + cntF (fun x => f (x + 1)) v n := by
  intro n
  induction n with
  | zero => rw [cntF, cntF, cntF]; simp
  | succ n ih => rw [cntF, ih, cntF]; simp only [Int.natCast_add, Int.cast_ofNat_Int]; omega
theorem cntF_rev (f : Int → Int) (v : Int) : ∀ n : Nat, cntF (fun x => f ((n : Int) - 1 - x)) v n = cntF f v n := by
  intro n
  induction n with
  | zero => rfl
  | succ n ih =>
    rw [cntF_front, cntF, ← ih, cntF_cg v n (g := fun x => f ((n : Int) - 1 - x)) (fun x h1 h2 => congrArg f (by omega))]
    have e : ((n + 1 : Nat) : Int) - 1 - 0 = n := by omega
    rw [e]
    omega
theorem cnt_rev (f : Int → Int) (v : Int) {n : Int} (h : 0 ≤ n) : cnt (fun x => f (n - 1 - x)) v n = cnt f v n := by
  unfold cnt
  have := cntF_rev f v n.toNat
  rw [Int.toNat_of_nonneg h] at this
  exact this
theorem cnt_cg {f g : Int → Int} (v : Int) {n : Int} (h : ∀ x : Int, 0 ≤ x → x < n → f x = g x) : cnt f v n = cnt g v n := cntF_cg v n.toNat (fun x h1 h2 => h x h1 (by omega))
/-! the buffer -/
def right (h : Int → Int) (k b : Int) : Prop := (97 ≤ h k ∧ h k ≤ 100 ∧ k - (b + 1) < 20) ∨ (h k = 124 ∧ b < 0)
def scN (h : Int → Int) : Nat → Int × Int
  | 0 => (0, -1)
  | k + 1 => if (scN h k).1 < k then scN h k else if (97 ≤ h k ∧ h k ≤ 100 ∧ (k : Int) - ((scN h k).2 + 1) < 20) ∨ (h k = 124 ∧ (scN h k).2 < 0) then ((k : Int) + 1, if h k = 124 then (k : Int) else (scN h k).2) else scN h k
def sc (h : Int → Int) (k : Int) : Int × Int := scN h k.toNat
theorem sc_0 (h : Int → Int) : sc h 0 = (0, -1) := rfl
theorem sc_ok {h : Int → Int} {k b : Int} (hk : 0 ≤ k) (e : sc h k = (k, b)) (r : right h k b) : sc h (k + 1) = (k + 1, if h k = 124 then k else b) := by
  unfold sc at e ⊢
  rw [show (k + 1).toNat = k.toNat + 1 by omega, scN, e, Int.toNat_of_nonneg hk, if_neg (by show ¬ k < k; omega)]
  exact if_pos r
theorem sc_err {h : Int → Int} {k b : Int} (hk : 0 ≤ k) (e : sc h k = (k, b)) (r : ¬ right h k b) {n : Int} (hn : k ≤ n) : sc h n = (k, b) := by
  have key : ∀ d : Nat, scN h (k.toNat + d) = (k, b) := by
    intro d
    induction d with
    | zero => exact e
    | succ d ih =>
      rw [show k.toNat + (d + 1) = (k.toNat + d) + 1 by omega, scN, ih]
      by_cases hd : k < ((k.toNat + d : Nat) : Int)
      · rw [if_pos hd]
      · rw [if_neg hd]
        have e2 : ((k.toNat + d : Nat) : Int) = k := by omega
        rw [e2]
        exact if_neg r
  have := key (n - k).toNat
  unfold sc
  rw [show n.toNat = k.toNat + (n - k).toNat by omega]
  exact this
theorem scN_good (h : Int → Int) : ∀ k : Nat, 0 ≤ (scN h k).1 ∧ (scN h k).1 ≤ k ∧ -1 ≤ (scN h k).2 ∧ ((scN h k).2 < (scN h k).1) ∧ (scN h k).2 ≤ 20 ∧ (scN h k).1 - (scN h k).2 - 1 ≤ 20 ∧ (0 ≤ (scN h k).2 → h (scN h k).2 = 124) ∧ ∀ x : Int, 0 ≤ x → x < (scN h k).1 → x ≠ (scN h k).2 → 97 ≤ h x ∧ h x ≤ 100 := by
  intro k
  induction k with
  | zero => exact ⟨Int.le_refl 0, Int.le_refl 0, Int.le_refl _, (by show (-1 : Int) < 0; decide), (by show (-1 : Int) ≤ 20; decide), (by show (0 : Int) - (-1) - 1 ≤ 20; decide), fun q => absurd q (by show ¬ (0 : Int) ≤ -1; decide), fun x h1 h2 => absurd h2 (Int.not_lt.mpr h1)⟩
  | succ k ih =>
    obtain ⟨h1, h2, h3, h4, h5, h6, h7, h8⟩ := ih
    rw [scN]
    by_cases c1 : (scN h k).1 < k
    · rw [if_pos c1]
      exact ⟨h1, by omega, h3, h4, h5, h6, h7, h8⟩
    · rw [if_neg c1]
      have e1 : (scN h k).1 = k := by omega
      by_cases c2 : (97 ≤ h k ∧ h k ≤ 100 ∧ (k : Int) - ((scN h k).2 + 1) < 20) ∨ (h k = 124 ∧ (scN h k).2 < 0)
      · rw [if_pos c2]
        by_cases c3 : h k = 124
        · simp only [if_pos c3]
          refine ⟨by omega, by omega, by omega, by omega, by omega, by omega, fun _ => c3, fun x q1 q2 q3 => h8 x q1 (by omega) (by omega)⟩
        · simp only [if_neg c3]
          refine ⟨by omega, by omega, by omega, by omega, by omega, by omega, h7, fun x q1 q2 q3 => ?_⟩
          by_cases c4 : x = k
          · rw [c4]; omega
          · exact h8 x q1 (by omega) q3
      · rw [if_neg c2]
        exact ⟨h1, by omega, h3, h4, h5, h6, h7, h8⟩
theorem sc_good (h : Int → Int) {n k b : Int} (hn : 0 ≤ n) (e : sc h n = (k, b)) : 0 ≤ k ∧ k ≤ n ∧ -1 ≤ b ∧ b < k ∧ b ≤ 20 ∧ k - b - 1 ≤ 20 ∧ (0 ≤ b → h b = 124) ∧ ∀ x : Int, 0 ≤ x → x < k → x ≠ b → 97 ≤ h x ∧ h x ≤ 100 := by
  have g := scN_good h n.toNat
  unfold sc at e
  rw [e] at g
  exact ⟨g.1, by have := g.2.1; omega, g.2.2.1, g.2.2.2.1, g.2.2.2.2.1, g.2.2.2.2.2.1, g.2.2.2.2.2.2.1, g.2.2.2.2.2.2.2⟩
theorem bar_eq {h : Int → Int} {k b r : Int} (h0 : 0 ≤ b) (h1 : b < k) (h8 : ∀ x : Int, 0 ≤ x → x < k → x ≠ b → 97 ≤ h x ∧ h x ≤ 100) (h7 : h b = 124) (hr : (0 ≤ r ∧ r < k ∧ h r = 124 ∧ ∀ x : Int, 0 ≤ x → x < r → h x ≠ 124) ∨ (r = k ∧ ∀ x : Int, 0 ≤ x → x < k → h x ≠ 124)) : r = b := by
  rcases hr with ⟨q1, q2, q3, q4⟩ | ⟨q1, q2⟩
  · by_cases e : r = b
    · exact e
    · have := h8 r q1 q2 e
      omega
  · exact absurd h7 (q2 b h0 h1)
theorem bar_iff {h : Int → Int} {k b r : Int} (hk : 0 ≤ k) (hb : -1 ≤ b) (h1 : b < k ∨ b < k) (h8 : ∀ x : Int, 0 ≤ x → x < k → x ≠ b → 97 ≤ h x ∧ h x ≤ 100) (h7 : 0 ≤ b → h b = 124) (hr : (0 ≤ r ∧ r < k ∧ h r = 124 ∧ ∀ x : Int, 0 ≤ x → x < r → h x ≠ 124) ∨ (r = k ∧ ∀ x : Int, 0 ≤ x → x < k → h x ≠ 124)) : r < k ↔ 0 ≤ b := by
  rcases hr with ⟨q1, q2, q3, q4⟩ | ⟨q1, q2⟩
  · refine ⟨fun _ => ?_, fun _ => q2⟩
    by_cases e : r = b
    · omega
    · have := h8 r q1 q2 e
      omega
  · refine ⟨fun q => by omega, fun q => ?_⟩
    exact absurd (h7 q) (q2 b q (by omega))
