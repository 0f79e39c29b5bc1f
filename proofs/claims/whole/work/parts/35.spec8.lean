/-! texts in the model's one array -/
theorem t9_up {f : Int → Int} {z i v q : Int} : T9 (up f (3 + 20 * z + i) v) z q = up (T9 f z) i v q := by
  unfold up
  by_cases e : q = i
  · rw [if_pos e, e]; exact if_pos rfl
  · rw [if_neg e]; exact if_neg (by omega)
theorem t9_o {f : Int → Int} {z k v q : Int} (hz : 0 ≤ z ∧ z ≤ 1) (hk : 3 + 20 * z ≤ k ∧ k < 23 + 20 * z) (h1 : 0 ≤ q) (h2 : q < 20) : T9 (up f k v) (1 - z) q = T9 f (1 - z) q := by
  unfold up
  exact if_neg (by omega)
theorem up_low {f : Int → Int} {k v q : Int} (hk : 3 ≤ k) (h : q < 3) : up f k v q = f q := by
  unfold up
  exact if_neg (by omega)
theorem t9_n {f : Int → Int} {k v z q : Int} (hk : k ≤ 2) (hz : 0 ≤ z) (h : 0 ≤ q) : T9 (up f k v) z q = T9 f z q := by
  unfold up
  exact if_neg (by omega)
theorem u9eq (f : Int → Int) (k v : Int) : up f k v k = v := by unfold up; exact if_pos rfl
theorem u9ne {f : Int → Int} {k v q : Int} (h : q ≠ k) : up f k v q = f q := by unfold up; exact if_neg h
def shR (f g : Int → Int) (b j n : Int) : Prop := ∀ q : Int, f q = if b + j < q ∧ q ≤ b + n then g (q - 1) else g q
theorem shR_0 (g : Int → Int) (b n : Int) : shR g g b n n := fun q => by rw [if_neg (by omega)]
theorem shR_s {f g : Int → Int} {b j n v k : Int} (h : shR f g b j n) (hj : j ≤ n) (hk : k = j - 1) (hv : v = f (b + (j - 1))) : shR (up f (b + j) v) g b k n := by
  intro q
  subst hk
  unfold up
  by_cases e : q = b + j
  · rw [if_pos e, if_pos (by omega), hv, h, if_neg (by omega), e]
    exact congrArg g (by omega)
  · rw [if_neg e, h]
    by_cases e2 : b + j < q ∧ q ≤ b + n
    · rw [if_pos e2, if_pos (by omega)]
    · rw [if_neg e2, if_neg (by omega)]
theorem shR_o {f g : Int → Int} {b j n q : Int} (h : shR f g b j n) (hq : q ≤ b + j ∨ b + n < q) : f q = g q := by rw [h, if_neg (by omega)]
theorem shR_f {f g : Int → Int} {b i n v q : Int} (h : shR f g b i n) : up f (b + i) v (b + q) = insF (fun j => g (b + j)) i n v q := by
  unfold up insF
  by_cases e : q = i
  · rw [if_pos e, if_pos (by omega)]
  · rw [if_neg e, if_neg (by omega), h]
    by_cases e2 : i < q ∧ q ≤ n
    · rw [if_pos e2, if_pos (by omega)]
      exact congrArg g (by omega)
    · rw [if_neg e2, if_neg (by omega)]
def shL (f g : Int → Int) (b i j : Int) : Prop := ∀ q : Int, f q = if b + i ≤ q ∧ q < b + j then g (q + 1) else g q
theorem shL_0 (g : Int → Int) (b i : Int) : shL g g b i i := fun q => by rw [if_neg (by omega)]
theorem shL_s {f g : Int → Int} {b i j v : Int} (h : shL f g b i j) (hj : i ≤ j) (hv : v = f (b + (j + 1))) : shL (up f (b + j) v) g b i (j + 1) := by
  intro q
  unfold up
  by_cases e : q = b + j
  · rw [if_pos e, if_pos (by omega), hv, h, if_neg (by omega), e]
    exact congrArg g (by omega)
  · rw [if_neg e, h]
    by_cases e2 : b + i ≤ q ∧ q < b + j
    · rw [if_pos e2, if_pos (by omega)]
    · rw [if_neg e2, if_neg (by omega)]
theorem shL_o {f g : Int → Int} {b i j q : Int} (h : shL f g b i j) (hq : q < b + i ∨ b + j ≤ q) : f q = g q := by rw [h, if_neg (by omega)]
theorem shL_f {f g : Int → Int} {b i n q : Int} (h : shL f g b i (n - 1)) : f (b + q) = delF (fun j => g (b + j)) i n q := by
  unfold delF
  rw [h]
  by_cases e : i ≤ q ∧ q < n - 1
  · rw [if_pos e, if_pos (by omega)]
    exact congrArg g (by omega)
  · rw [if_neg e, if_neg (by omega)]
