def exR (f g : Int → Int) (j : Int) : Prop := ∀ q : Int, 0 ≤ q → q < 20 → T9 f 0 q = (if q < j then T9 g 1 q else T9 g 0 q) ∧ T9 f 1 q = (if q < j then T9 g 0 q else T9 g 1 q)
theorem exR_s {f g : Int → Int} {j : Int} (h : exR f g j) (h1 : 0 ≤ j) (h2 : j < 20) : exR (up (up f (3 + j) (T9 f 1 j)) (23 + j) (T9 f 0 j)) g (j + 1) := by
  intro q q1 q2
  have hj := h j h1 h2
  rw [if_neg (Int.lt_irrefl j), if_neg (Int.lt_irrefl j)] at hj
  have hq := h q q1 q2
  by_cases e : q = j
  · subst e
    rw [if_pos (by omega), if_pos (by omega)]
    constructor
    · show up (up f (3 + q) (T9 f 1 q)) (23 + q) (T9 f 0 q) (3 + 20 * 0 + q) = _
      rw [u9ne (by omega), show (3 : Int) + 20 * 0 + q = 3 + q by omega, u9eq]
      exact hj.2
    · show up (up f (3 + q) (T9 f 1 q)) (23 + q) (T9 f 0 q) (3 + 20 * 1 + q) = _
      rw [show (3 : Int) + 20 * 1 + q = 23 + q by omega, u9eq]
      exact hj.1
  · have e1 : T9 (up (up f (3 + j) (T9 f 1 j)) (23 + j) (T9 f 0 j)) 0 q = T9 f 0 q := by
      show up (up f (3 + j) (T9 f 1 j)) (23 + j) (T9 f 0 j) (3 + 20 * 0 + q) = _
      rw [u9ne (by omega), u9ne (by omega)]
    have e2 : T9 (up (up f (3 + j) (T9 f 1 j)) (23 + j) (T9 f 0 j)) 1 q = T9 f 1 q := by
      show up (up f (3 + j) (T9 f 1 j)) (23 + j) (T9 f 0 j) (3 + 20 * 1 + q) = _
      rw [u9ne (by omega), u9ne (by omega)]
    rw [e1, e2]
    by_cases c1 : q < j
    · rw [if_pos c1, if_pos c1] at hq
      rw [if_pos (by omega), if_pos (by omega)]
      exact hq
    · rw [if_neg c1, if_neg c1] at hq
      rw [if_neg (by omega), if_neg (by omega)]
      exact hq
theorem exR_0 {g : Int → Int} {a b : Int} : exR (up (up g 0 a) 1 b) g 0 := by
  intro q q1 q2
  rw [if_neg (by omega), if_neg (by omega)]
  exact ⟨(t9_n (by omega) (by omega) q1).trans (t9_n (by omega) (by omega) q1), (t9_n (by omega) (by omega) q1).trans (t9_n (by omega) (by omega) q1)⟩
theorem shL_d {f g : Int → Int} {z i q v n : Int} (hz : 0 ≤ z ∧ z ≤ 1) (h : shL f (up g z v) (3 + 20 * z) i (n - 1)) (q0 : 0 ≤ q) (hq : q < n - 1) {w : Int} : T9 (up f (3 + 20 * z + (n - 1)) w) z q = delF (T9 g z) i n q := by
  show up f (3 + 20 * z + (n - 1)) w (3 + 20 * z + q) = _
  rw [u9ne (by omega), shL_f h]
  unfold delF
  by_cases e : i ≤ q ∧ q < n - 1
  · rw [if_pos e, if_pos e]; exact u9ne (by omega)
  · rw [if_neg e, if_neg e]; exact u9ne (by omega)
