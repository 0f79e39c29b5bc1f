theorem hgU {f : Int → Int} {z w i v : Int} (h : ∀ j : Int, 0 ≤ j → j < f w → 0 ≤ T9 f w j ∧ T9 f w j < 4) (hv : 0 ≤ v ∧ v < 4) (hz : 0 ≤ z) (hw : w < 3) (hi : 0 ≤ i) : ∀ j : Int, 0 ≤ j → j < up f (3 + 20 * z + i) v w → 0 ≤ T9 (up f (3 + 20 * z + i) v) w j ∧ T9 (up f (3 + 20 * z + i) v) w j < 4 := by
  intro j h1 h2
  rw [up_low (by omega) hw] at h2
  by_cases e : 3 + 20 * w + j = 3 + 20 * z + i
  · have e1 : T9 (up f (3 + 20 * z + i) v) w j = v := by
      show up f (3 + 20 * z + i) v (3 + 20 * w + j) = v
      rw [e, u9eq]
    rw [e1]
    exact hv
  · have e1 : T9 (up f (3 + 20 * z + i) v) w j = T9 f w j := u9ne e
    rw [e1]
    exact h j h1 h2
theorem up_back {f : Int → Int} {z i v : Int} : up (up f (3 + 20 * z + i) v) (3 + 20 * z + i) (T9 f z i) = f := by
  funext q
  by_cases e : q = 3 + 20 * z + i
  · rw [e, u9eq]
  · rw [u9ne e, u9ne e]
theorem tr0 {f : Int → Int} {z i v : Int} (hz : z = 0) (hi : 0 ≤ i ∧ i < 20) (h1 : f 1 ≤ 20) : D 1 (T9 (up f (3 + 20 * z + i) v) 0) (T9 (up f (3 + 20 * z + i) v) 1) (up f (3 + 20 * z + i) v 0) (up f (3 + 20 * z + i) v 1) = D 1 (up (T9 f 0) i v) (T9 f 1) (f 0) (f 1) := by
  subst hz
  rw [up_low (by omega) (by omega), up_low (by omega) (by omega)]
  exact D_cg 1 (fun k _ _ => t9_up) (fun k q1 q2 => t9_o (z := 0) (by omega) (by omega) q1 (by omega))
theorem tr1 {f : Int → Int} {z i v : Int} (hz : z = 1) (hi : 0 ≤ i ∧ i < 20) (h1 : f 0 ≤ 20) : D 1 (T9 (up f (3 + 20 * z + i) v) 0) (T9 (up f (3 + 20 * z + i) v) 1) (up f (3 + 20 * z + i) v 0) (up f (3 + 20 * z + i) v 1) = D 1 (up (T9 f 1) i v) (T9 f 0) (f 1) (f 0) := by
  subst hz
  rw [up_low (by omega) (by omega), up_low (by omega) (by omega), D_sym]
  exact D_cg 1 (fun k _ _ => t9_up) (fun k q1 q2 => t9_o (z := 1) (by omega) (by omega) q1 (by omega))
