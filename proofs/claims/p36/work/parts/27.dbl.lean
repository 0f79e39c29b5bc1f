/-! the doubles of similarity are numbers -/
def dblOk (d g : Nat) : Bool := decide (FP.ddiv (FP.i2d (jz (d : Int))) (FP.i2d (jz (g : Int))) &&& 0x7fffffffffffffff ≤ 0x7ff0000000000000) && decide (FP.dsub FP.dconst1 (FP.ddiv (FP.i2d (jz (d : Int))) (FP.i2d (jz (g : Int)))) &&& 0x7fffffffffffffff ≤ 0x7ff0000000000000)
theorem dbl_all : (List.range 41).all (fun d => (List.range 20).all (fun g => dblOk d (g + 1))) = true := by decide +kernel
theorem dbl_ok {d g : Int} (h0 : 0 ≤ d) (h1 : d ≤ 40) (h2 : 1 ≤ g) (h3 : g ≤ 20) : vf_n64 (FP.ddiv (FP.i2d (jz d)) (FP.i2d (jz g))) ∧ vf_n64 (FP.dsub FP.dconst1 (FP.ddiv (FP.i2d (jz d)) (FP.i2d (jz g)))) := by
  have h := List.all_eq_true.mp (List.all_eq_true.mp dbl_all d.toNat (List.mem_range.mpr (by omega))) (g - 1).toNat (List.mem_range.mpr (by omega))
  unfold dblOk at h
  rw [Bool.and_eq_true, decide_eq_true_eq, decide_eq_true_eq, show ((d.toNat : Nat) : Int) = d by omega, show (((g - 1).toNat + 1 : Nat) : Int) = g by omega] at h
  exact h
