/-! the best place, the best letter, the band, the hash -/
def argN (f : Int → Int) : Nat → Int
  | 0 => 0
  | k + 1 => if f ((k : Int) + 1) < f (argN f k) then (k : Int) + 1 else argN f k
def argI (f : Int → Int) (n : Int) : Int := argN f n.toNat
theorem argI_0 (f : Int → Int) : argI f 0 = 0 := rfl
theorem argI_s (f : Int → Int) {n : Int} (h : 0 ≤ n) : argI f (n + 1) = if f (n + 1) < f (argI f n) then n + 1 else argI f n := by
  unfold argI
  rw [show (n + 1).toNat = n.toNat + 1 by omega, argN, Int.toNat_of_nonneg h]
theorem argN_bd (f : Int → Int) : ∀ k : Nat, 0 ≤ argN f k ∧ argN f k ≤ k := by
  intro k
  induction k with
  | zero => exact ⟨Int.le_refl 0, Int.le_refl 0⟩
  | succ k ih => rw [argN]; split <;> omega
theorem argI_bd (f : Int → Int) {n : Int} (h : 0 ≤ n) : 0 ≤ argI f n ∧ argI f n ≤ n := by
  have := argN_bd f n.toNat
  unfold argI
  omega
theorem argN_least (f : Int → Int) : ∀ (k : Nat) (x : Int), 0 ≤ x → x ≤ k → f (argN f k) ≤ f x ∧ (x < argN f k → f (argN f k) < f x) := by
  intro k
  induction k with
  | zero =>
    intro x h1 h2
    have e : x = 0 := by omega
    rw [argN, e]
    exact ⟨Int.le_refl _, fun h => absurd h (Int.lt_irrefl 0)⟩
  | succ k ih =>
    intro x h1 h2
    have hb := argN_bd f k
    rw [argN]
    by_cases c1 : f ((k : Int) + 1) < f (argN f k)
    · rw [if_pos c1]
      by_cases c2 : x = (k : Int) + 1
      · rw [c2]; exact ⟨Int.le_refl _, fun h => absurd h (Int.lt_irrefl _)⟩
      · have := (ih x h1 (by omega)).1
        exact ⟨by omega, fun _ => by omega⟩
    · rw [if_neg c1]
      by_cases c2 : x = (k : Int) + 1
      · rw [c2]; exact ⟨by omega, fun h => by omega⟩
      · exact ih x h1 (by omega)
def bStep (v z : Int) (x : Int × Int) : Int × Int := if x.1 < 0 ∨ v < x.2 then (z, v) else x
def bLet (F : Int → Int → Int) (i : Int) : Nat → Int × Int → Int × Int
  | 0, x => x
  | k + 1, x => bStep (F i k) (10 * i + k) (bLet F i k x)
def bAll (F : Int → Int → Int) (al : Int) : Nat → Int × Int
  | 0 => (-1, 0)
  | k + 1 => bLet F k al.toNat (bAll F al k)
def bestF (F : Int → Int → Int) (al n : Int) : Int := (bAll F al n.toNat).1
theorem bLet_s (F : Int → Int → Int) (i : Int) {k : Int} (h : 0 ≤ k) (x : Int × Int) : bLet F i (k + 1).toNat x = bStep (F i k) (10 * i + k) (bLet F i k.toNat x) := by
  rw [show (k + 1).toNat = k.toNat + 1 by omega, bLet, Int.toNat_of_nonneg h]
theorem bAll_s (F : Int → Int → Int) (al : Int) {k : Int} (h : 0 ≤ k) : bAll F al (k + 1).toNat = bLet F k al.toNat (bAll F al k.toNat) := by
  rw [show (k + 1).toNat = k.toNat + 1 by omega, bAll, Int.toNat_of_nonneg h]
theorem bLet_cg {F F' : Int → Int → Int} {i : Int} : ∀ (k : Nat) (x : Int × Int), (∀ v : Int, 0 ≤ v → v < k → F i v = F' i v) → bLet F i k x = bLet F' i k x := by
  intro k
  induction k with
  | zero => intro x _; rfl
  | succ k ih => intro x h; rw [bLet, bLet, ih x (fun v h1 h2 => h v h1 (by omega)), h k (by omega) (by omega)]
theorem bAll_cg {F F' : Int → Int → Int} {al : Int} : ∀ (k : Nat), (∀ i v : Int, 0 ≤ i → i < k → 0 ≤ v → v < al → F i v = F' i v) → bAll F al k = bAll F' al k := by
  intro k
  induction k with
  | zero => intro _; rfl
  | succ k ih =>
    intro h
    rw [bAll, bAll, ih (fun i v h1 h2 => h i v h1 (by omega)), bLet_cg al.toNat _ (fun v h1 h2 => h k v (by omega) (by omega) h1 (by omega))]
/-- no distance is above the longer length -/
theorem dN_max (a b : Int → Int) : ∀ i j : Nat, dN 1 a b i j ≤ max (i : Int) j := by
  intro i
  induction i with
  | zero => intro j; rw [dN]; omega
  | succ i ih =>
    intro j
    cases j with
    | zero => rw [dN]; omega
    | succ j =>
      have h2 := ih j
      have h3 := cst_bd (a i) (b j)
      rw [dN]
      omega
theorem D_max (a b : Int → Int) {i j : Int} (hi : 0 ≤ i) (hj : 0 ≤ j) : D 1 a b i j ≤ max i j := by
  have h := dN_max a b i.toNat j.toNat
  unfold D
  omega
/-- where (b, c) is the class's best and least, and x what is due -/
def bRel (b c : Int) (x : Int × Int) : Prop := (b = -1 ∧ c = 21 ∧ x = (-1, 0)) ∨ (0 ≤ b ∧ 0 ≤ c ∧ c ≤ 100 ∧ x = (b, c))
theorem bRel_up {b c v z : Int} {x : Int × Int} (h : bRel b c x) (hv : 0 ≤ v ∧ v ≤ 100) (hz : 0 ≤ z) (hc : v < c) : bRel z v (bStep v z x) := by
  rcases h with ⟨h1, h2, h3⟩ | ⟨h1, h2, h4, h3⟩
  · refine Or.inr ⟨hz, hv.1, hv.2, ?_⟩
    unfold bStep
    rw [h3, if_pos (Or.inl (by decide))]
  · refine Or.inr ⟨hz, hv.1, hv.2, ?_⟩
    unfold bStep
    rw [h3, if_pos (Or.inr hc)]
theorem bRel_no {b c v z : Int} {x : Int × Int} (h : bRel b c x) (hv : 0 ≤ v ∧ v ≤ 20) (hc : c ≤ v) : bRel b c (bStep v z x) := by
  rcases h with ⟨h1, h2, h3⟩ | ⟨h1, h2, h4, h3⟩
  · omega
  · refine Or.inr ⟨h1, h2, h4, ?_⟩
    unfold bStep
    rw [h3, if_neg (by show ¬ (b < 0 ∨ v < c); omega)]
theorem bRel_1 {b c : Int} {x : Int × Int} (h : bRel b c x) : x.1 = b := by
  rcases h with ⟨h1, h2, h3⟩ | ⟨h1, h2, h4, h3⟩
  · rw [h3, h1]
  · rw [h3]
def bandN (b n : Int) : Nat → Int
  | 0 => 0
  | k + 1 => bandN b n k + max 0 (min n ((k : Int) + b) - max 0 ((k : Int) - b) + 1)
def bandI (b n k : Int) : Int := bandN b n k.toNat
theorem bandI_s (b n : Int) {k : Int} (h : 0 ≤ k) : bandI b n (k + 1) = bandI b n k + max 0 (min n (k + b) - max 0 (k - b) + 1) := by
  unfold bandI
  rw [show (k + 1).toNat = k.toNat + 1 by omega, bandN, Int.toNat_of_nonneg h]
def mx (h : Int64) (v : Int) : Int64 := 31 * h + (jz v).toInt64
def mxN (f : Int → Int) : Nat → Int64 → Int64
  | 0, h => h
  | k + 1, h => mx (mxN f k h) (f k)
def mxI (f : Int → Int) (n : Int) (h : Int64) : Int64 := mxN f n.toNat h
theorem mxI_s (f : Int → Int) {n : Int} (hn : 0 ≤ n) (h : Int64) : mxI f (n + 1) h = mx (mxI f n h) (f n) := by
  unfold mxI
  rw [show (n + 1).toNat = n.toNat + 1 by omega, mxN, Int.toNat_of_nonneg hn]
theorem mxN_cg {f g : Int → Int} : ∀ (k : Nat) (h : Int64), (∀ x : Int, 0 ≤ x → x < k → f x = g x) → mxN f k h = mxN g k h := by
  intro k
  induction k with
  | zero => intro h _; rfl
  | succ k ih => intro h hh; rw [mxN, mxN, ih h (fun x h1 h2 => hh x h1 (by omega)), hh k (by omega) (by omega)]
theorem mxI_cg {f g : Int → Int} {n : Int} {h : Int64} (hh : ∀ x : Int, 0 ≤ x → x < n → f x = g x) : mxI f n h = mxI g n h := mxN_cg n.toNat h (fun x h1 h2 => hh x h1 (by omega))
def mxG (F : Int → Int → Int) (n : Int) : Nat → Int64 → Int64
  | 0, h => h
  | k + 1, h => mxI (F k) (n + 1) (mxG F n k h)
def mxGI (F : Int → Int → Int) (n k : Int) (h : Int64) : Int64 := mxG F n k.toNat h
theorem mxGI_s (F : Int → Int → Int) (n : Int) {k : Int} (hk : 0 ≤ k) (h : Int64) : mxGI F n (k + 1) h = mxI (F k) (n + 1) (mxGI F n k h) := by
  unfold mxGI
  rw [show (k + 1).toNat = k.toNat + 1 by omega, mxG, Int.toNat_of_nonneg hk]
def sim (d g : Int) : UInt64 := if g = 0 then FP.dconst1 else FP.dsub FP.dconst1 (FP.ddiv (FP.i2d (jz d)) (FP.i2d (jz g)))
theorem bRel_bd {b c : Int} {x : Int × Int} (h : bRel b c x) : 0 ≤ c ∧ c ≤ 2147483647 ∧ -1 ≤ b := by
  rcases h with ⟨h1, h2, h3⟩ | ⟨h1, h2, h4, h3⟩ <;> omega
def fdE (g0 g1 : Int → Int) (n0 n1 : Int) : Int := argI (fun i => D 0 g0 g1 i n1) n0
def bst0 (al n0 n1 : Int) (g0 g1 : Int → Int) : Int := bestF (fun i v => D 1 (up g0 i v) g1 n0 n1) al n0
def digF (al n0 n1 : Int) (g0 g1 : Int → Int) (hi mi si mtc : Int) : Int64 :=
  mxGI (fun i j => D 1 g0 g1 i j) n1 (n0 + 1) (mx (mx (mxI (fun x => wA g0 g1 n0 n1 (wL g0 g1 n0 n1 - 1 - x)) (wL g0 g1 n0 n1) (mx (mx (mx (mx (mx (mx (mx (mx (mxI g1 n1 (mx (mxI g0 n0 (mx (mx 4194 al) n0)) n1)) (D 1 g0 g1 n0 n1)) (wL g0 g1 n0 n1)) (D 0 g0 g1 (fdE g0 g1 n0 n1) n1)) (fdE g0 g1 n0 n1)) hi) mi) si) mtc)) (bst0 al n0 n1 g0 g1)) (bst0 al n1 n0 g1 g0))
