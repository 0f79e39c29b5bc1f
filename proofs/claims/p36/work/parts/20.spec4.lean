/-! longs that are compared; rows of bits -/
section JL
variable {p : Program} {l : Launch} {e : Env} {R : Room} {s : State} {m : MethodId} {args : Array Value} {below : List Frame} {meth : Method} {c : Code} {H : Heap} {locs : List Loc} {cells slots : Nat} {Q : State → Prop} {cc : ByteArray} {pc : Nat} {ls : Array Slot} {rest : List Value}
theorem lcmp_0 (x y : Int64) : (if x < y then (-1 : Int32) else if x = y then 0 else 1) = 0 ↔ x = y := by
  by_cases h1 : x < y
  · rw [if_pos h1]
    constructor
    · intro h; exact absurd h (by decide)
    · intro h; subst h; exact absurd h1 (Int64.lt_irrefl)
  · rw [if_neg h1]
    by_cases h2 : x = y
    · rw [if_pos h2]; exact ⟨fun _ => h2, fun _ => rfl⟩
    · rw [if_neg h2]; exact ⟨fun h => absurd h (by decide), fun h => absurd h h2⟩
end JL
/-! neighbours differ by at most one -/
theorem dN_left2 (a b : Int → Int) : ∀ i j : Nat, dN 1 a b i j ≤ dN 1 a b i (j + 1) + 1 := by
  intro i
  induction i with
  | zero => intro j; rw [dN, dN]; omega
  | succ i ih =>
    intro j
    have h := D_down a b (i := i) (j := j) (by omega) (by omega)
    unfold D at h
    rw [show ((i : Int) + 1).toNat = i + 1 by omega, Int.toNat_natCast, Int.toNat_natCast] at h
    have h1 := ih j
    have h2 := cst_bd (a i) (b j)
    have e : dN 1 a b (i + 1) (j + 1) = min (min (dN 1 a b i (j + 1)) (dN 1 a b (i + 1) j) + 1) (dN 1 a b i j + cst (a i) (b j)) := by rw [dN]
    omega
theorem D_left2 (a b : Int → Int) {i j : Int} (hi : 0 ≤ i) (hj : 0 ≤ j) : D 1 a b i j ≤ D 1 a b i (j + 1) + 1 := by
  have h := dN_left2 a b i.toNat j.toNat
  unfold D
  rw [show (j + 1).toNat = j.toNat + 1 by omega]
  exact h
theorem D_up2 (a b : Int → Int) {i j : Int} (hi : 0 ≤ i) (hj : 0 ≤ j) : D 1 a b i j ≤ D 1 a b (i + 1) j + 1 := by
  rw [D_sym a b i j, D_sym a b (i + 1) j]
  exact D_left2 b a hj hi
/-! keys -/
def pk (a b : Int → Int) (i j k : Int) : Int := ((a (i + k - 1) * 4 + b (j + k - 1)) * 3 + (D 1 a b (i - 1) (j + k) - D 1 a b (i - 1) (j + k - 1) + 1)) * 3 + (D 1 a b (i + k) (j - 1) - D 1 a b (i + k - 1) (j - 1) + 1)
theorem pk_bd {a b : Int → Int} {i j k : Int} (hi : 1 ≤ i) (hj : 1 ≤ j) (hk : 0 ≤ k) (ha : 0 ≤ a (i + k - 1) ∧ a (i + k - 1) < 4) (hb : 0 ≤ b (j + k - 1) ∧ b (j + k - 1) < 4) :
    0 ≤ pk a b i j k ∧ pk a b i j k < 144 ∧ -1 ≤ D 1 a b (i - 1) (j + k) - D 1 a b (i - 1) (j + k - 1) ∧ D 1 a b (i - 1) (j + k) - D 1 a b (i - 1) (j + k - 1) ≤ 1 ∧ -1 ≤ D 1 a b (i + k) (j - 1) - D 1 a b (i + k - 1) (j - 1) ∧ D 1 a b (i + k) (j - 1) - D 1 a b (i + k - 1) (j - 1) ≤ 1 := by
  have h1 := D_right a b (i := i - 1) (j := j + k - 1) (by omega) (by omega)
  have h2 := D_left2 a b (i := i - 1) (j := j + k - 1) (by omega) (by omega)
  have h3 := D_down a b (i := i + k - 1) (j := j - 1) (by omega) (by omega)
  have h4 := D_up2 a b (i := i + k - 1) (j := j - 1) (by omega) (by omega)
  rw [show j + k - 1 + 1 = j + k by omega] at h1 h2
  rw [show i + k - 1 + 1 = i + k by omega] at h3 h4
  unfold pk
  omega
def keyC (t : Int) (a b : Int → Int) (i j : Int) : Int := if t = 1 then pk a b i j 0 else pk a b i j 0 * 144 + pk a b i j 1
/-! the table: which keys were met, the hits, the misses, the single steps -/
abbrev TS : Type := (Int → Bool) × Int × Int × Int
def upB (M : Int → Bool) (k : Int) : Int → Bool := fun x => if x = k then true else M x
def tKey (k : Int) (x : TS) : TS := if x.1 k = true then (x.1, x.2.1 + 1, x.2.2.1, x.2.2.2) else (upB x.1 k, x.2.1, x.2.2.1 + 1, x.2.2.2)
def tOne (n : Int) (x : TS) : TS := (x.1, x.2.1, x.2.2.1, x.2.2.2 + n)
def tBlk (t : Int) (a b : Int → Int) (m n i j : Int) (x : TS) : TS := if i + t - 1 ≤ m ∧ j + t - 1 ≤ n then tKey (keyC t a b i j) x else tOne (min t (m - i + 1) * min t (n - j + 1)) x
def tRow (t : Int) (a b : Int → Int) (m n i : Int) : Nat → Int → TS → TS
  | 0, _, x => x
  | f + 1, j, x => if j ≤ n then tRow t a b m n i f (j + t) (tBlk t a b m n i j x) else x
def tAll (t : Int) (a b : Int → Int) (m n : Int) : Nat → Int → TS → TS
  | 0, _, x => x
  | f + 1, i, x => if i ≤ m then tAll t a b m n f (i + t) (tRow t a b m n i 21 1 x) else x
def tGo (t : Int) (a b : Int → Int) (m n : Int) (x : TS) : TS := tAll t a b m n 21 1 x
theorem tRow_s {t : Int} {a b : Int → Int} {m n i j : Int} {f : Nat} {x y : TS} (h : tRow t a b m n i f j x = y) (hj : j ≤ n) (hf : (n + 1 - j).toNat ≤ f) (ht : 1 ≤ t) : ∃ f2, tRow t a b m n i f2 (j + t) (tBlk t a b m n i j x) = y ∧ (n + 1 - (j + t)).toNat ≤ f2 := by
  cases f with
  | zero => exact absurd hf (by omega)
  | succ f => rw [tRow, if_pos hj] at h; exact ⟨f, h, by omega⟩
theorem tRow_e {t : Int} {a b : Int → Int} {m n i j : Int} {f : Nat} {x y : TS} (h : tRow t a b m n i f j x = y) (hj : n < j) : x = y := by
  cases f with
  | zero => exact h
  | succ f => rw [tRow, if_neg (by omega)] at h; exact h
theorem tAll_s {t : Int} {a b : Int → Int} {m n i : Int} {f : Nat} {x y : TS} (h : tAll t a b m n f i x = y) (hi : i ≤ m) (hf : (m + 1 - i).toNat ≤ f) (ht : 1 ≤ t) : ∃ f2, tAll t a b m n f2 (i + t) (tRow t a b m n i 21 1 x) = y ∧ (m + 1 - (i + t)).toNat ≤ f2 := by
  cases f with
  | zero => exact absurd hf (by omega)
  | succ f => rw [tAll, if_pos hi] at h; exact ⟨f, h, by omega⟩
theorem tAll_e {t : Int} {a b : Int → Int} {m n i : Int} {f : Nat} {x y : TS} (h : tAll t a b m n f i x = y) (hi : m < i) : x = y := by
  cases f with
  | zero => exact h
  | succ f => rw [tAll, if_neg (by omega)] at h; exact h
/-! words of bits -/
def rM (F : Int → Int64) (M : Int → Bool) : Prop := ∀ w b : Int, 0 ≤ w → w < 324 → 0 ≤ b → b < 64 → (F w).toBitVec.getLsbD b.toNat = M (w * 64 + b)
abbrev bitW (k : Int) : Int64 := (1 : Int64) <<< ((jz k).toInt64 &&& 63)
theorem bitW_n : ∀ k : Nat, k < 64 → (bitW (k : Int)).toBitVec = BitVec.twoPow 64 k := by decide +kernel
theorem bitW_tp {k : Int} (h0 : 0 ≤ k) (h1 : k < 64) : (bitW k).toBitVec = BitVec.twoPow 64 k.toNat := by
  have h := bitW_n k.toNat (by omega)
  rw [Int.toNat_of_nonneg h0] at h
  exact h
theorem bit_0 {x : Int64} {k : Int} (h0 : 0 ≤ k) (h1 : k < 64) : (x &&& bitW k = 0) ↔ x.toBitVec.getLsbD k.toNat = false := by
  rw [← Int64.toBitVec_inj, Int64.toBitVec_and, bitW_tp h0 h1, BitVec.and_twoPow]
  cases hb : x.toBitVec.getLsbD k.toNat with
  | false => simp
  | true =>
    simp only [if_true]
    constructor
    · intro h
      have h2 := congrArg (fun v : BitVec 64 => v.getLsbD k.toNat) h
      simp [BitVec.getLsbD_twoPow] at h2
      omega
    · intro h; cases h
theorem bit_or {x : Int64} {k : Int} (h0 : 0 ≤ k) (h1 : k < 64) {b : Int} (hb0 : 0 ≤ b) (hb1 : b < 64) : (x ||| bitW k).toBitVec.getLsbD b.toNat = if b = k then true else x.toBitVec.getLsbD b.toNat := by
  rw [Int64.toBitVec_or, bitW_tp h0 h1, BitVec.getLsbD_or, BitVec.getLsbD_twoPow]
  by_cases e : b = k
  · subst e
    rw [if_pos rfl]
    simp
    omega
  · rw [if_neg e]
    have : ¬ k.toNat = b.toNat := by omega
    simp [this]
theorem rM_hit {F : Int → Int64} {M : Int → Bool} (h : rM F M) {k : Int} (h0 : 0 ≤ k) (h1 : k < 20736) : (F (k / 64) &&& bitW (k % 64) = 0) ↔ M k = false := by
  rw [bit_0 (by omega) (by omega), h (k / 64) (k % 64) (by omega) (by omega) (by omega) (by omega), show k / 64 * 64 + k % 64 = k by omega]
theorem rM_up {F : Int → Int64} {M : Int → Bool} (h : rM F M) {k : Int} (h0 : 0 ≤ k) (h1 : k < 20736) : rM (up F (k / 64) (F (k / 64) ||| bitW (k % 64))) (upB M k) := by
  intro w b q1 q2 q3 q4
  unfold up upB
  by_cases e : w = k / 64
  · rw [if_pos e, bit_or (by omega) (by omega) q3 q4, ← e, h w b q1 q2 q3 q4]
    by_cases e2 : b = k % 64
    · rw [if_pos e2, if_pos (by omega)]
    · rw [if_neg e2, if_neg (by omega)]
  · rw [if_neg e, if_neg (by omega)]
    exact h w b q1 q2 q3 q4
theorem rM_0 {F : Int → Int64} (h : ∀ w : Int, 0 ≤ w → w < 324 → F w = 0) : rM F (fun _ => false) := by
  intro w b q1 q2 q3 q4
  rw [h w q1 q2]
  simp
