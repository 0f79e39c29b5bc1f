/-! what hangs on the texts below their lengths alone -/
abbrev eqB (n : Int) (g h : Int → Int) : Prop := ∀ j : Int, 0 ≤ j → j < n → g j = h j
theorem eqB_le {n k : Int} {g h : Int → Int} (q : eqB n g h) (hk : k ≤ n) : eqB k g h := fun j h1 h2 => q j h1 (Int.lt_of_lt_of_le h2 hk)
theorem stp_cg {a b a2 b2 : Int → Int} {i j : Int} (h0 : eqB i a a2) (h1 : eqB j b b2) : stp a b i j = stp a2 b2 i j := by
  have e1 : D 1 a b i j = D 1 a2 b2 i j := D_cg 1 h0 h1
  have e2 : D 1 a b (i - 1) (j - 1) = D 1 a2 b2 (i - 1) (j - 1) := D_cg 1 (eqB_le h0 (by omega)) (eqB_le h1 (by omega))
  have e3 : D 1 a b (i - 1) j = D 1 a2 b2 (i - 1) j := D_cg 1 (eqB_le h0 (by omega)) h1
  unfold stp
  rw [e1, e2, e3]
  by_cases hh : 0 < i ∧ 0 < j
  · rw [h0 (i - 1) (by omega) (by omega), h1 (j - 1) (by omega) (by omega)]
  · have n1 : ¬ (0 < i ∧ 0 < j ∧ D 1 a2 b2 i j = D 1 a2 b2 (i - 1) (j - 1) + cst (a (i - 1)) (b (j - 1))) := fun q => hh ⟨q.1, q.2.1⟩
    have n2 : ¬ (0 < i ∧ 0 < j ∧ D 1 a2 b2 i j = D 1 a2 b2 (i - 1) (j - 1) + cst (a2 (i - 1)) (b2 (j - 1))) := fun q => hh ⟨q.1, q.2.1⟩
    rw [if_neg n1, if_neg n2]
theorem wayN_cg {a b a2 b2 : Int → Int} : ∀ (f : Nat) (i j : Int), 0 ≤ i → 0 ≤ j → eqB i a a2 → eqB j b b2 → wayN a b f i j = wayN a2 b2 f i j := by
  intro f
  induction f with
  | zero => intro i j _ _ _ _; rfl
  | succ f ih =>
    intro i j hi hj h0 h1
    rw [wayN, wayN, stp_cg h0 h1]
    by_cases hh : 0 < i ∨ 0 < j
    · rw [if_pos hh, if_pos hh]
      have hb := stp_bd (a := a2) (b := b2) hi hj hh
      have hi2 : 0 ≤ (if stp a2 b2 i j = 3 then i else i - 1) ∧ (if stp a2 b2 i j = 3 then i else i - 1) ≤ i := by split <;> omega
      have hj2 : 0 ≤ (if stp a2 b2 i j = 2 then j else j - 1) ∧ (if stp a2 b2 i j = 2 then j else j - 1) ≤ j := by split <;> omega
      rw [ih _ _ hi2.1 hj2.1 (eqB_le h0 hi2.2) (eqB_le h1 hj2.2)]
    · rw [if_neg hh, if_neg hh]
theorem way_cg {a b a2 b2 : Int → Int} {i j : Int} (hi : 0 ≤ i) (hj : 0 ≤ j) (h0 : eqB i a a2) (h1 : eqB j b b2) : way a b i j = way a2 b2 i j := wayN_cg 40 i j hi hj h0 h1
theorem wL_cg {a b a2 b2 : Int → Int} {i j : Int} (hi : 0 ≤ i) (hj : 0 ≤ j) (h0 : eqB i a a2) (h1 : eqB j b b2) : wL a b i j = wL a2 b2 i j := by unfold wL; rw [way_cg hi hj h0 h1]
theorem wA_cg {a b a2 b2 : Int → Int} {i j : Int} (hi : 0 ≤ i) (hj : 0 ≤ j) (h0 : eqB i a a2) (h1 : eqB j b b2) : wA a b i j = wA a2 b2 i j := by funext x; unfold wA; rw [way_cg hi hj h0 h1]
theorem pk_cg {a b a2 b2 : Int → Int} {m n i j k : Int} (h0 : eqB m a a2) (h1 : eqB n b b2) (hk : 0 ≤ k) (hi : 1 ≤ i) (hj : 1 ≤ j) (him : i + k ≤ m) (hjn : j + k ≤ n) : pk a b i j k = pk a2 b2 i j k := by
  have e1 : D 1 a b (i - 1) (j + k) = D 1 a2 b2 (i - 1) (j + k) := D_cg 1 (eqB_le h0 (by omega)) (eqB_le h1 (by omega))
  have e2 : D 1 a b (i - 1) (j + k - 1) = D 1 a2 b2 (i - 1) (j + k - 1) := D_cg 1 (eqB_le h0 (by omega)) (eqB_le h1 (by omega))
  have e3 : D 1 a b (i + k) (j - 1) = D 1 a2 b2 (i + k) (j - 1) := D_cg 1 (eqB_le h0 (by omega)) (eqB_le h1 (by omega))
  have e4 : D 1 a b (i + k - 1) (j - 1) = D 1 a2 b2 (i + k - 1) (j - 1) := D_cg 1 (eqB_le h0 (by omega)) (eqB_le h1 (by omega))
  unfold pk
  rw [e1, e2, e3, e4, h0 (i + k - 1) (by omega) (by omega), h1 (j + k - 1) (by omega) (by omega)]
theorem keyC_cg {a b a2 b2 : Int → Int} {t m n i j : Int} (ht : t = 1 ∨ t = 2) (h0 : eqB m a a2) (h1 : eqB n b b2) (hi : 1 ≤ i) (hj : 1 ≤ j) (him : i + t - 1 ≤ m) (hjn : j + t - 1 ≤ n) : keyC t a b i j = keyC t a2 b2 i j := by
  unfold keyC
  rcases ht with e | e
  · rw [if_pos e, if_pos e, pk_cg h0 h1 (Int.le_refl 0) hi hj (by omega) (by omega)]
  · rw [if_neg (by omega), if_neg (by omega), pk_cg h0 h1 (Int.le_refl 0) hi hj (by omega) (by omega), pk_cg h0 h1 (by omega) hi hj (by omega) (by omega)]
theorem tBlk_cg {a b a2 b2 : Int → Int} {t m n i j : Int} (ht : t = 1 ∨ t = 2) (h0 : eqB m a a2) (h1 : eqB n b b2) (hi : 1 ≤ i) (hj : 1 ≤ j) (x : TS) : tBlk t a b m n i j x = tBlk t a2 b2 m n i j x := by
  unfold tBlk
  by_cases hh : i + t - 1 ≤ m ∧ j + t - 1 ≤ n
  · rw [if_pos hh, if_pos hh, keyC_cg ht h0 h1 hi hj hh.1 hh.2]
  · rw [if_neg hh, if_neg hh]
theorem tRow_cg {a b a2 b2 : Int → Int} {t m n i : Int} (ht : t = 1 ∨ t = 2) (h0 : eqB m a a2) (h1 : eqB n b b2) (hi : 1 ≤ i) : ∀ (f : Nat) (j : Int) (x : TS), 1 ≤ j → tRow t a b m n i f j x = tRow t a2 b2 m n i f j x := by
  intro f
  induction f with
  | zero => intro j x _; rfl
  | succ f ih =>
    intro j x hj
    rw [tRow, tRow, tBlk_cg ht h0 h1 hi hj, ih (j + t) _ (by omega)]
theorem tAll_cg {a b a2 b2 : Int → Int} {t m n : Int} (ht : t = 1 ∨ t = 2) (h0 : eqB m a a2) (h1 : eqB n b b2) : ∀ (f : Nat) (i : Int) (x : TS), 1 ≤ i → tAll t a b m n f i x = tAll t a2 b2 m n f i x := by
  intro f
  induction f with
  | zero => intro i x _; rfl
  | succ f ih =>
    intro i x hi
    rw [tAll, tAll, tRow_cg ht h0 h1 hi 21 1 x (Int.le_refl 1), ih (i + t) _ (by omega)]
theorem tGo_cg {a b a2 b2 : Int → Int} {t m n : Int} (ht : t = 1 ∨ t = 2) (h0 : eqB m a a2) (h1 : eqB n b b2) (x : TS) : tGo t a b m n x = tGo t a2 b2 m n x := tAll_cg ht h0 h1 21 1 x (Int.le_refl 1)
theorem argN_cg {f g : Int → Int} : ∀ (k : Nat), (∀ x : Int, 0 ≤ x → x ≤ k → f x = g x) → argN f k = argN g k := by
  intro k
  induction k with
  | zero => intro _; rfl
  | succ k ih =>
    intro h
    have e := ih (fun x h1 h2 => h x h1 (by omega))
    have hb := argN_bd g k
    rw [argN, argN, e, h ((k : Int) + 1) (by omega) (by omega), h (argN g k) (by omega) (by omega)]
theorem fdE_cg {a b a2 b2 : Int → Int} {m n : Int} (hm : 0 ≤ m) (h0 : eqB m a a2) (h1 : eqB n b b2) : fdE a b m n = fdE a2 b2 m n := by
  unfold fdE argI
  exact argN_cg _ (fun x h2 h3 => D_cg 0 (eqB_le h0 (by omega)) h1)
theorem fdE_bd {a b : Int → Int} {m n : Int} (hm : 0 ≤ m) : 0 ≤ fdE a b m n ∧ fdE a b m n ≤ m := argI_bd _ hm
theorem up_cg {a a2 : Int → Int} {m i v : Int} (h0 : eqB m a a2) : eqB m (up a i v) (up a2 i v) := by
  intro j h1 h2
  unfold up
  by_cases e : j = i
  · rw [if_pos e, if_pos e]
  · rw [if_neg e, if_neg e]
    exact h0 j h1 h2
theorem bst0_cg {a b a2 b2 : Int → Int} {al m n : Int} (h0 : eqB m a a2) (h1 : eqB n b b2) : bst0 al m n a b = bst0 al m n a2 b2 := by
  unfold bst0 bestF
  rw [bAll_cg m.toNat (fun i v _ _ _ _ => D_cg 1 (up_cg h0) h1)]
theorem digF_cg {a b a2 b2 : Int → Int} {al m n hi mi si t : Int} (hm : 0 ≤ m) (hn : 0 ≤ n) (h0 : eqB m a a2) (h1 : eqB n b b2) : digF al m n a b hi mi si t = digF al m n a2 b2 hi mi si t := by
  have hb := fdE_bd (a := a2) (b := b2) (n := n) hm
  have k1 : ∀ h, mxI a m h = mxI a2 m h := fun h => mxI_cg h0
  have k2 : ∀ h, mxI b n h = mxI b2 n h := fun h => mxI_cg h1
  have k3 : ∀ h, mxGI (fun i j => D 1 a b i j) n (m + 1) h = mxGI (fun i j => D 1 a2 b2 i j) n (m + 1) h := fun h => mxGI_cg (fun i j p1 p2 p3 p4 => D_cg 1 (eqB_le h0 (by omega)) (eqB_le h1 (by omega)))
  have k4 : D 0 a b (fdE a2 b2 m n) n = D 0 a2 b2 (fdE a2 b2 m n) n := D_cg 0 (eqB_le h0 (by omega)) h1
  have k5 : D 1 a b m n = D 1 a2 b2 m n := D_cg 1 h0 h1
  unfold digF
  rw [k3, wA_cg hm hn h0 h1, wL_cg hm hn h0 h1, k1, k2, k5, fdE_cg hm h0 h1, k4, bst0_cg h0 h1, bst0_cg h1 h0]
theorem scN_cg {f g : Int → Int} : ∀ (k : Nat), (∀ x : Int, 0 ≤ x → x < k → f x = g x) → scN f k = scN g k := by
  intro k
  induction k with
  | zero => intro _; rfl
  | succ k ih =>
    intro h
    rw [scN, scN, ih (fun x h1 h2 => h x h1 (by omega)), h k (by omega) (by omega)]
theorem sc_cg {f g : Int → Int} {n : Int} (h : eqB n f g) : sc f n = sc g n := scN_cg n.toNat (fun x h1 h2 => h x h1 (by omega))
theorem insF_cg {a a2 : Int → Int} {n i v : Int} (h : eqB n a a2) (hi : 0 ≤ i ∧ i ≤ n) : eqB (n + 1) (insF a i n v) (insF a2 i n v) := by
  intro j h1 h2
  unfold insF
  by_cases e : j = i
  · rw [if_pos e, if_pos e]
  · rw [if_neg e, if_neg e]
    by_cases e2 : i < j ∧ j ≤ n
    · rw [if_pos e2, if_pos e2]
      exact h (j - 1) (by omega) (by omega)
    · rw [if_neg e2, if_neg e2]
      exact h j h1 (by omega)
theorem delF_cg {a a2 : Int → Int} {n i : Int} (h : eqB n a a2) (hi : 0 ≤ i) : eqB (n - 1) (delF a i n) (delF a2 i n) := by
  intro j h1 h2
  unfold delF
  by_cases e2 : i ≤ j ∧ j < n - 1
  · rw [if_pos e2, if_pos e2]
    exact h (j + 1) (by omega) (by omega)
  · rw [if_neg e2, if_neg e2]
    exact h j h1 (by omega)
theorem insF_bd {a : Int → Int} {n i v al : Int} (h : ∀ j : Int, 0 ≤ j → j < n → 0 ≤ a j ∧ a j < al) (hv : 0 ≤ v ∧ v < al) (hi : 0 ≤ i ∧ i ≤ n) : ∀ j : Int, 0 ≤ j → j < n + 1 → 0 ≤ insF a i n v j ∧ insF a i n v j < al := by
  intro j h1 h2
  unfold insF
  by_cases e : j = i
  · rw [if_pos e]; exact hv
  · rw [if_neg e]
    by_cases e2 : i < j ∧ j ≤ n
    · rw [if_pos e2]
      exact h (j - 1) (by omega) (by omega)
    · rw [if_neg e2]
      exact h j h1 (by omega)
theorem delF_bd {a : Int → Int} {n i al : Int} (h : ∀ j : Int, 0 ≤ j → j < n → 0 ≤ a j ∧ a j < al) (hi : 0 ≤ i) : ∀ j : Int, 0 ≤ j → j < n - 1 → 0 ≤ delF a i n j ∧ delF a i n j < al := by
  intro j h1 h2
  unfold delF
  by_cases e2 : i ≤ j ∧ j < n - 1
  · rw [if_pos e2]
    exact h (j + 1) (by omega) (by omega)
  · rw [if_neg e2]
    exact h j h1 (by omega)
theorem up_bd {a : Int → Int} {n i v al : Int} (h : ∀ j : Int, 0 ≤ j → j < n → 0 ≤ a j ∧ a j < al) (hv : 0 ≤ v ∧ v < al) : ∀ j : Int, 0 ≤ j → j < n → 0 ≤ up a i v j ∧ up a i v j < al := by
  intro j h1 h2
  unfold up
  by_cases e : j = i
  · rw [if_pos e]; exact hv
  · rw [if_neg e]; exact h j h1 h2
/-! the class and the model, held against each other -/
/-- the letters, the lengths and the alphabet -/
def RT (al n0 n1 : Int) (g0 g1 aS : Int → Int) : Prop := (al = aS 2 ∧ n0 = aS 0 ∧ n1 = aS 1) ∧ (2 ≤ al ∧ al ≤ 4) ∧ (0 ≤ n0 ∧ n0 ≤ 20) ∧ (0 ≤ n1 ∧ n1 ≤ 20) ∧ eqB n0 g0 (T9 aS 0) ∧ eqB n1 g1 (T9 aS 1) ∧ (∀ j : Int, 0 ≤ j → j < n0 → 0 ≤ g0 j ∧ g0 j < al) ∧ (∀ j : Int, 0 ≤ j → j < n1 → 0 ≤ g1 j ∧ g1 j < al)
/-- a state that is saved -/
def RQ (x : SG) (aS : Int → Int) : Prop := RT x.2.1.1 x.2.1.2.1 x.2.1.2.2 x.2.2.1 x.2.2.2 aS
/-- the saved states -/
def RS (od sz : Int) (f : Int → Option Nat) (ph : Nat → SG) (kp : Nat) (kn : Int) (aB : Int → Int) : Prop := sz = kn ∧ (0 ≤ sz ∧ sz ≤ 6) ∧ (0 ≤ od ∧ od < 6) ∧ ((kp : Int) ≤ 6 ∧ sz ≤ (kp : Int)) ∧ (od = 0 ∨ kp = 6) ∧ (∀ z : Int, 0 ≤ z → z < 6 → f z = if z < kp then some (ph z.toNat).1.1 else none) ∧ ∀ t : Int, 0 ≤ t → t < sz → RQ (ph ((od + t) % 6).toNat) (fun k => aB (43 * t + k))
/-- the buffer -/
def RB (k : Int) (cb : Int → Int) (ln : Int) (aU : Int → Int) : Prop := k = ln ∧ (0 ≤ k ∧ k ≤ 60) ∧ eqB k cb aU ∧ ∀ j : Int, 0 ≤ j → j < k → 33 ≤ cb j ∧ cb j ≤ 126
/-- the table -/
def RK (bs hi mi si : Int) (F : Int → Int64) (bl vh vm vs ft : Int) (aM aO : Int → Int) (M : Int → Bool) (t : Int) : Prop := (bs = bl ∧ hi = vh ∧ mi = vm ∧ si = vs) ∧ (bs = 1 ∨ bs = 2) ∧ (0 ≤ ft ∧ ft ≤ t) ∧ rM F M ∧ rJ bl aM M ∧ ∀ k : Int, 0 ≤ k → k < 20736 → 0 ≤ aO k ∧ aO k ≤ ft
theorem RK_le {bs hi mi si : Int} {F : Int → Int64} {bl vh vm vs ft : Int} {aM aO : Int → Int} {M : Int → Bool} {t t2 : Int} (h : RK bs hi mi si F bl vh vm vs ft aM aO M t) (ht : t ≤ t2) : RK bs hi mi si F bl vh vm vs ft aM aO M t2 := ⟨h.1, h.2.1, ⟨h.2.2.1.1, Int.le_trans h.2.2.1.2 ht⟩, h.2.2.2⟩
theorem RK_ft {bs hi mi si : Int} {F : Int → Int64} {bl vh vm vs ft : Int} {aM aO o2 : Int → Int} {M : Int → Bool} {t : Int} (h : RK bs hi mi si F bl vh vm vs ft aM aO M t) (ho : ∀ k : Int, 0 ≤ k → k < 20736 → 0 ≤ o2 k ∧ o2 k ≤ ft + 1) : RK bs hi mi si F bl vh vm vs (ft + 1) aM o2 M (t + 1) := ⟨h.1, h.2.1, ⟨by have := h.2.2.1; omega, by have := h.2.2.1; omega⟩, h.2.2.2.1, h.2.2.2.2.1, ho⟩
/-- what a saved state stands for hangs on its 43 numbers alone -/
theorem RT_cg {al n0 n1 : Int} {g0 g1 p q : Int → Int} (h : RT al n0 n1 g0 g1 p) (e : ∀ k : Int, 0 ≤ k → k < 43 → q k = p k) : RT al n0 n1 g0 g1 q := by
  obtain ⟨⟨h1, h2, h3⟩, h4, h5, h6, h7, h8, h9, h10⟩ := h
  refine ⟨⟨?_, ?_, ?_⟩, h4, h5, h6, fun j q1 q2 => ?_, fun j q1 q2 => ?_, h9, h10⟩
  · rw [e 2 (by omega) (by omega)]; exact h1
  · rw [e 0 (by omega) (by omega)]; exact h2
  · rw [e 1 (by omega) (by omega)]; exact h3
  · rw [h7 j q1 q2]
    exact (e (3 + 20 * 0 + j) (by omega) (by omega)).symm
  · rw [h8 j q1 q2]
    exact (e (3 + 20 * 1 + j) (by omega) (by omega)).symm
theorem RT_g {al n0 n1 : Int} {g0 g1 u0 u1 p : Int → Int} (h : RT al n0 n1 g0 g1 p) (e0 : eqB n0 u0 g0) (e1 : eqB n1 u1 g1) : RT al n0 n1 u0 u1 p := by
  obtain ⟨h1, h4, h5, h6, h7, h8, h9, h10⟩ := h
  exact ⟨h1, h4, h5, h6, fun j q1 q2 => (e0 j q1 q2).trans (h7 j q1 q2), fun j q1 q2 => (e1 j q1 q2).trans (h8 j q1 q2), fun j q1 q2 => by rw [e0 j q1 q2]; exact h9 j q1 q2, fun j q1 q2 => by rw [e1 j q1 q2]; exact h10 j q1 q2⟩
theorem md6 {a b : Int} (h0 : 0 ≤ a) (h1 : a < 6) (hb0 : 0 ≤ b) (hb1 : b < 6) : (a + b) % 6 = if a + b < 6 then a + b else a + b - 6 := by
  split <;> omega
/-- a state is saved by both -/
theorem RS_save {od sz : Int} {f : Int → Option Nat} {ph : Nat → SG} {kp : Nat} {kn : Int} {aB : Int → Int} (h : RS od sz f ph kp kn aB) {al n0 n1 : Int} {g0 g1 aS : Int → Int} (hT : RT al n0 n1 g0 g1 aS) {od2 sz2 : Int} {f2 : Int → Option Nat} {ph2 : Nat → SG} {kp2 : Nat} {kn2 : Int} {aB2 : Int → Int}
    (c1 : (sz < 6 → od2 = od ∧ sz2 = sz + 1) ∧ (sz = 6 → od2 = (od + 1) % 6 ∧ sz2 = 6)) (c2 : (kp2 = kp ∨ kp2 = kp + 1) ∧ (kp2 : Int) ≤ 6 ∧ sz2 ≤ kp2 ∧ (od2 = 0 ∨ kp2 = 6)) (c3 : ∀ z : Int, 0 ≤ z → z < 6 → f2 z = if z < kp2 then some (ph2 z.toNat).1.1 else none) (c4 : ∀ i : Nat, (i : Int) ≠ (od2 + (sz2 - 1)) % 6 → i < kp → ph2 i = ph i) (c5 : (ph2 ((od2 + (sz2 - 1)) % 6).toNat).2.1 = (al, n0, n1)) (c6 : ∀ j : Int, 0 ≤ j → j < n0 → (ph2 ((od2 + (sz2 - 1)) % 6).toNat).2.2.1 j = g0 j) (c7 : ∀ j : Int, 0 ≤ j → j < n1 → (ph2 ((od2 + (sz2 - 1)) % 6).toNat).2.2.2 j = g1 j)
    (d1 : kn2 = min (kn + 1) 6) (d2 : ∀ k : Int, 0 ≤ k → k < 43 * (kn2 - 1) → aB2 k = aB (k + 43 * (kn + 1 - kn2))) (d3 : ∀ k : Int, 0 ≤ k → k < 43 → aB2 (43 * (kn2 - 1) + k) = aS k) : RS od2 sz2 f2 ph2 kp2 kn2 aB2 := by
  obtain ⟨e1, e2, e3, e4, e5, e6, e7⟩ := h
  have hsz : sz2 = kn2 ∧ 1 ≤ sz2 ∧ sz2 ≤ 6 ∧ (0 ≤ od2 ∧ od2 < 6) := by
    by_cases hh : sz < 6
    · have := c1.1 hh; omega
    · have := c1.2 (by omega); omega
  refine ⟨hsz.1, ⟨by omega, by omega⟩, hsz.2.2.2, ⟨c2.2.1, c2.2.2.1⟩, c2.2.2.2, c3, ?_⟩
  intro t ht0 ht1
  by_cases hlast : t = sz2 - 1
  · subst hlast
    unfold RQ
    rw [c5]
    refine RT_cg (RT_g hT c6 c7) (fun k q1 q2 => ?_)
    show aB2 (43 * (sz2 - 1) + k) = aS k
    rw [hsz.1]
    exact d3 k q1 q2
  · have hsame : (od2 + t) % 6 = (od + (t + (kn + 1 - kn2))) % 6 := by
      by_cases hh : sz < 6
      · have h9 := c1.1 hh
        have : kn + 1 - kn2 = 0 := by omega
        rw [this, h9.1, Int.add_zero]
      · have h9 := c1.2 (by omega)
        have : kn + 1 - kn2 = 1 := by omega
        rw [this, h9.1]
        omega
    have ht3 : t + (kn + 1 - kn2) < sz := by
      by_cases hh : sz < 6
      · have h9 := c1.1 hh; omega
      · have h9 := c1.2 (by omega); omega
    have hpl : (((od2 + t) % 6).toNat : Int) ≠ (od2 + (sz2 - 1)) % 6 := by
      rw [Int.toNat_of_nonneg (by omega), md6 hsz.2.2.2.1 hsz.2.2.2.2 ht0 (by omega), md6 hsz.2.2.2.1 hsz.2.2.2.2 (by omega : (0 : Int) ≤ sz2 - 1) (by omega)]
      split <;> split <;> omega
    have hkp : ((od2 + t) % 6).toNat < kp := by
      rcases e5 with q | q
      · rw [hsame, q]
        omega
      · omega
    have hq := e7 (t + (kn + 1 - kn2)) (by omega) ht3
    rw [c4 _ hpl hkp, hsame]
    refine RT_cg hq (fun k q1 q2 => ?_)
    show aB2 (43 * t + k) = aB (43 * (t + (kn + 1 - kn2)) + k)
    rw [d2 (43 * t + k) (by omega) (by omega)]
    exact congrArg aB (by omega)
/-- a state comes back -/
theorem RS_undo {od sz : Int} {f : Int → Option Nat} {ph : Nat → SG} {kp : Nat} {kn : Int} {aB : Int → Int} (h : RS od sz f ph kp kn aB) (h1 : 0 < sz) : RS od (sz - 1) f ph kp (kn - 1) aB := by
  obtain ⟨e1, e2, e3, e4, e5, e6, e7⟩ := h
  exact ⟨by omega, by omega, e3, ⟨e4.1, by omega⟩, e5, e6, fun t q1 q2 => e7 t q1 (by omega)⟩
theorem RT_ins0 {al n0 n1 i v : Int} {g0 g1 aS a2 : Int → Int} (h : RT al n0 n1 g0 g1 aS) (hi : 0 ≤ i ∧ i ≤ n0) (hv : 0 ≤ v ∧ v < al) (hr : n0 < 20) (h1 : ∀ q : Int, 0 ≤ q → q < 20 → T9 a2 0 q = insF (T9 aS 0) i (aS 0) v q) (h2 : ∀ q : Int, 0 ≤ q → q < 20 → T9 a2 (1 - 0) q = T9 aS (1 - 0) q) (h3 : a2 0 = aS 0 + 1 ∧ a2 (1 - 0) = aS (1 - 0) ∧ a2 2 = aS 2) : RT al (n0 + 1) n1 (insF g0 i n0 v) g1 a2 := by
  obtain ⟨⟨e1, e2, e3⟩, b1, b2, b3, q0, q1, l0, l1⟩ := h
  subst e1; subst e2; subst e3
  have h31 : a2 1 = aS 1 := h3.2.1
  refine ⟨⟨h3.2.2.symm, h3.1.symm, h31.symm⟩, b1, ⟨by omega, by omega⟩, b3, fun j k1 k2 => ?_, fun j k1 k2 => ?_, insF_bd l0 hv hi, l1⟩
  · rw [h1 j k1 (by omega)]
    exact insF_cg q0 hi j k1 k2
  · rw [q1 j k1 k2]
    exact (h2 j k1 (by omega)).symm
theorem RT_ins1 {al n0 n1 i v : Int} {g0 g1 aS a2 : Int → Int} (h : RT al n0 n1 g0 g1 aS) (hi : 0 ≤ i ∧ i ≤ n1) (hv : 0 ≤ v ∧ v < al) (hr : n1 < 20) (h1 : ∀ q : Int, 0 ≤ q → q < 20 → T9 a2 1 q = insF (T9 aS 1) i (aS 1) v q) (h2 : ∀ q : Int, 0 ≤ q → q < 20 → T9 a2 (1 - 1) q = T9 aS (1 - 1) q) (h3 : a2 1 = aS 1 + 1 ∧ a2 (1 - 1) = aS (1 - 1) ∧ a2 2 = aS 2) : RT al n0 (n1 + 1) g0 (insF g1 i n1 v) a2 := by
  obtain ⟨⟨e1, e2, e3⟩, b1, b2, b3, q0, q1, l0, l1⟩ := h
  subst e1; subst e2; subst e3
  have h31 : a2 0 = aS 0 := h3.2.1
  refine ⟨⟨h3.2.2.symm, h31.symm, h3.1.symm⟩, b1, b2, ⟨by omega, by omega⟩, fun j k1 k2 => ?_, fun j k1 k2 => ?_, l0, insF_bd l1 hv hi⟩
  · rw [q0 j k1 k2]
    exact (h2 j k1 (by omega)).symm
  · rw [h1 j k1 (by omega)]
    exact insF_cg q1 hi j k1 k2
theorem RT_rem0 {al n0 n1 i : Int} {g0 g1 aS a2 : Int → Int} (h : RT al n0 n1 g0 g1 aS) (hi : 0 ≤ i ∧ i < n0) (h1 : ∀ q : Int, 0 ≤ q → q < aS 0 - 1 → T9 a2 0 q = delF (T9 aS 0) i (aS 0) q) (h2 : ∀ q : Int, 0 ≤ q → q < 20 → T9 a2 (1 - 0) q = T9 aS (1 - 0) q) (h3 : a2 0 = aS 0 - 1 ∧ a2 (1 - 0) = aS (1 - 0) ∧ a2 2 = aS 2) : RT al (n0 - 1) n1 (delF g0 i n0) g1 a2 := by
  obtain ⟨⟨e1, e2, e3⟩, b1, b2, b3, q0, q1, l0, l1⟩ := h
  subst e1; subst e2; subst e3
  have h31 : a2 1 = aS 1 := h3.2.1
  refine ⟨⟨h3.2.2.symm, h3.1.symm, h31.symm⟩, b1, ⟨by omega, by omega⟩, b3, fun j k1 k2 => ?_, fun j k1 k2 => ?_, delF_bd l0 hi.1, l1⟩
  · rw [h1 j k1 k2]
    exact delF_cg q0 hi.1 j k1 k2
  · rw [q1 j k1 k2]
    exact (h2 j k1 (by omega)).symm
theorem RT_rem1 {al n0 n1 i : Int} {g0 g1 aS a2 : Int → Int} (h : RT al n0 n1 g0 g1 aS) (hi : 0 ≤ i ∧ i < n1) (h1 : ∀ q : Int, 0 ≤ q → q < aS 1 - 1 → T9 a2 1 q = delF (T9 aS 1) i (aS 1) q) (h2 : ∀ q : Int, 0 ≤ q → q < 20 → T9 a2 (1 - 1) q = T9 aS (1 - 1) q) (h3 : a2 1 = aS 1 - 1 ∧ a2 (1 - 1) = aS (1 - 1) ∧ a2 2 = aS 2) : RT al n0 (n1 - 1) g0 (delF g1 i n1) a2 := by
  obtain ⟨⟨e1, e2, e3⟩, b1, b2, b3, q0, q1, l0, l1⟩ := h
  subst e1; subst e2; subst e3
  have h31 : a2 0 = aS 0 := h3.2.1
  refine ⟨⟨h3.2.2.symm, h31.symm, h3.1.symm⟩, b1, b2, ⟨by omega, by omega⟩, fun j k1 k2 => ?_, fun j k1 k2 => ?_, l0, delF_bd l1 hi.1⟩
  · rw [q0 j k1 k2]
    exact (h2 j k1 (by omega)).symm
  · rw [h1 j k1 k2]
    exact delF_cg q1 hi.1 j k1 k2
theorem RT_rep0 {al n0 n1 i v : Int} {g0 g1 aS a2 : Int → Int} (h : RT al n0 n1 g0 g1 aS) (hv : 0 ≤ v ∧ v < al) (h1 : ∀ q : Int, 0 ≤ q → q < 20 → T9 a2 0 q = (up (T9 aS 0) i v) q) (h2 : ∀ q : Int, 0 ≤ q → q < 20 → T9 a2 (1 - 0) q = T9 aS (1 - 0) q) (h3 : a2 0 = aS 0 ∧ a2 (1 - 0) = aS (1 - 0) ∧ a2 2 = aS 2) : RT al n0 n1 (up g0 i v) g1 a2 := by
  obtain ⟨⟨e1, e2, e3⟩, b1, b2, b3, q0, q1, l0, l1⟩ := h
  subst e1; subst e2; subst e3
  have h31 : a2 1 = aS 1 := h3.2.1
  refine ⟨⟨h3.2.2.symm, h3.1.symm, h31.symm⟩, b1, b2, b3, fun j k1 k2 => ?_, fun j k1 k2 => ?_, up_bd l0 hv, l1⟩
  · rw [h1 j k1 (by omega)]
    exact up_cg q0 j k1 k2
  · rw [q1 j k1 k2]
    exact (h2 j k1 (by omega)).symm
theorem RT_rep1 {al n0 n1 i v : Int} {g0 g1 aS a2 : Int → Int} (h : RT al n0 n1 g0 g1 aS) (hv : 0 ≤ v ∧ v < al) (h1 : ∀ q : Int, 0 ≤ q → q < 20 → T9 a2 1 q = (up (T9 aS 1) i v) q) (h2 : ∀ q : Int, 0 ≤ q → q < 20 → T9 a2 (1 - 1) q = T9 aS (1 - 1) q) (h3 : a2 1 = aS 1 ∧ a2 (1 - 1) = aS (1 - 1) ∧ a2 2 = aS 2) : RT al n0 n1 g0 (up g1 i v) a2 := by
  obtain ⟨⟨e1, e2, e3⟩, b1, b2, b3, q0, q1, l0, l1⟩ := h
  subst e1; subst e2; subst e3
  have h31 : a2 0 = aS 0 := h3.2.1
  refine ⟨⟨h3.2.2.symm, h31.symm, h3.1.symm⟩, b1, b2, b3, fun j k1 k2 => ?_, fun j k1 k2 => ?_, l0, up_bd l1 hv⟩
  · rw [q0 j k1 k2]
    exact (h2 j k1 (by omega)).symm
  · rw [h1 j k1 (by omega)]
    exact up_cg q1 j k1 k2
theorem RT_exch {al n0 n1 : Int} {g0 g1 aS a2 : Int → Int} (h : RT al n0 n1 g0 g1 aS) (h1 : ∀ q : Int, 0 ≤ q → q < 20 → T9 a2 0 q = T9 aS 1 q ∧ T9 a2 1 q = T9 aS 0 q) (h3 : a2 0 = aS 1 ∧ a2 1 = aS 0 ∧ a2 2 = aS 2) : RT al n1 n0 g1 g0 a2 := by
  obtain ⟨⟨e1, e2, e3⟩, b1, b2, b3, q0, q1, l0, l1⟩ := h
  subst e1; subst e2; subst e3
  refine ⟨⟨h3.2.2.symm, h3.1.symm, h3.2.1.symm⟩, b1, b3, b2, fun j k1 k2 => ?_, fun j k1 k2 => ?_, l1, l0⟩
  · rw [q1 j k1 k2]
    exact (h1 j k1 (by omega)).1.symm
  · rw [q0 j k1 k2]
    exact (h1 j k1 (by omega)).2.symm
theorem RT_alph {al n0 n1 z : Int} {g0 g1 aS : Int → Int} (h : RT al n0 n1 g0 g1 aS) (hz : 2 ≤ z ∧ z ≤ 4) (h0 : ∀ j : Int, 0 ≤ j → j < n0 → g0 j < z) (h1 : ∀ j : Int, 0 ≤ j → j < n1 → g1 j < z) : RT z n0 n1 g0 g1 (up aS 2 z) := by
  obtain ⟨⟨e1, e2, e3⟩, b1, b2, b3, q0, q1, l0, l1⟩ := h
  have u0 : up aS 2 z 0 = aS 0 := u9ne (by omega)
  have u1 : up aS 2 z 1 = aS 1 := u9ne (by omega)
  refine ⟨⟨(u9eq _ _ _).symm, by rw [u0]; exact e2, by rw [u1]; exact e3⟩, hz, b2, b3, fun j k1 k2 => ?_, fun j k1 k2 => ?_, fun j k1 k2 => ⟨(l0 j k1 k2).1, h0 j k1 k2⟩, fun j k1 k2 => ⟨(l1 j k1 k2).1, h1 j k1 k2⟩⟩
  · rw [q0 j k1 k2]
    exact (show up aS 2 z (3 + 20 * 0 + j) = aS (3 + 20 * 0 + j) from u9ne (by omega)).symm
  · rw [q1 j k1 k2]
    exact (show up aS 2 z (3 + 20 * 1 + j) = aS (3 + 20 * 1 + j) from u9ne (by omega)).symm
theorem RT_load {al k b : Int} {cb aU u0 u1 a2 : Int → Int} (hal : 2 ≤ al ∧ al ≤ 4) (hk : 0 ≤ k ∧ k ≤ 60) (e : sc cb k = (k, b)) (hb : 0 ≤ b) (hq : eqB k cb aU) (hp : ∀ y : Int, 0 ≤ y → y < k → cb y ≠ 124 → cb y - 97 < al) (c0 : ∀ y : Int, 0 ≤ y → y < b → u0 y = cb y - 97) (c1 : ∀ y : Int, 0 ≤ y → y < k - b - 1 → u1 y = cb (b + 1 + y) - 97) (h3 : a2 0 = b ∧ a2 1 = k - b - 1 ∧ a2 2 = al) (h4 : ∀ q : Int, 0 ≤ q → q < 40 → a2 (3 + q) = ldF b k aU q) : RT al b (k - b - 1) u0 u1 a2 := by
  obtain ⟨s1, s2, s3, s4, s5, s6, s7, s8⟩ := sc_good cb hk.1 e
  have hne : ∀ x : Int, 0 ≤ x → x < k → x ≠ b → 0 ≤ cb x - 97 ∧ cb x - 97 < al := fun x k1 k2 k3 => by
    have h9 := s8 x k1 k2 k3
    have h8 := hp x k1 k2 (by omega)
    omega
  refine ⟨⟨h3.2.2.symm, h3.1.symm, h3.2.1.symm⟩, hal, by omega, by omega, fun j k1 k2 => ?_, fun j k1 k2 => ?_, fun j k1 k2 => ?_, fun j k1 k2 => ?_⟩
  · rw [c0 j k1 k2]
    show cb j - 97 = a2 (3 + 20 * 0 + j)
    rw [show (3 : Int) + 20 * 0 + j = 3 + j by omega, h4 j k1 (by omega), ldF_1 (by omega) k2, hq j k1 (by omega)]
  · rw [c1 j k1 k2]
    show cb (b + 1 + j) - 97 = a2 (3 + 20 * 1 + j)
    rw [show (3 : Int) + 20 * 1 + j = 3 + (20 + j) by omega, h4 (20 + j) (by omega) (by omega), ldF_3 (by omega) (by omega), hq (b + 1 + j) (by omega) (by omega)]
    rw [show (20 : Int) + j - 20 = j by omega]
  · rw [c0 j k1 k2]
    exact hne j k1 (by omega) (by omega)
  · rw [c1 j k1 k2]
    exact hne (b + 1 + j) (by omega) (by omega) (by omega)
theorem RT_undo {x : SG} {sz kn : Int} {aB a2 u0 u1 : Int → Int} (h : RQ x (fun k => aB (43 * (sz - 1) + k))) (e : sz = kn) (h1 : ∀ k : Int, 0 ≤ k → k < 43 → a2 k = aB (43 * (kn - 1) + k)) (c0 : ∀ j : Int, 0 ≤ j → j < x.2.1.2.1 → u0 j = x.2.2.1 j) (c1 : ∀ j : Int, 0 ≤ j → j < x.2.1.2.2 → u1 j = x.2.2.2 j) : RT x.2.1.1 x.2.1.2.1 x.2.1.2.2 u0 u1 a2 := by
  subst e
  exact RT_g (RT_cg h (fun k q1 q2 => h1 k q1 q2)) c0 c1
theorem up_cg2 {a a2 : Int → Int} {m v : Int} (h0 : eqB m a a2) : eqB (m + 1) (up a m v) (up a2 m v) := by
  intro j h1 h2
  by_cases e : j = m
  · rw [e, u9eq, u9eq]
  · rw [u9ne e, u9ne e]
    exact h0 j h1 (by omega)
theorem RB_app {k ln z : Int} {cb aU : Int → Int} (h : RB k cb ln aU) (hr : k < 60) (hz : 33 ≤ z ∧ z ≤ 126) : RB (k + 1) (up cb k z) (ln + 1) (up aU ln z) := by
  obtain ⟨e, b, q, l⟩ := h
  subst e
  refine ⟨rfl, ⟨by omega, by omega⟩, up_cg2 q, fun j k1 k2 => ?_⟩
  by_cases c : j = k
  · rw [c, u9eq]; exact hz
  · rw [u9ne c]; exact l j k1 (by omega)
theorem RB_clr (cb aU : Int → Int) : RB 0 cb 0 aU := ⟨rfl, ⟨by omega, by omega⟩, fun j k1 k2 => by omega, fun j k1 k2 => by omega⟩
theorem RK_set {bs hi mi si : Int} {F : Int → Int64} {bl vh vm vs ft : Int} {aM aO : Int → Int} {M : Int → Bool} {t : Int} (h : RK bs hi mi si F bl vh vm vs ft aM aO M t) {z : Int} {F2 : Int → Int64} {aM2 : Int → Int} (hz : 1 ≤ z ∧ z ≤ 2) (h1 : ∀ w : Int, 0 ≤ w → w < 324 → F2 w = 0) (h2 : ∀ q : Int, 0 ≤ q → q < 20736 → aM2 q = 0) : RK z 0 0 0 F2 z 0 0 0 ft aM2 aO (fun _ => false) t :=
  ⟨⟨rfl, rfl, rfl, rfl⟩, by omega, h.2.2.1, rM_0 h1, fun k q1 q2 => by rw [h2 k q1 q2]; exact ⟨Or.inl rfl, fun q => absurd q (by decide), fun q => absurd (show false = true from q) (by decide)⟩, h.2.2.2.2.2⟩
theorem RK_meas {bs hi mi si : Int} {F : Int → Int64} {bl vh vm vs ft : Int} {aM aO : Int → Int} {M : Int → Bool} {t : Int} (h : RK bs hi mi si F bl vh vm vs ft aM aO M t) {al n0 n1 : Int} {g0 g1 aS : Int → Int} (hT : RT al n0 n1 g0 g1 aS) {hi2 mi2 si2 vh2 vm2 vs2 : Int} {F2 : Int → Int64} {aM2 aO2 : Int → Int} {M2 M3 : Int → Bool} (c1 : (M2, hi2, mi2, si2) = tGo bs g0 g1 n0 n1 (M, hi, mi, si)) (c2 : rM F2 M2) (d1 : (M3, vh2, vm2, vs2) = tGo bl (T9 aS 0) (T9 aS 1) (aS 0) (aS 1) (M, vh, vm, vs)) (d2 : rJ bl aM2 M3) (d3 : ∀ k : Int, 0 ≤ k → k < 20736 → 0 ≤ aO2 k ∧ aO2 k ≤ ft + 1) : RK bs hi2 mi2 si2 F2 bl vh2 vm2 vs2 (ft + 1) aM2 aO2 M2 (t + 1) := by
  obtain ⟨⟨e1, e2, e3⟩, b1, b2, b3, q0, q1, l0, l1⟩ := hT
  obtain ⟨⟨f1, f2, f3, f4⟩, hb, hft, hM, hJ, hO⟩ := h
  subst e1; subst e2; subst e3; subst f1; subst f2; subst f3; subst f4
  rw [tGo_cg hb q0 q1, ← d1] at c1
  injection c1 with k1 k2
  injection k2 with k2 k3
  injection k3 with k3 k4
  subst k1; subst k2; subst k3; subst k4
  exact ⟨⟨rfl, rfl, rfl, rfl⟩, hb, ⟨by omega, by omega⟩, c2, d2, d3⟩
