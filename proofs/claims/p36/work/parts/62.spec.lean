/-! p36: what the property rests on, as numbers -/
theorem lt3_4 {g : Int → Int} {n : Int} (h : ∀ j : Int, 0 ≤ j → j < n → 0 ≤ g j ∧ g j < 3) : ∀ j : Int, 0 ≤ j → j < n → 0 ≤ g j ∧ g j < 4 := fun j h1 h2 => by have := h j h1 h2; omega
theorem insF_b3 {a : Int → Int} {n i v al : Int} (h : ∀ j : Int, 0 ≤ j → j < n → 0 ≤ a j ∧ a j < al) (hv : 0 ≤ v ∧ v < al) (hi : 0 ≤ i ∧ i ≤ n) : ∀ j : Int, 0 ≤ j → j < n + 1 → 0 ≤ insF a i n v j ∧ insF a i n v j < al := by
  intro j h1 h2
  unfold insF
  by_cases e : j = i
  · rw [if_pos e]; exact hv
  · rw [if_neg e]
    by_cases e2 : i < j ∧ j ≤ n
    · rw [if_pos e2]
      exact h (j - 1) (by omega) (by omega)
    · rw [if_neg e2]
      exact h j h1 (by omega)
theorem delF_b3 {a : Int → Int} {n i al : Int} (h : ∀ j : Int, 0 ≤ j → j < n → 0 ≤ a j ∧ a j < al) (hi : 0 ≤ i) : ∀ j : Int, 0 ≤ j → j < n - 1 → 0 ≤ delF a i n j ∧ delF a i n j < al := by
  intro j h1 h2
  unfold delF
  by_cases e2 : i ≤ j ∧ j < n - 1
  · rw [if_pos e2]
    exact h (j + 1) (by omega) (by omega)
  · rw [if_neg e2]
    exact h j h1 (by omega)
theorem upF_b3 {a : Int → Int} {n i v al : Int} (h : ∀ j : Int, 0 ≤ j → j < n → 0 ≤ a j ∧ a j < al) (hv : 0 ≤ v ∧ v < al) : ∀ j : Int, 0 ≤ j → j < n → 0 ≤ up a i v j ∧ up a i v j < al := by
  intro j h1 h2
  unfold up
  by_cases e : j = i
  · rw [if_pos e]; exact hv
  · rw [if_neg e]; exact h j h1 h2
/-! the way, walked back from its end -/
theorem stp_D {a b : Int → Int} {i j : Int} (hi : 0 ≤ i) (hj : 0 ≤ j) (h : 0 < i ∨ 0 < j) :
    D 1 a b i j = D 1 a b (if stp a b i j = 3 then i else i - 1) (if stp a b i j = 2 then j else j - 1) + if stp a b i j = 0 then 0 else 1 := by
  have hb := stp_bd (a := a) (b := b) hi hj h
  have hc := cst_bd (a (i - 1)) (b (j - 1))
  by_cases h1 : 0 < i ∧ 0 < j ∧ D 1 a b i j = D 1 a b (i - 1) (j - 1) + cst (a (i - 1)) (b (j - 1))
  · have e : stp a b i j = cst (a (i - 1)) (b (j - 1)) := by unfold stp; rw [if_pos h1]
    rw [if_neg (show ¬ stp a b i j = 3 by omega), if_neg (show ¬ stp a b i j = 2 by omega), e, h1.2.2]
    split <;> omega
  · by_cases h2 : 0 < i ∧ D 1 a b i j = D 1 a b (i - 1) j + 1
    · have e : stp a b i j = 2 := by unfold stp; rw [if_neg h1, if_pos h2]
      rw [e, if_neg (by omega), if_pos rfl, if_neg (by omega)]
      exact h2.2
    · have e : stp a b i j = 3 := by unfold stp; rw [if_neg h1, if_neg h2]
      have hj0 : 0 < j := hb.2.2.1 e
      rw [e, if_pos rfl, if_neg (by omega), if_neg (by omega)]
      by_cases hi0 : 0 < i
      · have es := D_s 1 a b hi0 hj0
        have n1 : ¬ D 1 a b i j = D 1 a b (i - 1) (j - 1) + cst (a (i - 1)) (b (j - 1)) := fun q => h1 ⟨hi0, hj0, q⟩
        have n2 : ¬ D 1 a b i j = D 1 a b (i - 1) j + 1 := fun q => h2 ⟨hi0, q⟩
        omega
      · have e1 := D_0 1 a b (i := i) (j := j) (by omega) hj
        have e2 := D_0 1 a b (i := i) (j := j - 1) (by omega) (by omega)
        omega
/-- u steps of the way are told, counted in c, and it goes on from (i, j) -/
def wQ (a b : Int → Int) (m n u i j : Int) (c : Int → Int) : Prop :=
  wInv a b m n u i j ∧ (∀ x : Int, 0 ≤ x → x < 4 → c x = cnt (wA a b m n) x u) ∧ D 1 a b i j + (c 1 + c 2 + c 3) = D 1 a b m n
theorem wQ_0 {a b : Int → Int} {m n : Int} (hm : 0 ≤ m ∧ m ≤ 20) (hn : 0 ≤ n ∧ n ≤ 20) : wQ a b m n 0 m n (fun _ => 0) := ⟨wInv_0 hm hn, fun x _ _ => (cnt_0 _ x).symm, by show D 1 a b m n + ((0 : Int) + 0 + 0) = D 1 a b m n; omega⟩
theorem wInv_go {a b : Int → Int} {i0 j0 k i j : Int} (h : wInv a b i0 j0 k i j) (hk : k < wL a b i0 j0) : 0 < i ∨ 0 < j := by
  by_cases h9 : 0 < i ∨ 0 < j
  · exact h9
  · have e := wInv_end h (by omega) (by omega) (Or.inr (by obtain ⟨h1, -⟩ := h; unfold wL at hk; omega))
    omega
theorem wInv_fin {a b : Int → Int} {i0 j0 i j : Int} (h : wInv a b i0 j0 (wL a b i0 j0) i j) : i = 0 ∧ j = 0 := by
  have h0 := h
  obtain ⟨h1, h2, h3, h4, h5, h6, h7⟩ := h
  by_cases h9 : 0 < i ∨ 0 < j
  · have h8 := (wInv_step h0 h9).2.1
    unfold wL at h8
    omega
  · omega
theorem wQ_bd {a b : Int → Int} {m n u i j : Int} {c : Int → Int} (h : wQ a b m n u i j c) (hm : 0 ≤ m ∧ m ≤ 20) (hn : 0 ≤ n ∧ n ≤ 20) : (0 ≤ i ∧ i ≤ m) ∧ (0 ≤ j ∧ j ≤ n) ∧ 0 ≤ u := by
  obtain ⟨⟨h1, h2, h3, h4, h5, h6, h7⟩, -⟩ := h
  omega
theorem wQ_c {a b : Int → Int} {m n u i j : Int} {c : Int → Int} (h : wQ a b m n u i j c) {x : Int} (h0 : 0 ≤ x) (h1 : x < 4) : 0 ≤ c x ∧ c x ≤ u := by
  rw [h.2.1 x h0 h1]
  exact cnt_bd _ _ h.1.1
theorem wQ_s {a b : Int → Int} {m n u i j : Int} {c : Int → Int} (h : wQ a b m n u i j c) (hu : u < wL a b m n) :
    wA a b m n u = stp a b i j ∧ wQ a b m n (u + 1) (if stp a b i j = 3 then i else i - 1) (if stp a b i j = 2 then j else j - 1) (up c (stp a b i j) (c (stp a b i j) + 1)) := by
  have hij := wInv_go h.1 hu
  obtain ⟨k1, k2, k3, k4⟩ := wInv_step h.1 hij
  have hi : 0 ≤ i := h.1.2.1
  have hj : 0 ≤ j := h.1.2.2.1
  have hb := stp_bd (a := a) (b := b) hi hj hij
  have hD := stp_D (a := a) (b := b) hi hj hij
  refine ⟨k3, k4, fun x h0 h1 => ?_, ?_⟩
  · rw [cnt_s _ x h.1.1, k3]
    unfold up
    by_cases e : x = stp a b i j
    · rw [if_pos e, if_pos e.symm, ← e, h.2.1 x h0 h1]
    · rw [if_neg e, if_neg (fun q => e q.symm), h.2.1 x h0 h1, Int.add_zero]
  · have hE := h.2.2
    generalize hst : stp a b i j = v at hb hD ⊢
    generalize (D 1 a b (if v = 3 then i else i - 1) (if v = 2 then j else j - 1)) = dd at hD ⊢
    unfold up
    rcases (show v = 0 ∨ v = 1 ∨ v = 2 ∨ v = 3 by omega) with e | e | e | e <;> subst e <;> (try simp at hD) <;> (try simp) <;> omega
/-! distances have bounds -/
theorem dN_diff (a b : Int → Int) : ∀ i j : Nat, (i : Int) - j ≤ dN 1 a b i j ∧ (j : Int) - i ≤ dN 1 a b i j := by
  intro i
  induction i with
  | zero => intro j; rw [dN]; omega
  | succ i ih =>
    intro j
    induction j with
    | zero => rw [dN]; omega
    | succ j ihj =>
      have h1 := ih (j + 1)
      have h2 := ih j
      have h3 := cst_bd (a i) (b j)
      rw [dN]
      omega
theorem D_diff (a b : Int → Int) {i j : Int} (hi : 0 ≤ i) (hj : 0 ≤ j) : i - j ≤ D 1 a b i j ∧ j - i ≤ D 1 a b i j := by
  have h := dN_diff a b i.toNat j.toNat
  unfold D
  omega
theorem dN_01 (a b : Int → Int) : ∀ i j : Nat, dN 0 a b i j ≤ dN 1 a b i j := by
  intro i
  induction i with
  | zero => intro j; rw [dN, dN]; omega
  | succ i ih =>
    intro j
    induction j with
    | zero => rw [dN, dN]; omega
    | succ j ihj =>
      have h1 := ih (j + 1)
      have h2 := ih j
      rw [dN, dN]
      omega
theorem fd_le (a b : Int → Int) {m n : Int} (hm : 0 ≤ m) (hn : 0 ≤ n) : D 0 a b (argI (fun i => D 0 a b i n) m) n ≤ D 1 a b m n ∧ D 0 a b (argI (fun i => D 0 a b i n) m) n ≤ n := by
  have h1 := (argN_least (fun i => D 0 a b i n) m.toNat m hm (by omega)).1
  have h2 := (argN_least (fun i => D 0 a b i n) m.toNat 0 (by omega) (by omega)).1
  have h3 : D 0 a b m n ≤ D 1 a b m n := dN_01 a b m.toNat n.toNat
  have h4 : D 0 a b 0 n = n := D_0 0 a b rfl hn
  have h1 : D 0 a b (argI (fun i => D 0 a b i n) m) n ≤ D 0 a b m n := h1
  have h2 : D 0 a b (argI (fun i => D 0 a b i n) m) n ≤ D 0 a b 0 n := h2
  omega
theorem bandN_20 {n : Int} (hn : 0 ≤ n ∧ n ≤ 20) : ∀ k : Nat, k ≤ 21 → bandN 20 n k = (k : Int) * (n + 1) := by
  intro k
  induction k with
  | zero => intro _; rw [bandN]; simp
  | succ k ih =>
    intro hk
    rw [bandN, ih (by omega), show ((k + 1 : Nat) : Int) * (n + 1) = (k : Int) * (n + 1) + (n + 1) by rw [Int.natCast_add, Int.add_mul]; simp]
    omega
theorem bandI_20 {m n : Int} (hm : 0 ≤ m ∧ m ≤ 20) (hn : 0 ≤ n ∧ n ≤ 20) : bandI 20 n (m + 1) = (m + 1) * (n + 1) := by
  unfold bandI
  rw [bandN_20 hn _ (by omega), Int.toNat_of_nonneg (by omega)]
theorem bandN_bd {b n : Int} (hn : 0 ≤ n ∧ n ≤ 20) (hb : 0 ≤ b) : ∀ k : Nat, 0 ≤ bandN b n k ∧ bandN b n k ≤ 21 * k := by
  intro k
  induction k with
  | zero => rw [bandN]; omega
  | succ k ih => rw [bandN]; omega
theorem bandI_bd {b n k : Int} (hn : 0 ≤ n ∧ n ≤ 20) (hb : 0 ≤ b) (hk : 0 ≤ k ∧ k ≤ 21) : 0 ≤ bandI b n k ∧ bandI b n k ≤ 441 := by
  have h := bandN_bd hn hb k.toNat
  unfold bandI
  omega
/-! similarity, compared with 0 and 1 -/
def simOk (d g : Nat) : Bool := decide (0 ≤ dc .l (sim (d : Int) (g : Int)) FP.dconst0) && decide (dc .g (sim (d : Int) (g : Int)) FP.dconst1 ≤ 0) && decide (dc .l (sim (d : Int) (g : Int)) FP.dconst1 = 0 ↔ d = 0)
theorem sim_all : (List.range 21).all (fun g => (List.range (g + 1)).all (fun d => simOk d g)) = true := by decide +kernel
theorem sim_ok {d g : Int} (h0 : 0 ≤ d) (h1 : d ≤ g) (h2 : g ≤ 20) : 0 ≤ dc .l (sim d g) FP.dconst0 ∧ dc .g (sim d g) FP.dconst1 ≤ 0 ∧ (dc .l (sim d g) FP.dconst1 = 0 ↔ d = 0) := by
  obtain ⟨x, rfl⟩ := Int.eq_ofNat_of_zero_le h0
  obtain ⟨y, rfl⟩ := Int.eq_ofNat_of_zero_le (by omega : 0 ≤ g)
  have h := List.all_eq_true.mp sim_all y (List.mem_range.mpr (by omega))
  have h := List.all_eq_true.mp h x (List.mem_range.mpr (by omega))
  unfold simOk at h
  simp only [Bool.and_eq_true, decide_eq_true_eq] at h
  exact ⟨h.1.1, h.1.2, h.2.trans (by omega)⟩
/-! one letter replaced -/
theorem dN_upd {a a' b : Int → Int} {k : Int} (hk : ∀ x : Int, x ≠ k → a' x = a x) : ∀ i j : Nat, dN 1 a' b i j ≤ dN 1 a b i j + 1 := by
  intro i
  induction i with
  | zero => intro j; rw [dN, dN]; omega
  | succ i ih =>
    intro j
    induction j with
    | zero => rw [dN, dN]; omega
    | succ j ihj =>
      have h1 := ih (j + 1)
      have h2 := ih j
      have h3 := cst_bd (a i) (b j)
      have h4 := cst_bd (a' i) (b j)
      by_cases e : (i : Int) = k
      · have h5 : dN 1 a' b i j = dN 1 a b i j := dN_cg 1 i j (fun x q1 q2 => hk x (by omega)) (fun _ _ _ => rfl)
        rw [dN, dN]
        omega
      · rw [dN, dN, hk i e]
        omega
theorem D_upd (a b : Int → Int) (k v i j : Int) : D 1 (up a k v) b i j ≤ D 1 a b i j + 1 ∧ D 1 a b i j ≤ D 1 (up a k v) b i j + 1 :=
  ⟨dN_upd (k := k) (fun _ h => up_ne h) _ _, dN_upd (k := k) (fun _ h => (up_ne h).symm) _ _⟩
/-- where (b, c) is what the law has found so far, and x what is due -/
def lRel (F : Int → Int → Int) (al n b c : Int) (x : Int × Int) : Prop := (b = -1 ∧ c = 99 ∧ x = (-1, 0)) ∨ ((0 ≤ b / 10 ∧ b / 10 < n ∧ 0 ≤ b % 10 ∧ b % 10 < al) ∧ 0 ≤ c ∧ c ≤ 98 ∧ c = F (b / 10) (b % 10) ∧ x = (b, c))
theorem lRel_up {F : Int → Int → Int} {al n b c v k z : Int} {x : Int × Int} (h : lRel F al n b c x) (ev : v = F k z) (hv : 0 ≤ v ∧ v ≤ 98) (hk : 0 ≤ k ∧ k < n) (hz : 0 ≤ z ∧ z < al) (ha : al ≤ 4) (hc : v < c) : lRel F al n (10 * k + z) v (bStep v (10 * k + z) x) := by
  have e1 : (10 * k + z) / 10 = k := by omega
  have e2 : (10 * k + z) % 10 = z := by omega
  refine Or.inr ⟨by rw [e1, e2]; omega, hv.1, hv.2, by rw [e1, e2]; exact ev, ?_⟩
  unfold bStep
  rcases h with ⟨h1, h2, h3⟩ | ⟨h0, h1, h2, h4, h3⟩
  · rw [h3, if_pos (Or.inl (by decide))]
  · rw [h3, if_pos (Or.inr hc)]
theorem lRel_no {F : Int → Int → Int} {al n b c v z : Int} {x : Int × Int} (h : lRel F al n b c x) (hv : 0 ≤ v ∧ v ≤ 98) (hc : c ≤ v) : lRel F al n b c (bStep v z x) := by
  rcases h with ⟨h1, h2, h3⟩ | ⟨h0, h1, h2, h4, h3⟩
  · omega
  · refine Or.inr ⟨h0, h1, h2, h4, ?_⟩
    unfold bStep
    rw [h3, if_neg (by show ¬ (b < 0 ∨ v < c); omega)]
theorem lRel_1 {F : Int → Int → Int} {al n b c : Int} {x : Int × Int} (h : lRel F al n b c x) : x.1 = b := by
  rcases h with ⟨h1, h2, h3⟩ | ⟨h0, h1, h2, h4, h3⟩
  · rw [h3, h1]
  · rw [h3]
theorem lRel_bd {F : Int → Int → Int} {al n b c : Int} {x : Int × Int} (h : lRel F al n b c x) (hn : n ≤ 20) (ha : al ≤ 4) : -1 ≤ b ∧ b ≤ 199 ∧ 0 ≤ c ∧ c ≤ 99 ∧ (0 ≤ b → (0 ≤ b / 10 ∧ b / 10 < n) ∧ (0 ≤ b % 10 ∧ b % 10 < al) ∧ c = F (b / 10) (b % 10)) := by
  rcases h with ⟨h1, h2, h3⟩ | ⟨h0, h1, h2, h4, h3⟩
  · exact ⟨by omega, by omega, by omega, by omega, fun q => absurd q (by omega)⟩
  · exact ⟨by omega, by omega, by omega, by omega, fun q => ⟨by omega, by omega, h4⟩⟩
/-! the table: what a round of it adds; a second round misses nothing -/
def rMet (t : Int) (a b : Int → Int) (m n i : Int) : Nat → Int → (Int → Bool) → Prop
  | 0, _, _ => True
  | f + 1, j, M => if j ≤ n then ((i + t - 1 ≤ m ∧ j + t - 1 ≤ n → M (keyC t a b i j) = true) ∧ rMet t a b m n i f (j + t) M) else True
def aMet (t : Int) (a b : Int → Int) (m n : Int) : Nat → Int → (Int → Bool) → Prop
  | 0, _, _ => True
  | f + 1, i, M => if i ≤ m then (rMet t a b m n i 21 1 M ∧ aMet t a b m n f (i + t) M) else True
abbrev subM (M N : Int → Bool) : Prop := ∀ k : Int, M k = true → N k = true
theorem tBlk_mono (t : Int) (a b : Int → Int) (m n i j : Int) (x : TS) : subM x.1 (tBlk t a b m n i j x).1 := by
  intro k hk
  unfold tBlk
  split
  · unfold tKey
    split
    · exact hk
    · show upB x.1 (keyC t a b i j) k = true
      unfold upB
      split
      · rfl
      · exact hk
  · exact hk
theorem tRow_mono (t : Int) (a b : Int → Int) (m n i : Int) : ∀ (f : Nat) (j : Int) (x : TS), subM x.1 (tRow t a b m n i f j x).1 := by
  intro f
  induction f with
  | zero => intro j x k hk; exact hk
  | succ f ih =>
    intro j x k hk
    rw [tRow]
    split
    · exact ih (j + t) _ k (tBlk_mono t a b m n i j x k hk)
    · exact hk
theorem tAll_mono (t : Int) (a b : Int → Int) (m n : Int) : ∀ (f : Nat) (i : Int) (x : TS), subM x.1 (tAll t a b m n f i x).1 := by
  intro f
  induction f with
  | zero => intro i x k hk; exact hk
  | succ f ih =>
    intro i x k hk
    rw [tAll]
    split
    · exact ih (i + t) _ k (tRow_mono t a b m n i 21 1 x k hk)
    · exact hk
theorem rMet_mono {t : Int} {a b : Int → Int} {m n i : Int} {M N : Int → Bool} (h : subM M N) : ∀ (f : Nat) (j : Int), rMet t a b m n i f j M → rMet t a b m n i f j N := by
  intro f
  induction f with
  | zero => intro j _; trivial
  | succ f ih =>
    intro j hM
    rw [rMet] at hM ⊢
    split
    · rename_i hj
      rw [if_pos hj] at hM
      exact ⟨fun q => h _ (hM.1 q), ih (j + t) hM.2⟩
    · trivial
theorem aMet_mono {t : Int} {a b : Int → Int} {m n : Int} {M N : Int → Bool} (h : subM M N) : ∀ (f : Nat) (i : Int), aMet t a b m n f i M → aMet t a b m n f i N := by
  intro f
  induction f with
  | zero => intro i _; trivial
  | succ f ih =>
    intro i hM
    rw [aMet] at hM ⊢
    split
    · rename_i hi
      rw [if_pos hi] at hM
      exact ⟨rMet_mono h 21 1 hM.1, ih (i + t) hM.2⟩
    · trivial
theorem tBlk_met {t : Int} {a b : Int → Int} {m n i j : Int} {x : TS} (h : i + t - 1 ≤ m ∧ j + t - 1 ≤ n) : (tBlk t a b m n i j x).1 (keyC t a b i j) = true := by
  unfold tBlk
  rw [if_pos h]
  unfold tKey
  split
  · rename_i h9
    exact h9
  · show upB x.1 (keyC t a b i j) (keyC t a b i j) = true
    unfold upB
    exact if_pos rfl
theorem tRow_met (t : Int) (a b : Int → Int) (m n i : Int) : ∀ (f : Nat) (j : Int) (x : TS), rMet t a b m n i f j (tRow t a b m n i f j x).1 := by
  intro f
  induction f with
  | zero => intro j x; trivial
  | succ f ih =>
    intro j x
    rw [rMet, tRow]
    by_cases hj : j ≤ n
    · rw [if_pos hj, if_pos hj]
      exact ⟨fun q => tRow_mono t a b m n i f (j + t) _ _ (tBlk_met q), ih (j + t) _⟩
    · rw [if_neg hj]
      trivial
theorem tAll_met (t : Int) (a b : Int → Int) (m n : Int) : ∀ (f : Nat) (i : Int) (x : TS), aMet t a b m n f i (tAll t a b m n f i x).1 := by
  intro f
  induction f with
  | zero => intro i x; trivial
  | succ f ih =>
    intro i x
    rw [aMet, tAll]
    by_cases hi : i ≤ m
    · rw [if_pos hi, if_pos hi]
      exact ⟨rMet_mono (tAll_mono t a b m n f (i + t) _) 21 1 (tRow_met t a b m n i 21 1 x), ih (i + t) _⟩
    · rw [if_neg hi]
      trivial
theorem tBlk_same {t : Int} {a b : Int → Int} {m n i j : Int} {x : TS} (h : i + t - 1 ≤ m ∧ j + t - 1 ≤ n → x.1 (keyC t a b i j) = true) : (tBlk t a b m n i j x).1 = x.1 ∧ (tBlk t a b m n i j x).2.2.1 = x.2.2.1 := by
  unfold tBlk
  split
  · rename_i h9
    unfold tKey
    rw [if_pos (h h9)]
    exact ⟨rfl, rfl⟩
  · exact ⟨rfl, rfl⟩
theorem tRow_same {t : Int} {a b : Int → Int} {m n i : Int} : ∀ (f : Nat) (j : Int) (x : TS), rMet t a b m n i f j x.1 → (tRow t a b m n i f j x).1 = x.1 ∧ (tRow t a b m n i f j x).2.2.1 = x.2.2.1 := by
  intro f
  induction f with
  | zero => intro j x _; exact ⟨rfl, rfl⟩
  | succ f ih =>
    intro j x hM
    rw [rMet] at hM
    rw [tRow]
    by_cases hj : j ≤ n
    · rw [if_pos hj] at hM ⊢
      have h1 := tBlk_same hM.1
      have h2 := ih (j + t) (tBlk t a b m n i j x) (by rw [h1.1]; exact hM.2)
      exact ⟨h2.1.trans h1.1, h2.2.trans h1.2⟩
    · rw [if_neg hj]
      exact ⟨rfl, rfl⟩
theorem tAll_same {t : Int} {a b : Int → Int} {m n : Int} : ∀ (f : Nat) (i : Int) (x : TS), aMet t a b m n f i x.1 → (tAll t a b m n f i x).1 = x.1 ∧ (tAll t a b m n f i x).2.2.1 = x.2.2.1 := by
  intro f
  induction f with
  | zero => intro i x _; exact ⟨rfl, rfl⟩
  | succ f ih =>
    intro i x hM
    rw [aMet] at hM
    rw [tAll]
    by_cases hi : i ≤ m
    · rw [if_pos hi] at hM ⊢
      have h1 := tRow_same 21 1 x hM.1
      have h2 := ih (i + t) (tRow t a b m n i 21 1 x) (by rw [h1.1]; exact hM.2)
      exact ⟨h2.1.trans h1.1, h2.2.trans h1.2⟩
    · rw [if_neg hi]
      exact ⟨rfl, rfl⟩
/-- a second round behind the first one misses nothing -/
theorem tGo_two {t : Int} {a b : Int → Int} {m n : Int} {x y : TS} (h : y.1 = (tGo t a b m n x).1) : (tGo t a b m n y).1 = y.1 ∧ (tGo t a b m n y).2.2.1 = y.2.2.1 := tAll_same 21 1 y (by rw [h]; exact tAll_met t a b m n 21 1 x)
/-- what a block adds: hits and misses together, single steps -/
theorem tBlk_cnt (t : Int) (a b : Int → Int) (m n i j : Int) (x : TS) : (tBlk t a b m n i j x).2.1 + (tBlk t a b m n i j x).2.2.1 = x.2.1 + x.2.2.1 + (if i + t - 1 ≤ m ∧ j + t - 1 ≤ n then 1 else 0) ∧ (tBlk t a b m n i j x).2.2.2 = x.2.2.2 + (if i + t - 1 ≤ m ∧ j + t - 1 ≤ n then 0 else min t (m - i + 1) * min t (n - j + 1)) ∧ x.2.2.1 ≤ (tBlk t a b m n i j x).2.2.1 ∧ (tBlk t a b m n i j x).2.2.1 ≤ x.2.2.1 + 1 := by
  unfold tBlk
  by_cases h : i + t - 1 ≤ m ∧ j + t - 1 ≤ n
  · rw [if_pos h, if_pos h, if_pos h]
    unfold tKey
    split
    · refine ⟨?_, ?_, ?_, ?_⟩ <;> first | (simp; done) | (simp; omega) | omega
    · refine ⟨?_, ?_, ?_, ?_⟩ <;> first | (simp; done) | (simp; omega) | omega
  · rw [if_neg h, if_neg h, if_neg h]
    unfold tOne
    refine ⟨?_, ?_, ?_, ?_⟩ <;> first | (simp; done) | (simp; omega) | omega
theorem tRow_c1 (a b : Int → Int) {m n i : Int} (hi : i ≤ m) : ∀ (f : Nat) (j : Int) (x : TS), 1 ≤ j → n + 1 - j ≤ f → (tRow 1 a b m n i f j x).2.1 + (tRow 1 a b m n i f j x).2.2.1 = x.2.1 + x.2.2.1 + max 0 (n + 1 - j) ∧ (tRow 1 a b m n i f j x).2.2.2 = x.2.2.2 ∧ x.2.2.1 ≤ (tRow 1 a b m n i f j x).2.2.1 ∧ (tRow 1 a b m n i f j x).2.2.1 ≤ x.2.2.1 + max 0 (n + 1 - j) := by
  intro f
  induction f with
  | zero => intro j x h1 h2; rw [tRow]; omega
  | succ f ih =>
    intro j x h1 h2
    rw [tRow]
    by_cases hj : j ≤ n
    · rw [if_pos hj]
      have hb := tBlk_cnt 1 a b m n i j x
      rw [if_pos (by omega), if_pos (by omega)] at hb
      have hq := ih (j + 1) (tBlk 1 a b m n i j x) (by omega) (by omega)
      omega
    · rw [if_neg hj]
      omega
theorem tAll_c1 (a b : Int → Int) {m n : Int} (hn : 0 ≤ n ∧ n ≤ 20) : ∀ (f : Nat) (i : Int) (x : TS), 1 ≤ i → i ≤ m + 1 → m + 1 - i ≤ f → (tAll 1 a b m n f i x).2.1 + (tAll 1 a b m n f i x).2.2.1 = x.2.1 + x.2.2.1 + (m + 1 - i) * n ∧ (tAll 1 a b m n f i x).2.2.2 = x.2.2.2 ∧ x.2.2.1 ≤ (tAll 1 a b m n f i x).2.2.1 ∧ (tAll 1 a b m n f i x).2.2.1 ≤ x.2.2.1 + (m + 1 - i) * n := by
  intro f
  induction f with
  | zero =>
    intro i x h1 h2 h3
    rw [tAll, show m + 1 - i = 0 by omega]
    omega
  | succ f ih =>
    intro i x h1 h2 h3
    rw [tAll]
    by_cases hi : i ≤ m
    · rw [if_pos hi]
      have hb := tRow_c1 a b (n := n) hi 21 1 x (by omega) (by omega)
      have hq := ih (i + 1) (tRow 1 a b m n i 21 1 x) (by omega) (by omega) (by omega)
      have e : (m + 1 - i) * n = (m + 1 - (i + 1)) * n + n := by
        rw [show m + 1 - i = (m + 1 - (i + 1)) + 1 by omega, Int.add_mul, Int.one_mul]
      omega
    · rw [if_neg hi, show m + 1 - i = 0 by omega]
      omega
/-- a row of blocks of size 2: high is 2 or 1 -/
theorem tRow_c2 (a b : Int → Int) {m n i : Int} (hi : i ≤ m) : ∀ (f : Nat) (j : Int) (x : TS), 1 ≤ j → n + 1 - j ≤ f →
    (i + 1 ≤ m → (tRow 2 a b m n i f j x).2.1 + (tRow 2 a b m n i f j x).2.2.1 = x.2.1 + x.2.2.1 + max 0 (n + 1 - j) / 2 ∧ (tRow 2 a b m n i f j x).2.2.2 = x.2.2.2 + 2 * (max 0 (n + 1 - j) % 2)) ∧
    (m < i + 1 → (tRow 2 a b m n i f j x).2.1 + (tRow 2 a b m n i f j x).2.2.1 = x.2.1 + x.2.2.1 ∧ (tRow 2 a b m n i f j x).2.2.2 = x.2.2.2 + max 0 (n + 1 - j)) ∧ x.2.2.1 ≤ (tRow 2 a b m n i f j x).2.2.1 ∧ (tRow 2 a b m n i f j x).2.2.1 ≤ x.2.2.1 + max 0 (n + 1 - j) := by
  intro f
  induction f with
  | zero => intro j x h1 h2; rw [tRow]; omega
  | succ f ih =>
    intro j x h1 h2
    rw [tRow]
    by_cases hj : j ≤ n
    · rw [if_pos hj]
      have hb := tBlk_cnt 2 a b m n i j x
      have hq := ih (j + 2) (tBlk 2 a b m n i j x) (by omega) (by omega)
      by_cases hw : i + 1 ≤ m
      · by_cases hv : j + 1 ≤ n
        · rw [if_pos (by omega), if_pos (by omega)] at hb
          omega
        · rw [if_neg (by omega), if_neg (by omega), show min 2 (m - i + 1) = 2 by omega, show min 2 (n - j + 1) = 1 by omega] at hb
          omega
      · rw [if_neg (by omega), if_neg (by omega), show min 2 (m - i + 1) = 1 by omega] at hb
        omega
    · rw [if_neg hj]
      omega
theorem tAll_c2 (a b : Int → Int) {m n : Int} (hn : 0 ≤ n ∧ n ≤ 20) : ∀ (f : Nat) (i : Int) (x : TS), 1 ≤ i → i ≤ m + 2 → m + 1 - i ≤ f →
    (tAll 2 a b m n f i x).2.1 + (tAll 2 a b m n f i x).2.2.1 = x.2.1 + x.2.2.1 + max 0 (m + 1 - i) / 2 * (n / 2) ∧ (tAll 2 a b m n f i x).2.2.2 = x.2.2.2 + max 0 (m + 1 - i) * n - 4 * (max 0 (m + 1 - i) / 2 * (n / 2)) ∧ x.2.2.1 ≤ (tAll 2 a b m n f i x).2.2.1 ∧ (tAll 2 a b m n f i x).2.2.1 ≤ x.2.2.1 + max 0 (m + 1 - i) * n := by
  intro f
  induction f with
  | zero =>
    intro i x h1 h2 h3
    rw [tAll, show max 0 (m + 1 - i) = 0 by omega, show (0 : Int) / 2 * (n / 2) = 0 by simp, Int.zero_mul]
    omega
  | succ f ih =>
    intro i x h1 h2 h3
    rw [tAll]
    by_cases hi : i ≤ m
    · rw [if_pos hi]
      have hb := tRow_c2 a b (n := n) hi 21 1 x (by omega) (by omega)
      have hq := ih (i + 2) (tRow 2 a b m n i 21 1 x) (by omega) (by omega) (by omega)
      by_cases hw : i + 1 ≤ m
      · have e1 : max 0 (m + 1 - i) / 2 * (n / 2) = max 0 (m + 1 - (i + 2)) / 2 * (n / 2) + n / 2 := by
          rw [show max 0 (m + 1 - i) / 2 = max 0 (m + 1 - (i + 2)) / 2 + 1 by omega, Int.add_mul, Int.one_mul]
        have e2 : max 0 (m + 1 - i) * n = max 0 (m + 1 - (i + 2)) * n + 2 * n := by
          rw [show max 0 (m + 1 - i) = max 0 (m + 1 - (i + 2)) + 2 by omega, Int.add_mul]
        have hb1 := hb.1 hw
        omega
      · have e1 : max 0 (m + 1 - i) / 2 * (n / 2) = 0 := by
          rw [show max 0 (m + 1 - i) / 2 = 0 by omega, Int.zero_mul]
        have e2 : max 0 (m + 1 - i) * n = n := by
          rw [show max 0 (m + 1 - i) = 1 by omega, Int.one_mul]
        have e3 : max 0 (m + 1 - (i + 2)) / 2 * (n / 2) = 0 := by
          rw [show max 0 (m + 1 - (i + 2)) / 2 = 0 by omega, Int.zero_mul]
        have e4 : max 0 (m + 1 - (i + 2)) * n = 0 := by
          rw [show max 0 (m + 1 - (i + 2)) = 0 by omega, Int.zero_mul]
        have hb1 := hb.2.1 (by omega)
        omega
    · rw [if_neg hi, show max 0 (m + 1 - i) = 0 by omega, show (0 : Int) / 2 * (n / 2) = 0 by simp, Int.zero_mul]
      omega
/-- whole blocks -/
def whB (t m n : Int) : Int := m / t * (n / t)
theorem whB_bd {t m n : Int} (ht : t = 1 ∨ t = 2) (hm : 0 ≤ m ∧ m ≤ 20) (hn : 0 ≤ n ∧ n ≤ 20) : (0 ≤ m / t ∧ m / t ≤ 20) ∧ (0 ≤ n / t ∧ n / t ≤ 20) ∧ (0 ≤ whB t m n ∧ whB t m n ≤ 400) ∧ (0 ≤ m * n ∧ m * n ≤ 400) ∧ (0 ≤ whB t m n * t ∧ whB t m n * t ≤ 800) ∧ (0 ≤ whB t m n * t * t ∧ whB t m n * t * t ≤ 1600) := by
  have k : ∀ {x y : Int}, 0 ≤ x ∧ x ≤ 20 → 0 ≤ y ∧ y ≤ 20 → 0 ≤ x * y ∧ x * y ≤ 400 := fun {x y} h1 h2 => ⟨Int.mul_nonneg h1.1 h2.1, Int.le_trans (Int.mul_le_mul_of_nonneg_right h1.2 h2.1) (by omega)⟩
  have b1 : 0 ≤ m / t ∧ m / t ≤ 20 := by rcases ht with e | e <;> subst e <;> omega
  have b2 : 0 ≤ n / t ∧ n / t ≤ 20 := by rcases ht with e | e <;> subst e <;> omega
  have b3 : 0 ≤ whB t m n ∧ whB t m n ≤ 400 := k b1 b2
  refine ⟨b1, b2, b3, k hm hn, ?_, ?_⟩ <;> rcases ht with e | e <;> subst e <;> omega
theorem tGo_cnt {t : Int} (a b : Int → Int) {m n : Int} (ht : t = 1 ∨ t = 2) (hm : 0 ≤ m ∧ m ≤ 20) (hn : 0 ≤ n ∧ n ≤ 20) (x : TS) :
    (tGo t a b m n x).2.1 + (tGo t a b m n x).2.2.1 = x.2.1 + x.2.2.1 + whB t m n ∧ (tGo t a b m n x).2.2.2 = x.2.2.2 + m * n - whB t m n * t * t ∧ x.2.2.1 ≤ (tGo t a b m n x).2.2.1 ∧ (tGo t a b m n x).2.2.1 ≤ x.2.2.1 + 400 := by
  have hb := whB_bd ht hm hn
  unfold tGo
  rcases ht with e | e
  · subst e
    have h := tAll_c1 a b (m := m) hn 21 1 x (by omega) (by omega) (by omega)
    rw [show m + 1 - 1 = m by omega] at h
    have e : whB 1 m n = m * n := by unfold whB; rw [Int.ediv_one, Int.ediv_one]
    omega
  · subst e
    have h := tAll_c2 a b (m := m) hn 21 1 x (by omega) (by omega) (by omega)
    rw [show max 0 (m + 1 - 1) = m by omega] at h
    have e : whB 2 m n = m / 2 * (n / 2) := rfl
    omega
