/-! p36: saved states, told from the newest one on -/
def tp (od sz : Int) (ph : Nat → SG) (y : Int) : SG := ph ((od + (sz - 1 - y)) % 6).toNat
def svC (od sz : Int) (f : Int → Option Nat) (ph : Nat → SG) (kp : Nat) : Prop := (0 ≤ sz ∧ sz ≤ 6) ∧ (0 ≤ od ∧ od < 6) ∧ (kp ≤ 6 ∧ sz ≤ kp) ∧ (od = 0 ∨ kp = 6) ∧ ∀ z : Int, 0 ≤ z → z < 6 → f z = if z < kp then some (ph z.toNat).1.1 else none
/-- a state with an alphabet of 3 or 4 letters and texts of the first three letters -/
def okS (x : SG) : Prop := (3 ≤ x.2.1.1 ∧ x.2.1.1 ≤ 4) ∧ (0 ≤ x.2.1.2.1 ∧ x.2.1.2.1 ≤ 20) ∧ (0 ≤ x.2.1.2.2 ∧ x.2.1.2.2 ≤ 20) ∧ (∀ j : Int, 0 ≤ j → j < x.2.1.2.1 → 0 ≤ x.2.2.1 j ∧ x.2.2.1 j < 3) ∧ (∀ j : Int, 0 ≤ j → j < x.2.1.2.2 → 0 ≤ x.2.2.2 j ∧ x.2.2.2 j < 3)
def SV (od sz : Int) (f : Int → Option Nat) (ph : Nat → SG) (kp : Nat) : Prop := svC od sz f ph kp ∧ ∀ y : Int, 0 ≤ y → y < sz → okS (tp od sz ph y)
/-- what a saving leaves: the state al, n0, n1, g0, g1 is the newest one, the others stand behind it -/
def svN (od sz : Int) (ph : Nat → SG) (od3 sz3 : Int) (f3 : Int → Option Nat) (ph3 : Nat → SG) (k3 : Nat) (al n0 n1 : Int) (g0 g1 : Int → Int) : Prop :=
  svC od3 sz3 f3 ph3 k3 ∧ ((sz < 6 → sz3 = sz + 1) ∧ (sz = 6 → sz3 = 6)) ∧ (∀ y : Int, 0 ≤ y → y + 1 < sz3 → y < sz ∧ tp od3 sz3 ph3 (y + 1) = tp od sz ph y) ∧ (tp od3 sz3 ph3 0).2.1 = (al, n0, n1) ∧ (∀ j : Int, 0 ≤ j → j < n0 → (tp od3 sz3 ph3 0).2.2.1 j = g0 j) ∧ (∀ j : Int, 0 ≤ j → j < n1 → (tp od3 sz3 ph3 0).2.2.2 j = g1 j)
theorem tp_0 (od sz : Int) (ph : Nat → SG) : tp od sz ph 0 = ph ((od + (sz - 1)) % 6).toNat := by unfold tp; rw [Int.sub_zero]
theorem sv_save {od sz od3 sz3 al n0 n1 : Int} {f f3 : Int → Option Nat} {ph ph3 : Nat → SG} {kp k3 : Nat} {g0 g1 : Int → Int} (h : svC od sz f ph kp)
    (ha : (sz < 6 → od3 = od ∧ sz3 = sz + 1) ∧ (sz = 6 → od3 = (od + 1) % 6 ∧ sz3 = 6)) (hb : (k3 = kp ∨ k3 = kp + 1) ∧ (k3 : Int) ≤ 6 ∧ sz3 ≤ k3 ∧ (od3 = 0 ∨ k3 = 6))
    (hf : ∀ z : Int, 0 ≤ z → z < 6 → f3 z = if z < k3 then some (ph3 z.toNat).1.1 else none) (hp : ∀ i : Nat, (i : Int) ≠ (od3 + (sz3 - 1)) % 6 → i < kp → ph3 i = ph i)
    (hq : (ph3 ((od3 + (sz3 - 1)) % 6).toNat).2.1 = (al, n0, n1)) (hr : ∀ j : Int, 0 ≤ j → j < n0 → (ph3 ((od3 + (sz3 - 1)) % 6).toNat).2.2.1 j = g0 j) (hs : ∀ j : Int, 0 ≤ j → j < n1 → (ph3 ((od3 + (sz3 - 1)) % 6).toNat).2.2.2 j = g1 j) :
    svN od sz ph od3 sz3 f3 ph3 k3 al n0 n1 g0 g1 := by
  obtain ⟨h1, h2, h3, h4, h5⟩ := h
  have e0 := tp_0 od3 sz3 ph3
  refine ⟨⟨by omega, by omega, by omega, by omega, hf⟩, by omega, fun y q1 q2 => ⟨by omega, ?_⟩, by rw [e0]; exact hq, by rw [e0]; exact hr, by rw [e0]; exact hs⟩
  unfold tp
  have ei : (od3 + (sz3 - 1 - (y + 1))) % 6 = (od + (sz - 1 - y)) % 6 := by omega
  rw [ei]
  exact hp _ (by omega) (by omega)
theorem SV_save {od sz od3 sz3 al n0 n1 : Int} {f f3 : Int → Option Nat} {ph ph3 : Nat → SG} {kp k3 : Nat} {g0 g1 : Int → Int} (h : SV od sz f ph kp) (hN : svN od sz ph od3 sz3 f3 ph3 k3 al n0 n1 g0 g1)
    (hal : 3 ≤ al ∧ al ≤ 4) (hn0 : 0 ≤ n0 ∧ n0 ≤ 20) (hn1 : 0 ≤ n1 ∧ n1 ≤ 20) (hg0 : ∀ j : Int, 0 ≤ j → j < n0 → 0 ≤ g0 j ∧ g0 j < 3) (hg1 : ∀ j : Int, 0 ≤ j → j < n1 → 0 ≤ g1 j ∧ g1 j < 3) : SV od3 sz3 f3 ph3 k3 := by
  obtain ⟨c1, c2, c3, c4, c5, c6⟩ := hN
  refine ⟨c1, fun y q1 q2 => ?_⟩
  by_cases e : y = 0
  · subst e
    unfold okS
    rw [c4]
    exact ⟨hal, hn0, hn1, fun j p1 p2 => by rw [c5 j p1 p2]; exact hg0 j p1 p2, fun j p1 p2 => by rw [c6 j p1 p2]; exact hg1 j p1 p2⟩
  · have k := c3 (y - 1) (by omega) (by omega)
    rw [show y - 1 + 1 = y by omega] at k
    rw [k.2]
    exact h.2 (y - 1) (by omega) k.1
theorem sv_undo {od sz : Int} {f : Int → Option Nat} {ph : Nat → SG} {kp : Nat} (h : svC od sz f ph kp) (hs : 0 < sz) : svC od (sz - 1) f ph kp := by
  obtain ⟨h1, h2, h3, h4, h5⟩ := h
  exact ⟨by omega, h2, by omega, h4, h5⟩
theorem tp_undo (od sz : Int) (ph : Nat → SG) (y : Int) : tp od (sz - 1) ph y = tp od sz ph (y + 1) := by
  unfold tp
  rw [show sz - 1 - 1 - y = sz - 1 - (y + 1) by omega]
theorem SV_undo {od sz : Int} {f : Int → Option Nat} {ph : Nat → SG} {kp : Nat} (h : SV od sz f ph kp) (hs : 0 < sz) : SV od (sz - 1) f ph kp := ⟨sv_undo h.1 hs, fun y q1 q2 => by rw [tp_undo]; exact h.2 (y + 1) (by omega) (by omega)⟩
theorem SV_top {od sz : Int} {f : Int → Option Nat} {ph : Nat → SG} {kp : Nat} (h : SV od sz f ph kp) (hs : 0 < sz) : okS (ph ((od + (sz - 1)) % 6).toNat) := by rw [← tp_0 od sz ph]; exact h.2 0 (by omega) hs
theorem okS_sz {x : SG} (h : okS x) : (0 ≤ x.2.1.2.1 ∧ x.2.1.2.1 ≤ 20) ∧ (0 ≤ x.2.1.2.2 ∧ x.2.1.2.2 ≤ 20) := ⟨h.2.1, h.2.2.1⟩
/-- two savings and two undos: the first state is back, the others stand as they stood -/
theorem SV_two {od sz od3 sz3 od4 sz4 al n0 n1 al2 m0 m1 : Int} {f f3 f4 : Int → Option Nat} {ph ph3 ph4 : Nat → SG} {kp k3 k4 : Nat} {g0 g1 b0 b1 : Int → Int} (h : SV od sz f ph kp) (hA : svN od sz ph od3 sz3 f3 ph3 k3 al n0 n1 g0 g1) (hB : svN od3 sz3 ph3 od4 sz4 f4 ph4 k4 al2 m0 m1 b0 b1) :
    2 ≤ sz4 ∧ SV od4 (sz4 - 1 - 1) f4 ph4 k4 ∧ (ph4 ((od4 + (sz4 - 1)) % 6).toNat).2.1 = (al2, m0, m1) ∧ (ph4 ((od4 + (sz4 - 1 - 1)) % 6).toNat).2.1 = (al, n0, n1) ∧ (∀ j : Int, 0 ≤ j → j < n0 → (ph4 ((od4 + (sz4 - 1 - 1)) % 6).toNat).2.2.1 j = g0 j) ∧ (∀ j : Int, 0 ≤ j → j < n1 → (ph4 ((od4 + (sz4 - 1 - 1)) % 6).toNat).2.2.2 j = g1 j) := by
  obtain ⟨c1, c2, c3, c4, c5, c6⟩ := hA
  obtain ⟨d1, d2, d3, d4, d5, d6⟩ := hB
  have hs := h.1.1
  have hz : 2 ≤ sz4 := by omega
  have e1 : ph4 ((od4 + (sz4 - 1 - 1)) % 6).toNat = tp od3 sz3 ph3 0 := by
    have k := (d3 0 (by omega) (by omega)).2
    rw [← k]
    unfold tp
    rw [show sz4 - 1 - (0 + 1) = sz4 - 1 - 1 by omega]
  refine ⟨hz, ⟨sv_undo (sv_undo d1 (by omega)) (by omega), fun y q1 q2 => ?_⟩, by rw [← tp_0 od4 sz4 ph4]; exact d4, by rw [e1]; exact c4, by rw [e1]; exact c5, by rw [e1]; exact c6⟩
  have k1 := d3 (y + 1) (by omega) (by omega)
  have k2 := c3 y (by omega) k1.1
  rw [tp_undo, tp_undo, k1.2, k2.2]
  exact h.2 y q1 k2.1
