/-! arrays that are made; fields of truth; values that are told anew -/
section MK
variable {p : Program} {l : Launch} {e : Env} {R : Room} {s : State} {m : MethodId} {args : Array Value} {below : List Frame} {meth : Method} {c : Code} {H : Heap} {locs : List Loc} {cells slots : Nat} {Q : State → Prop} {cc : ByteArray} {pc : Nat} {ls : Array Slot} {rest : List Value}
variable {G : GG} {ws : va_W} {A : Nat → Prop} {H0 : Heap}
theorem jv_to {z z' : Int} (h : z = z') (k : W p l e R s m args below meth c H locs cells slots Q (F0 m pc ls (.int (jz z') :: rest))) : W p l e R s m args below meth c H locs cells slots Q (F0 m pc ls (.int (jz z) :: rest)) := h ▸ k
theorem jz_bit {v : Int} (h : v = 0 ∨ v = 1) : jz v &&& 1 = jz v := by rcases h with h | h <;> rw [h] <;> decide
theorem jz_nb {v : Int} (h : v = 0 ∨ v = 1) : narrow .boolean (.int (jz v)) = .int (jz v) := by rcases h with h | h <;> rw [h] <;> decide
theorem jz_fb {v : Int} (h : v = 0 ∨ v = 1) : fits .boolean (.int (jz v)) = true := by rcases h with h | h <;> rw [h] <;> decide
theorem K0_cls {U : State} {cA cB : ClassId} {ty : FieldType} (h1 : va_RA U cA ty) (h2 : va_RA U cB ty) : cA = cB := by
  cases ty with
  | object C =>
    obtain ⟨-, -, -, -, -, e1⟩ := h1
    obtain ⟨-, -, -, -, -, e2⟩ := h2
    exact Option.some.inj (e1.symm.trans e2)
  | _ => exact Option.some.inj (Eq.trans (Eq.symm h1) h2)
theorem jz_0 : jz 0 = 0 := by decide
theorem jv_newi (hx : p.tables.exec = Jvm.exec) (hb : c.code = cc) (hts : ∀ w ∈ WA, w.before args s = true) (hK : K0 G s) (hP : va_P G.1 vwCl ws H) (hD : va_D A ws) (hS : va_S A H0 H locs) (hA : ∀ q : Nat, H0.size ≤ q → A q) {z : Int} (N : Nat) (hz : z = N) (hN : N < 1000000) (hcells : cells + 1 ≤ R.cells) (hslots : slots + N ≤ R.slots) (hm : Cond.arrayClass .int ∈ WA) (hdg : decode cc pc = .ok (.newarray .int, 2))
    (kk : ∀ (q : Nat) (H1 : Heap), va_P G.1 vwCl (ws ++ [(q, ja G N (fun _ => 0))]) H1 → va_D A (ws ++ [(q, ja G N (fun _ => 0))]) → va_S A H0 H1 locs → W p l e R s m args below meth c H1 locs (cells + 1) (slots + N) Q (F0 m (pc + 2) ls (.ref q :: rest))) : W p l e R s m args below meth c H locs cells slots Q (F0 m pc ls (.int (jz z) :: rest)) := by
  subst hz
  refine va_newa (atype := .int) (ty := .int) (a0 := (N, .inl (fun _ => jz 0))) (N' := N) hx hb (hts _ hm) rfl hK hP hD hS hA (fun cA => by rw [vp_cell_i, jz_0]; rfl) ?_ (by rw [jz_clamp (by omega)]; omega) (by show N * 4 ≤ _; omega) hcells hslots hdg ?_
  · intro h
    have h8 : jz (N : Int) < jz 0 := h
    rw [jz_lt (by omega) (by omega)] at h8
    omega
  · intro q cA H1 hK1 hP1 hD1 hS1
    have e : cA = G.2.1 := K0_cls (hK1.2 4 _ rfl).2 (hK1.2 0 _ rfl).2
    subst e
    exact kk q H1 hP1 hD1 hS1
theorem jv_newl (hx : p.tables.exec = Jvm.exec) (hb : c.code = cc) (hts : ∀ w ∈ WA, w.before args s = true) (hK : K0 G s) (hP : va_P G.1 vwCl ws H) (hD : va_D A ws) (hS : va_S A H0 H locs) (hA : ∀ q : Nat, H0.size ≤ q → A q) {z : Int} (N : Nat) (hz : z = N) (hN : N < 1000000) (hcells : cells + 1 ≤ R.cells) (hslots : slots + N ≤ R.slots) (hm : Cond.arrayClass .long ∈ WA) (hdg : decode cc pc = .ok (.newarray .long, 2))
    (kk : ∀ (q : Nat) (H1 : Heap), va_P G.1 vwCl (ws ++ [(q, jl G N (fun _ => 0))]) H1 → va_D A (ws ++ [(q, jl G N (fun _ => 0))]) → va_S A H0 H1 locs → W p l e R s m args below meth c H1 locs (cells + 1) (slots + N) Q (F0 m (pc + 2) ls (.ref q :: rest))) : W p l e R s m args below meth c H locs cells slots Q (F0 m pc ls (.int (jz z) :: rest)) := by
  subst hz
  refine va_newa (atype := .long) (ty := .long) (a0 := (N, .inr (.inl (fun _ => 0)))) (N' := N) hx hb (hts _ hm) rfl hK hP hD hS hA (fun cA => by rw [vp_cell_l]; rfl) ?_ (by rw [jz_clamp (by omega)]; omega) (by show N * 8 ≤ _; omega) hcells hslots hdg ?_
  · intro h
    have h8 : jz (N : Int) < jz 0 := h
    rw [jz_lt (by omega) (by omega)] at h8
    omega
  · intro q cA H1 hK1 hP1 hD1 hS1
    have e : cA = G.2.2.1 := K0_cls (hK1.2 4 _ rfl).2 (hK1.2 1 _ rfl).2
    subst e
    exact kk q H1 hP1 hD1 hS1
end MK
/-! pictures of the state -/
def insF (g : Int → Int) (i n v : Int) : Int → Int := fun j => if j = i then v else if i < j ∧ j ≤ n then g (j - 1) else g j
def delF (g : Int → Int) (i n : Int) : Int → Int := fun j => if i ≤ j ∧ j < n - 1 then g (j + 1) else g j
