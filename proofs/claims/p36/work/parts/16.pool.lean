/-! saved states, in any number -/
abbrev bState (G : GG) (st : Nat) (t0 : Nat) (t1 : Nat) (al : Int) : va_W := [(st, .inr (5, [.ref t0, .ref t1, .int (jz al)]))]
abbrev SG : Type := (Nat × Nat × Nat × Nat × Nat) × (Int × Int × Int) × (Int → Int) × (Int → Int)
abbrev sW (G : GG) (x : SG) : List va_W := [bState G x.1.1 x.1.2.1 x.1.2.2.2.1 x.2.1.1, bText G x.1.2.1 x.1.2.2.1 x.2.1.2.1 x.2.2.1, bText G x.1.2.2.2.1 x.1.2.2.2.2 x.2.1.2.2 x.2.2.2]
def bPool (G : GG) (φ : Nat → SG) (k : Nat) : va_W := (List.range k).flatMap (fun i => (sW G (φ i)).flatten)
def bPoolX (G : GG) (φ : Nat → SG) (k : Nat) (z : Nat) : va_W := ((List.range k).erase z).flatMap (fun i => (sW G (φ i)).flatten)
theorem fm_cg {α β : Type} {L : List α} {f g : α → List β} (h : ∀ x ∈ L, f x = g x) : L.flatMap f = L.flatMap g := by
  induction L with
  | nil => rfl
  | cons a t ih => rw [List.flatMap_cons, List.flatMap_cons, h a List.mem_cons_self, ih (fun x hx => h x (List.mem_cons_of_mem _ hx))]
theorem pool_get (G : GG) (φ : Nat → SG) {k z : Nat} (h : z < k) : (bPool G φ k).Perm ((sW G (φ z)).flatten ++ bPoolX G φ k z) := by
  have h1 : (List.range k).Perm (z :: (List.range k).erase z) := List.perm_cons_erase (List.mem_range.mpr h)
  have h2 := h1.flatMap_right (fun i => (sW G (φ i)).flatten)
  rw [List.flatMap_cons] at h2
  exact h2
theorem poolX_cg (G : GG) {φ φ' : Nat → SG} {k z : Nat} (h : ∀ i, i ≠ z → φ' i = φ i) : bPoolX G φ' k z = bPoolX G φ k z := by
  unfold bPoolX
  refine fm_cg (fun i hi => ?_)
  have hne : i ≠ z := fun e => by
    subst e
    exact (List.Nodup.not_mem_erase List.nodup_range) hi
  rw [h i hne]
theorem pool_put (G : GG) {φ φ' : Nat → SG} {k z : Nat} (h : z < k) (h2 : ∀ i, i ≠ z → φ' i = φ i) : ((sW G (φ' z)).flatten ++ bPoolX G φ k z).Perm (bPool G φ' k) := by
  have h3 := (pool_get G φ' h).symm
  rw [poolX_cg G h2] at h3
  exact h3
theorem pool_add (G : GG) {φ φ' : Nat → SG} {k : Nat} (h2 : ∀ i, i < k → φ' i = φ i) : ((sW G (φ' k)).flatten ++ bPool G φ k).Perm (bPool G φ' (k + 1)) := by
  have e : bPool G φ' (k + 1) = bPool G φ k ++ (sW G (φ' k)).flatten := by
    unfold bPool
    rw [List.range_succ, List.flatMap_append, List.flatMap_cons, List.flatMap_nil, List.append_nil]
    congr 1
    refine fm_cg (fun i hi => ?_)
    rw [h2 i (List.mem_range.mp hi)]
  rw [e]
  exact List.perm_append_comm
theorem wP_perm {G : GG} {L x y : List va_W} {H : Heap} (h : x.flatten.Perm y.flatten) (hP : wP G (L ++ x) H) : wP G (L ++ y) H := by
  have hP := wP_mem.mp hP
  refine wP_mem.mpr (fun q hq => hP q ?_)
  rw [List.flatten_append, List.mem_append] at hq ⊢
  exact hq.imp id (fun h9 => h.symm.subset h9)
theorem wD_perm {A : Nat → Prop} {L x y : List va_W} (h : x.flatten.Perm y.flatten) (hD : wD A (L ++ x)) : wD A (L ++ y) := by
  have hD := wD_pw.mp hD
  refine wD_pw.mpr ?_
  rw [List.flatten_append] at hD ⊢
  have hp : (L.flatten ++ x.flatten).Perm (L.flatten ++ y.flatten) := h.append_left _
  refine ⟨hp.pairwise hD.1 (fun q e => q e.symm), fun q hq => hD.2 q (hp.symm.subset hq)⟩
theorem wP_app {G : GG} {bs : List va_W} {x : Nat × va_E} {H : Heap} (h : va_P G.1 vwCl (bs.flatten ++ [x]) H) : wP G (bs ++ [[x]]) H := by
  show va_P G.1 vwCl (bs ++ [[x]]).flatten H
  rw [List.flatten_append]
  exact h
theorem wD_app {A : Nat → Prop} {bs : List va_W} {x : Nat × va_E} (h : va_D A (bs.flatten ++ [x])) : wD A (bs ++ [[x]]) := by
  show va_D A (bs ++ [[x]]).flatten
  rw [List.flatten_append]
  exact h
section MQ
variable {p : Program} {l : Launch} {e : Env} {R : Room} {s : State} {m : MethodId} {args : Array Value} {below : List Frame} {meth : Method} {c : Code} {H : Heap} {locs : List Loc} {cells slots : Nat} {Q : State → Prop} {cc : ByteArray} {pc : Nat} {ls : Array Slot} {rest : List Value}
variable {G : GG} {ws : va_W} {A : Nat → Prop} {H0 : Heap}
theorem jv_rf {o : Option Nat} {a : Nat} (h : o = some a) (k : W p l e R s m args below meth c H locs cells slots Q (F0 m pc ls (.ref a :: rest))) : W p l e R s m args below meth c H locs cells slots Q (F0 m pc ls (va_rf o :: rest)) := by subst h; exact k
theorem jv_nul {o : Option Nat} (h : o = none) (k : W p l e R s m args below meth c H locs cells slots Q (F0 m pc ls (.null :: rest))) : W p l e R s m args below meth c H locs cells slots Q (F0 m pc ls (va_rf o :: rest)) := by subst h; exact k
theorem jv_qast (hx : p.tables.exec = Jvm.exec) (hb : c.code = cc) (hK : K0 G s) (hP : va_P G.1 vwCl ws H) (hD : va_D A ws) (hS : va_S A H0 H locs) (q0 qk : Nat) {a v n : Nat} {g : Int → Option Nat} {vs : List Value} (ha : ws[q0]? = some (a, jq G n g)) (hv : ws[qk]? = some (v, .inr (5, vs))) {z : Int} (h0 : 0 ≤ z) (h1 : z < n) (hn : n < 2147483648) (hdg : decode cc pc = .ok (.aastore, 1))
    (kk : ∀ (H1 : Heap) (locs1 : List Loc), va_P G.1 vwCl (ws.set q0 (a, jq G n (up g z (some v)))) H1 → va_D A (ws.set q0 (a, jq G n (up g z (some v)))) → va_S A H0 H1 locs1 → W p l e R s m args below meth c H1 locs1 cells slots Q (F0 m (pc + 1) ls rest)) : W p l e R s m args below meth c H locs cells slots Q (F0 m pc ls (.ref v :: .int (jz z) :: .ref a :: rest)) :=
  va_astq (r := (RX5, TX5, 3)) hx hb hK hP hD hS q0 3 qk 5 ha rfl hv rfl (jz_in h0 h1 hn) hdg (by rw [jz_clamp (by omega), up_updQ g h0]; exact kk)
theorem jv_newq (hx : p.tables.exec = Jvm.exec) (hb : c.code = cc) {own : String} {index : Nat} (hown : s.vm.findClass own = some m.cls) (hlink : (Cond.classLink own index RX5).before args s = true) (hover : va_AO RX5 s) (hK : K0 G s) (hP : va_P G.1 vwCl ws H) (hD : va_D A ws) (hS : va_S A H0 H locs) (hA : ∀ q : Nat, H0.size ≤ q → A q) {z : Int} (N : Nat) (hz : z = N) (hN : N < 1000000) (hcells : cells + 1 ≤ R.cells) (hslots : slots + N ≤ R.slots) (hdg : decode cc pc = .ok (.anewarray index, 3))
    (kk : ∀ (q : Nat) (H1 : Heap), va_P G.1 vwCl (ws ++ [(q, jq G N (fun _ => none))]) H1 → va_D A (ws ++ [(q, jq G N (fun _ => none))]) → va_S A H0 H1 locs → W p l e R s m args below meth c H1 locs (cells + 1) (slots + N) Q (F0 m (pc + 3) ls (.ref q :: rest))) : W p l e R s m args below meth c H locs cells slots Q (F0 m pc ls (.int (jz z) :: rest)) := by
  subst hz
  refine va_newq (N' := N) hx hb hown hlink hover hK hP hD hS hA ?_ (by rw [jz_clamp (by omega)]; omega) (by omega) hcells hslots hdg ?_
  · intro h
    have h8 : jz (N : Int) < jz 0 := h
    rw [jz_lt (by omega) (by omega)] at h8
    omega
  · intro q cA H1 hK1 hP1 hD1 hS1
    have e : cA = G.2.2.2.2 := K0_cls (hK1.2 4 _ rfl).2 (hK1.2 3 _ rfl).2
    subst e
    exact kk q H1 hP1 hD1 hS1
end MQ
def phS (φ : Nat → SG) (z : Nat) (x : SG) : Nat → SG := fun i => if i = z then x else φ i
theorem phS_at {φ : Nat → SG} {z i : Nat} {x : SG} (h : i = z) : phS φ z x i = x := if_pos h
theorem phS_ne {φ : Nat → SG} {z i : Nat} {x : SG} (h : i ≠ z) : phS φ z x i = φ i := if_neg h
theorem pool_get2 (G : GG) (φ : Nat → SG) {k z : Nat} (h : z < k) : ([bPool G φ k] : List va_W).flatten.Perm (sW G (φ z) ++ [bPoolX G φ k z]).flatten := by
  rw [List.flatten_append, List.flatten_singleton, List.flatten_singleton]
  exact pool_get G φ h
theorem pool_put2 (G : GG) (φ : Nat → SG) {k z : Nat} (x : SG) (h : z < k) : (sW G x ++ [bPoolX G φ k z]).flatten.Perm ([bPool G (phS φ z x) k] : List va_W).flatten := by
  rw [List.flatten_append, List.flatten_singleton, List.flatten_singleton]
  have h1 := pool_put G (φ := φ) (φ' := phS φ z x) h (fun i hi => phS_ne hi)
  rw [phS_at rfl] at h1
  exact h1
theorem pool_add2 (G : GG) (φ : Nat → SG) {k z : Nat} (x : SG) (h : z = k) : (sW G x ++ [bPool G φ k]).flatten.Perm ([bPool G (phS φ z x) (k + 1)] : List va_W).flatten := by
  subst h
  rw [List.flatten_append, List.flatten_singleton, List.flatten_singleton]
  have h1 := pool_add G (φ := φ) (φ' := phS φ z x) (k := z) (fun i hi => phS_ne (by omega))
  rw [phS_at rfl] at h1
  exact h1
