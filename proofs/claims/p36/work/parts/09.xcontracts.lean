/-! contracts of methods that return or throw -/
def XK (A : Nat → Prop) (U : State) (H : Heap) : Prop := vx_Zq Bundle.tN "UNASSIGNED_STACK" Bundle.steD A U H ∧ vx_Zq Bundle.tN "SUPPRESSED_SENTINEL" Bundle.listD A U H
def xPre (G : GG) (av : List Value) (bs : List va_W) (sz : Nat) : Array Value → State → Prop := va_Pc av (fun U => U.heap.size = sz ∧ wP G bs U.heap ∧ KK G U ∧ wD (fun _ => True) bs ∧ XK (va_A bs.flatten sz) U U.heap)
def xC (G : GG) (A : Nat → Prop) (bs : List va_W) (pE : String → Prop) : String → State → State → Prop := fun E st t => pE E ∧ wP G bs t.heap ∧ wD A bs ∧ va_F A st t
/-- method y returns as Ct says, or throws an E of which pE holds, and the blocks are as they were -/
def Xt {S : Type} (l : Launch) (y : MethodName) (cc : ByteArray) (maxL : Nat) (ret : Option FieldType) (rm : Room) (G : GG) (av : List Value) (bs : List va_W) (rv : S → Option Value) (post : S → Prop) (bw : S → List va_W) (pE : String → Prop) : Prop :=
  ∀ sz : Nat, vx_Met l y (wz y cc maxL ret) rm (xPre G av bs sz) (cQ G (va_A bs.flatten sz) rv post bw) (xC G (va_A bs.flatten sz) bs pE) rm.cells rm.slots (va_A bs.flatten sz)
theorem XK.same {A : Nat → Prop} {u U : State} {H : Heap} (hv : U.vm = u.vm) (h : XK A u H) : XK A U H := ⟨vx_Zq.moved (by rw [hv]; exact Vm.Alike.refl _) h.1, vx_Zq.moved (by rw [hv]; exact Vm.Alike.refl _) h.2⟩
theorem xPre_blind {G : GG} {av : List Value} {bs : List va_W} {sz : Nat} : FrameBlind (xPre G av bs sz) := fun a U g mk h => ⟨h.1, h.2.1, h.2.2.1, KK.same (s := U) (U := U.calling g mk a) rfl h.2.2.2.1, h.2.2.2.2.1, XK.same (u := U) (U := U.calling g mk a) rfl h.2.2.2.2.2⟩
theorem xof {S : Type} {l : Launch} {y : MethodName} {cc : ByteArray} {maxL : Nat} {ret : Option FieldType} {rm : Room} {G : GG} {av : List Value} {bs : List va_W} {rv : S → Option Value} {post : S → Prop} {bw : S → List va_W} {pE : String → Prop} (hy : plainName y.cls = true) (hn : (lg_sl av).length ≤ maxL)
    (body : ∀ (p : Program) (e : Env) (s : State) (m : MethodId) (args : Array Value) (below : List Frame) (meth : Method) (c : Code) (A : Nat → Prop) (ls : Array Slot), p.tables.exec = Jvm.exec → c.code = cc → meth.sig.returnType = ret → c.maxLocals = maxL → s.vm.findClass y.cls = some m.cls → (∀ w ∈ WA, w.before args s = true) → meth.locks = false → meth.name = y.name → (∀ q : Nat, s.heap.size ≤ q → A q) → KK G s → wP G bs s.heap → wD A bs → va_S A s.heap s.heap [] → lv_has ls maxL (lv_args 0 av) → XK A s s.heap → (∀ x ∈ c.exceptionTable.toList, False) →
      ∀ Q : State → Prop, Q = vx_MQ below (cQ G A rv post bw) (xC G A bs pE) args s rm.cells rm.slots A → W p l e rm s m args below meth c s.heap [] 0 0 Q (F0 m 0 ls [])) : Xt l y cc maxL ret rm G av bs rv post bw pE := by
  intro sz
  refine vx_ofW (cc := cc) (maxL := maxL) (ret := ret) hy rfl ?_
  intro p e s m args below meth c s₁ B hml hout hv
  obtain ⟨rfl, rfl, hP, hK, hD0, hX⟩ := hv
  have hts := atoms_spec (ws := wz y cc maxL ret) B.pre
  have hl := lv_entry av (n := maxL) hn
  rw [lg_entry_eq]
  exact body p e s m _ below meth c _ _ B.exec B.bytes B.returns hml (findClass_of_methodNamed B.named) (fun w h => hts w (List.mem_cons_of_mem _ h)) B.notSynchronized (name_of_methodNamed B.named B.method).1 (fun q h => Or.inr h) hK hP (va_D.self hD0) va_S.rf hl hX hout _ rfl
theorem va_S_A {A : Nat → Prop} {H0 H : Heap} {locs : List Loc} (h : va_S A H0 H locs) : ∀ a : Nat, a < H0.size → ¬ A a → H[a]? = H0[a]? := h.2.1
section XR
variable {p : Program} {l : Launch} {e : Env} {R : Room} {s : State} {m : MethodId} {args : Array Value} {below : List Frame} {meth : Method} {c : Code} {H : Heap} {locs : List Loc} {cells slots : Nat} {Q : State → Prop} {cc : ByteArray} {pc : Nat} {ls : Array Slot} {rest st0 : List Value}
variable {G : GG} {A : Nat → Prop} {bs bc br : List va_W} {mc ms : Nat}
theorem xgo {S : Type} {a : Array Value} {rv : S → Option Value} {post : S → Prop} {bw : S → List va_W} {pE : String → Prop} (hS : va_S A s.heap H locs) (hP : wP G bs H) (hD : wD A bs) (hA : ∀ q : Nat, s.heap.size ≤ q → A q) (isC isR : List Nat) (hC : isC.map (fun i => bs[i]?) = bc.map some) (hR : isR.map (fun i => bs[i]?) = br.map some) (hn : va_nd (isC ++ isR) = true)
    (hr : vx_Run p l e R s m args below meth c H locs cells slots mc ms (F0 m pc ls st0) rest (cQ G (va_A bc.flatten H.size) rv post bw a) (xC G (va_A bc.flatten H.size) bc pE) (va_A bc.flatten H.size))
    (kx : ∀ (E : String) (ce : Cell) (q9 : Addr) (H1 : Heap) (locs1 : List Loc), pE E → wP G (br ++ bc) H1 → wD A (br ++ bc) → va_S A s.heap H1 locs1 → H1[q9]? = some ce → ce.vm = .none → s.vm.findClass E = some ce.cls → vx_W p l e R s m args below meth c H1 locs1 (cells + mc) (slots + ms) Q (F0 m pc ls rest) q9)
    (kk : ∀ (u : S) (H1 : Heap) (locs1 : List Loc), post u → wP G (br ++ bw u) H1 → wD A (br ++ bw u) → va_S A s.heap H1 locs1 → W p l e R s m args below meth c H1 locs1 (cells + mc) (slots + ms) Q (F0 m (pc + 3) ls ((rv u).toList ++ rest))) : W p l e R s m args below meth c H locs cells slots Q (F0 m pc ls st0) := by
  intro T hT X
  have hF := wfree hD hS hA isC hC
  rcases hr T hT X with ⟨v, st₀, t, T', L, h0, X', hL, e1, e2, ⟨⟨u, hv, hp, hb1, hb2⟩, hFr⟩, st⟩ | ⟨q, st₀, t, T', L, E, ce, h0, X', hL, e1, e2, ⟨hE, hb1, hb2, hFr⟩, hce, hcv, hcl, st⟩
  · cases hv
    obtain ⟨k1, k2, k3⟩ := vx_keep h0 e1 hS (fun q _ h => hF q h) hF hL hFr
    have hb1 : wP G (bw u) T'.heap := by rw [e1]; exact hb1
    obtain ⟨j1, j2⟩ := wjoin hP hD isC isR hC hR hn k2 hF hb1 hb2
    obtain ⟨t2, a1, b1⟩ := kk u T'.heap (locs ++ L) hp j1 j2 k3 T' rfl X'
    exact ⟨t2, st t2 a1, b1⟩
  · obtain ⟨k1, k2, k3⟩ := vx_keep h0 e1 hS (fun q _ h => hF q h) hF hL hFr
    have hb1 : wP G bc T'.heap := by rw [e1]; exact hb1
    obtain ⟨j1, j2⟩ := wjoin hP hD isC isR hC hR hn k2 hF hb1 hb2
    obtain ⟨t2, a1, b1⟩ := kx E ce q T'.heap (locs ++ L) hE j1 j2 k3 (by rw [e1]; exact hce) hcv hcl T' rfl X'
    exact ⟨t2, st.trans a1, b1⟩
/-- what a callee threw goes on to the caller -/
theorem xout {S : Type} {rv : S → Option Value} {post : S → Prop} {bw : S → List va_W} {pE : String → Prop} {bs0 : List va_W} {E : String} {ce : Cell} {q9 : Addr} (hout : ∀ x ∈ c.exceptionTable.toList, False) (hlocks : meth.locks = false) (hce : H[q9]? = some ce) (hcv : ce.vm = .none) (hcl : s.vm.findClass E = some ce.cls) (hS : va_S A s.heap H locs) (hP : wP G bs H) (hD : wD A bs) (is : List Nat) (hn : va_nd is = true) (hs : is.map (fun i => bs[i]?) = bs0.map some) (hE : pE E) (hc : cells ≤ mc) (hsl : slots ≤ ms)
    (hQ : Q = vx_MQ below (cQ G A rv post bw) (xC G A bs0 pE) args s mc ms A) : vx_W p l e R s m args below meth c H locs cells slots Q (F0 m pc ls rest) q9 :=
  hQ ▸ vx_out (fun x hx => (hout x hx).elim) hlocks hce hcv hcl (fun t ht _ => ⟨hE, by rw [ht]; exact wP_sub hP is hs, wD_sub hD is hn hs, hS.F ht⟩) hS.2.2 hc hsl
/-- what 'throw new' leaves -/
theorem xthrow {pE : String → Prop} {bs0 : List va_W} {E : String} (hS : va_S A s.heap H locs) (hP : wP G bs H) (hD : wD A bs) (is : List Nat) (hn : va_nd is = true) (hs : is.map (fun i => bs[i]?) = bs0.map some) (hE : pE E) : ∀ t : State, s.vm.Alike t.vm → H.size ≤ t.heap.size → (∀ q : Nat, q < H.size → t.heap[q]? = H[q]?) → xC G A bs0 pE E s t := fun t _ hz hk => by
  refine ⟨hE, ?_, wD_sub hD is hn hs, Nat.le_trans hS.1 hz, fun q h1 h2 => ?_⟩
  · refine wP_mem.mpr (fun q hq => ?_)
    have h9 := wP_mem.mp (wP_sub hP is hs) q hq
    exact h9.kept (hk q.1 h9.lt)
  · rw [hk q (Nat.lt_of_lt_of_le h1 hS.1)]
    exact hS.2.1 q h1 h2
theorem xat (hK : KK G s) (hts : ∀ w ∈ WA, w.before args s = true) {L : List Cond} (h1 : ∀ w ∈ L, w ∈ WA ∨ w ∈ WB) : ∀ w ∈ L, w.before args s = true := fun w hw => (h1 w hw).elim (hts w) (fun h => by
  have h2 := (List.mem_filter.mp h).2
  simp only [w_face, Bool.and_eq_true] at h2
  exact va_Nw.use h2.1 (hK.2.1 w h))
theorem lk_preX {av : List Value} (hK : KK G s) (hX : XK A s s.heap) (hA : ∀ q : Nat, s.heap.size ≤ q → A q) (hS : va_S A s.heap H locs) (hP : wP G bs H) (hD : wD A bs) (isC : List Nat) (hC : isC.map (fun i => bs[i]?) = bc.map some) (hn : va_nd isC = true) : ∀ U : State, U.heap = H → s.WarmedH U.vm → xPre G av bc H.size av.toArray U := by
  intro U hU hW
  have hF := wfree hD hS hA isC hC
  refine ⟨rfl, by rw [hU], by rw [hU]; exact wP_sub hP isC hC, KK.warm hW hK, va_D.weaken (wD_sub hD isC hn hC) (fun _ _ _ _ => trivial), ?_⟩
  have k : ∀ {n d : String}, vx_Zq Bundle.tN n d A s s.heap → vx_Zq Bundle.tN n d (va_A bc.flatten H.size) U U.heap := fun h => by
    rw [hU]
    exact vx_Zq.narrow (vx_Zq.kept (vx_Zq.moved hW.alike h) (fun q h1 h2 => hS.2.1 q h1 h2)) (fun q h => hF q h)
  exact ⟨k hX.1, k hX.2⟩
variable {own : String} {index nL : Nat} {y : MethodName} {cy : ByteArray} {maxL : Nat} {ret : Option FieldType} {n : Nat} {rm : Room} {b : Nat}
variable {S : Type} {rv : S → Option Value} {post : S → Prop} {bw : S → List va_W} {pE : String → Prop}
/-- calls of methods that return or throw -/
theorem xkV (F : CallFix p m c cc nL s args WA own) (hK : KK G s) (hA : ∀ q : Nat, s.heap.size ≤ q → A q) (hS : va_S A s.heap H locs) (hP : wP G bs H) (hD : wD A bs) (As : List Value) (rest : List Value)
    (hM : Xt l y cy maxL ret rm G (.ref b :: As) bc rv post bw pE) (K : LkV own index y cy maxL ret n) (isC isR : List Nat) (hC : isC.map (fun i => bs[i]?) = bc.map some) (hR : isR.map (fun i => bs[i]?) = br.map some) (hn : va_nd (isC ++ isR) = true) (k0 ci : Nat) {fs : List Value} {T : u_T} {N : Nat} (he : bc.flatten[k0]? = some (b, .inr (ci, fs))) (hcl : vwCl[ci]? = some (y.cls, T, N))
    (hlen : As.length = n) (hst : st0 = As.reverse ++ .ref b :: rest) (hW : (rest.map fun v => v.category).sum ≤ 8) (hls : ls.size = nL) (hdg : decode cc pc = .ok (.invokevirtual index, 3)) (hroom : rm.frames + 1 ≤ R.frames ∧ 8 + (maxL + 11) + rm.locals ≤ R.locals) (hf : cells + rm.cells ≤ R.cells ∧ slots + rm.slots ≤ R.slots)
    (hX : XK A s s.heap)
    (kx : ∀ (E : String) (ce : Cell) (q9 : Addr) (H1 : Heap) (locs1 : List Loc), pE E → wP G (br ++ bc) H1 → wD A (br ++ bc) → va_S A s.heap H1 locs1 → H1[q9]? = some ce → ce.vm = .none → s.vm.findClass E = some ce.cls → vx_W p l e R s m args below meth c H1 locs1 (cells + rm.cells) (slots + rm.slots) Q (F0 m pc ls rest) q9)
    (kk : ∀ (u : S) (H1 : Heap) (locs1 : List Loc), post u → wP G (br ++ bw u) H1 → wD A (br ++ bw u) → va_S A s.heap H1 locs1 → W p l e R s m args below meth c H1 locs1 (cells + rm.cells) (slots + rm.slots) Q (F0 m (pc + 3) ls ((rv u).toList ++ rest))) : W p l e R s m args below meth c H locs cells slots Q (F0 m pc ls st0) :=
  xgo hS hP hD hA isC isR hC hR hn (vx_runV (C := y.cls) (As := As) (rest := rest) F (hM H.size) ⟨lk_B F.2.2.2.2 K.1 (F.2.2.2.2 _ K.2.1) hroom, F.2.2.2.2 _ K.2.2.1, F.2.2.2.2 _ K.2.2.2⟩ ⟨xPre_blind, lk_recv hK hP isC hC k0 ci he hcl, lk_preX hK hX hA hS hP hD isC hC (va_nd_l hn)⟩ rfl hlen hls hst (lv_room hW) hdg hf) kx kk
theorem xkS (F : CallFix p m c cc nL s args WA own) (hK : KK G s) (hA : ∀ q : Nat, s.heap.size ≤ q → A q) (hS : va_S A s.heap H locs) (hP : wP G bs H) (hD : wD A bs) (As : List Value) (rest : List Value)
    (hM : Xt l y cy maxL ret rm G As bc rv post bw pE) (K : LkS own index y cy maxL ret n) (isC isR : List Nat) (hC : isC.map (fun i => bs[i]?) = bc.map some) (hR : isR.map (fun i => bs[i]?) = br.map some) (hn : va_nd (isC ++ isR) = true)
    (hlen : As.length = n) (hst : st0 = As.reverse ++ rest) (hW : (rest.map fun v => v.category).sum ≤ 8) (hls : ls.size = nL) (hdg : decode cc pc = .ok (.invokestatic index, 3)) (hroom : rm.frames + 1 ≤ R.frames ∧ 8 + (maxL + 11) + rm.locals ≤ R.locals) (hf : cells + rm.cells ≤ R.cells ∧ slots + rm.slots ≤ R.slots)
    (hX : XK A s s.heap)
    (kx : ∀ (E : String) (ce : Cell) (q9 : Addr) (H1 : Heap) (locs1 : List Loc), pE E → wP G (br ++ bc) H1 → wD A (br ++ bc) → va_S A s.heap H1 locs1 → H1[q9]? = some ce → ce.vm = .none → s.vm.findClass E = some ce.cls → vx_W p l e R s m args below meth c H1 locs1 (cells + rm.cells) (slots + rm.slots) Q (F0 m pc ls rest) q9)
    (kk : ∀ (u : S) (H1 : Heap) (locs1 : List Loc), post u → wP G (br ++ bw u) H1 → wD A (br ++ bw u) → va_S A s.heap H1 locs1 → W p l e R s m args below meth c H1 locs1 (cells + rm.cells) (slots + rm.slots) Q (F0 m (pc + 3) ls ((rv u).toList ++ rest))) : W p l e R s m args below meth c H locs cells slots Q (F0 m pc ls st0) :=
  xgo hS hP hD hA isC isR hC hR hn (vx_runS (As := As) (rest := rest) F (hM H.size) ⟨lk_B F.2.2.2.2 K.1 (F.2.2.2.2 _ K.2.1) hroom, F.2.2.2.2 _ K.2.2⟩ ⟨xPre_blind, lk_preX hK hX hA hS hP hD isC hC (va_nd_l hn)⟩ rfl hlen hls hst (lv_room hW) hdg hf) kx kk
end XR
