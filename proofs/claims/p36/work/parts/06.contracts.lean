/-! words that are not of the good ones, but hold for good as well -/
def w_face (w : Cond) : Bool := w.onTables && w.keepsFace
def w_nest : Cond → Bool
  | .methodLinkNest .. => true
  | _ => false
def WB : List Cond := lw_tbl.filter w_face
def WN : List Cond := lw_tbl.filter w_nest
theorem va_Nw_face {w : Cond} (hw : w_face w = true) {s U : State} (hW : s.WarmedH U.vm) (h : va_Nw w s) : va_Nw w U := by
  simp only [w_face, Bool.and_eq_true] at hw
  have h1 : w.before #[] (s.setVm U.vm) = true := Cond.before_shiftedFace (State.Shifted.of_warmed hW) w hw.2 h
  exact va_tabs hw.1 (rfl : (s.setVm U.vm).vm = U.vm) h1
theorem va_Nw_nest {w : Cond} (hw : w_nest w = true) {s U : State} (hW : s.WarmedH U.vm) (h : va_Nw w s) : va_Nw w U := by
  cases w with
  | methodLinkNest a i x h9 => exact va_Nw.warmM hW h
  | _ => cases hw
theorem w_nest_tab {w : Cond} (hw : w_nest w = true) : w.onTables = true := by
  cases w with
  | methodLinkNest a i x h9 => rfl
  | _ => cases hw
/-- the class's own texts -/
def strW : List (Nat × String) := [(293, "there is no such text"), (105, "no such place in the text"), (297, "the letter is not in the alphabet"), (114, "the text has 20 letters"), (295, "there is no such letter of the text"), (138, "an alphabet has 2 to 4 letters"), (141, "a letter of a text would not be in the alphabet"), (299, "i or j is out of range"), (162, "a step has no negative index"), (165, "no such kind of step"), (301, "a bound is 0 to 20"), (184, "a block size is 1 or 2"), (240, "no state is saved")]
/-- pairs of exceptions of which the one is not the other -/
def ncW : List (String × String) := []
/-- what every method takes as given of the tables -/
def KK (G : GG) (U : State) : Prop := K0 G U ∧ (∀ w ∈ WB, va_Nw w U) ∧ (∀ w ∈ WN, va_Nw w U) ∧ (∀ q ∈ strW, ∃ sa, vk_R RX8 q.1 q.2 sa U) ∧ (∀ q ∈ ncW, va_Nc q.1 q.2 U) ∧ va_AO RX5 U
theorem KK.warm {G : GG} {s U : State} (hW : s.WarmedH U.vm) (h : KK G s) : KK G U := by
  obtain ⟨h1, h2, h3, h4, h5, h6⟩ := h
  refine ⟨va_K.moved hW.alike h1, fun w hw => va_Nw_face (List.mem_filter.mp hw).2 hW (h2 w hw), fun w hw => va_Nw_nest (List.mem_filter.mp hw).2 hW (h3 w hw), fun q hq => ?_, fun q hq => va_Nc.moved hW.alike (h5 q hq), va_AO.moved hW.alike h6⟩
  obtain ⟨sa, h⟩ := h4 q hq
  exact ⟨sa, vk_R.warm hW h⟩
theorem KK.same {G : GG} {s U : State} (hv : U.vm = s.vm) (h : KK G s) : KK G U := by
  obtain ⟨h1, h2, h3, h4, h5, h6⟩ := h
  have ha : s.vm.Alike U.vm := by rw [hv]; exact Vm.Alike.refl s.vm
  refine ⟨va_K.moved ha h1, fun w hw => ?_, fun w hw => ?_, fun q hq => ?_, fun q hq => va_Nc.moved ha (h5 q hq), va_AO.moved ha h6⟩
  · have hw2 := (List.mem_filter.mp hw).2
    simp only [w_face, Bool.and_eq_true] at hw2
    exact va_Nw.same hw2.1 hv.symm (h2 w hw)
  · exact va_Nw.same (w_nest_tab (List.mem_filter.mp hw).2) hv.symm (h3 w hw)
  · obtain ⟨sa, h⟩ := h4 q hq
    exact ⟨sa, vk_R.same hv h⟩
/-! contracts -/
def cPre (G : GG) (av : List Value) (bs : List va_W) (sz : Nat) : Array Value → State → Prop := va_Pc av (fun U => U.heap.size = sz ∧ wP G bs U.heap ∧ KK G U ∧ wD (fun _ => True) bs)
def cQ {S : Type} (G : GG) (A : Nat → Prop) (rv : S → Option Value) (post : S → Prop) (bw : S → List va_W) : Array Value → State → Outcome → State → Prop := fun _ st oc t => (∃ u : S, oc = .returned (rv u) ∧ post u ∧ wP G (bw u) t.heap ∧ wD A (bw u)) ∧ va_F A st t
/-- method y, of code cc: from the blocks bs, with the arguments av, it returns rv u, and the blocks are bw u, for some u of which post holds -/
def Ct {S : Type} (l : Launch) (y : MethodName) (cc : ByteArray) (maxL : Nat) (ret : Option FieldType) (rm : Room) (G : GG) (av : List Value) (bs : List va_W) (rv : S → Option Value) (post : S → Prop) (bw : S → List va_W) : Prop :=
  ∀ sz : Nat, Met l y (wz y cc maxL ret) rm (cPre G av bs sz) (cQ G (va_A bs.flatten sz) rv post bw) rm.cells rm.slots (va_A bs.flatten sz)
theorem cPre_blind {G : GG} {av : List Value} {bs : List va_W} {sz : Nat} : FrameBlind (cPre G av bs sz) := fun a U g mk h => ⟨h.1, h.2.1, h.2.2.1, KK.same (s := U) (U := U.calling g mk a) rfl h.2.2.2.1, h.2.2.2.2⟩
theorem cof {S : Type} {l : Launch} {y : MethodName} {cc : ByteArray} {maxL : Nat} {ret : Option FieldType} {rm : Room} {G : GG} {av : List Value} {bs : List va_W} {rv : S → Option Value} {post : S → Prop} {bw : S → List va_W} (hy : plainName y.cls = true) (hn : (lg_sl av).length ≤ maxL)
    (body : ∀ (p : Program) (e : Env) (s : State) (m : MethodId) (args : Array Value) (below : List Frame) (meth : Method) (c : Code) (A : Nat → Prop) (ls : Array Slot), p.tables.exec = Jvm.exec → c.code = cc → meth.sig.returnType = ret → c.maxLocals = maxL → s.vm.findClass y.cls = some m.cls → (∀ w ∈ WA, w.before args s = true) → meth.locks = false → meth.name = y.name → (∀ q : Nat, s.heap.size ≤ q → A q) → KK G s → wP G bs s.heap → wD A bs → va_S A s.heap s.heap [] → lv_has ls maxL (lv_args 0 av) →
      ∀ Q : State → Prop, Q = MQ below (cQ G A rv post bw) args s rm.cells rm.slots A → W p l e rm s m args below meth c s.heap [] 0 0 Q (F0 m 0 ls [])) : Ct l y cc maxL ret rm G av bs rv post bw := by
  intro sz
  refine Met.ofW (cc := cc) (maxL := maxL) (ret := ret) hy rfl ?_
  intro p e s m args below meth c s₁ B hml hv
  obtain ⟨rfl, rfl, hP, hK, hD0⟩ := hv
  have hts := atoms_spec (ws := wz y cc maxL ret) B.pre
  have hl := lv_entry av (n := maxL) hn
  rw [lg_entry_eq]
  exact body p e s m _ below meth c _ _ B.exec B.bytes B.returns hml (findClass_of_methodNamed B.named) (fun w h => hts w (List.mem_cons_of_mem _ h)) B.notSynchronized (name_of_methodNamed B.named B.method).1 (fun q h => Or.inr h) hK hP (va_D.self hD0) va_S.rf hl _ rfl
section CR
variable {p : Program} {l : Launch} {e : Env} {R : Room} {s : State} {m : MethodId} {args : Array Value} {below : List Frame} {meth : Method} {c : Code} {H : Heap} {locs : List Loc} {cells slots : Nat} {Q : State → Prop} {cc : ByteArray} {pc : Nat} {ls : Array Slot} {rest : List Value}
variable {G : GG} {A : Nat → Prop} {bs : List va_W} {mc ms : Nat}
theorem cret_Q {S : Type} {rv : S → Option Value} {post : S → Prop} {bw : S → List va_W} (hS : va_S A s.heap H locs) (hP : wP G bs H) (hD : wD A bs) (u : S) (is : List Nat) (hn : va_nd is = true) (hs : is.map (fun i => bs[i]?) = (bw u).map some) (hp : post u) {v : Option Value} (hv : v = rv u) : ∀ t : State, t.heap = H → s.WarmedH t.vm → cQ G A rv post bw args s (.returned v) t := fun t ht _ => ⟨⟨u, by rw [hv], hp, by rw [ht]; exact wP_sub hP is hs, wD_sub hD is hn hs⟩, hS.F ht⟩
theorem cret_i {S : Type} {rv : S → Option Value} {post : S → Prop} {bw : S → List va_W} {v : Int} {ty : FieldType} (hx : p.tables.exec = Jvm.exec) (hb : c.code = cc) (hr : meth.sig.returnType = some ty) (hlocks : meth.locks = false) (hS : va_S A s.heap H locs) (hP : wP G bs H) (hD : wD A bs) (hc : cells ≤ mc) (hsl : slots ≤ ms) (hty : narrow ty (.int (jz v)) = .int (jz v)) (hdg : decode cc pc = .ok (.ireturn, 1)) (is : List Nat) (hn : va_nd is = true) (u : S) (hs : is.map (fun i => bs[i]?) = (bw u).map some) (hp : post u) (hv : some (.int (jz v)) = rv u) (hQ : Q = MQ below (cQ G A rv post bw) args s mc ms A) : W p l e R s m args below meth c H locs cells slots Q (F0 m pc ls [.int (jz v)]) :=
  hQ ▸ W.widen hc hsl (W.zret hx hb hr hty (cret_Q hS hP hD u is hn hs hp hv) hS.2.2 hdg hlocks)
theorem cret_v {S : Type} {rv : S → Option Value} {post : S → Prop} {bw : S → List va_W} (hx : p.tables.exec = Jvm.exec) (hb : c.code = cc) (hr : meth.sig.returnType = none) (hlocks : meth.locks = false) (hS : va_S A s.heap H locs) (hP : wP G bs H) (hD : wD A bs) (hc : cells ≤ mc) (hsl : slots ≤ ms) (hdg : decode cc pc = .ok (.return_, 1)) (is : List Nat) (hn : va_nd is = true) (u : S) (hs : is.map (fun i => bs[i]?) = (bw u).map some) (hp : post u) (hv : none = rv u) (hQ : Q = MQ below (cQ G A rv post bw) args s mc ms A) : W p l e R s m args below meth c H locs cells slots Q (F0 m pc ls []) :=
  hQ ▸ W.widen hc hsl (W.vret hx hb hr (cret_Q hS hP hD u is hn hs hp hv) hS.2.2 hdg hlocks)
theorem cret_l {S : Type} {rv : S → Option Value} {post : S → Prop} {bw : S → List va_W} {v : Int64} (hx : p.tables.exec = Jvm.exec) (hb : c.code = cc) (hr : meth.sig.returnType = some .long) (hlocks : meth.locks = false) (hS : va_S A s.heap H locs) (hP : wP G bs H) (hD : wD A bs) (hc : cells ≤ mc) (hsl : slots ≤ ms) (hdg : decode cc pc = .ok (.lreturn, 1)) (is : List Nat) (hn : va_nd is = true) (u : S) (hs : is.map (fun i => bs[i]?) = (bw u).map some) (hp : post u) (hv : some (.long v) = rv u) (hQ : Q = MQ below (cQ G A rv post bw) args s mc ms A) : W p l e R s m args below meth c H locs cells slots Q (F0 m pc ls [.long v]) :=
  hQ ▸ W.widen hc hsl (W.lret hx hb hr (cret_Q hS hP hD u is hn hs hp hv) hS.2.2 hdg hlocks)
theorem cret_d {S : Type} {rv : S → Option Value} {post : S → Prop} {bw : S → List va_W} {v : UInt64} (hx : p.tables.exec = Jvm.exec) (hb : c.code = cc) (hr : meth.sig.returnType = some .double) (hlocks : meth.locks = false) (hS : va_S A s.heap H locs) (hP : wP G bs H) (hD : wD A bs) (hc : cells ≤ mc) (hsl : slots ≤ ms) (hdg : decode cc pc = .ok (.dreturn, 1)) (is : List Nat) (hn : va_nd is = true) (u : S) (hs : is.map (fun i => bs[i]?) = (bw u).map some) (hp : post u) (hv : some (.double v) = rv u) (hQ : Q = MQ below (cQ G A rv post bw) args s mc ms A) : W p l e R s m args below meth c H locs cells slots Q (F0 m pc ls [.double v]) :=
  hQ ▸ W.widen hc hsl (W.dret hx hb hr (cret_Q hS hP hD u is hn hs hp hv) hS.2.2 hdg hlocks)
theorem cret_r {S : Type} {rv : S → Option Value} {post : S → Prop} {bw : S → List va_W} {v : Nat} {ty : String} (hx : p.tables.exec = Jvm.exec) (hb : c.code = cc) (hr : meth.sig.returnType = some (.object ty)) (hlocks : meth.locks = false) (hS : va_S A s.heap H locs) (hP : wP G bs H) (hD : wD A bs) (hc : cells ≤ mc) (hsl : slots ≤ ms) (hdg : decode cc pc = .ok (.areturn, 1)) (is : List Nat) (hn : va_nd is = true) (u : S) (hs : is.map (fun i => bs[i]?) = (bw u).map some) (hp : post u) (hv : some (.ref v) = rv u) (hQ : Q = MQ below (cQ G A rv post bw) args s mc ms A) : W p l e R s m args below meth c H locs cells slots Q (F0 m pc ls [.ref v]) :=
  hQ ▸ W.widen hc hsl (W.aret hx hb hr (Or.inl ⟨_, rfl⟩) (Or.inr ⟨_, rfl⟩) (cret_Q hS hP hD u is hn hs hp hv) hS.2.2 hdg hlocks)
/-- behind a call: the blocks isC were the callee's, the blocks isR stay -/
theorem cgo {S : Type} {a : Array Value} {rv : S → Option Value} {post : S → Prop} {bw : S → List va_W} {bc br : List va_W} {st0 : List Value} (hS : va_S A s.heap H locs) (hP : wP G bs H) (hD : wD A bs) (hA : ∀ q : Nat, s.heap.size ≤ q → A q) (isC isR : List Nat) (hC : isC.map (fun i => bs[i]?) = bc.map some) (hR : isR.map (fun i => bs[i]?) = br.map some) (hn : va_nd (isC ++ isR) = true)
    (hr : va_Run p l e R s m args below meth c H locs cells slots mc ms (F0 m pc ls st0) rest (cQ G (va_A bc.flatten H.size) rv post bw a) (va_A bc.flatten H.size))
    (kk : ∀ (u : S) (H1 : Heap) (locs1 : List Loc), post u → wP G (br ++ bw u) H1 → wD A (br ++ bw u) → va_S A s.heap H1 locs1 → W p l e R s m args below meth c H1 locs1 (cells + mc) (slots + ms) Q (F0 m (pc + 3) ls ((rv u).toList ++ rest))) : W p l e R s m args below meth c H locs cells slots Q (F0 m pc ls st0) := by
  intro T hT X
  have hF := wfree hD hS hA isC hC
  obtain ⟨v, st₀, t, T', L, h0, X', hL, e1, e2, ⟨⟨u, hv, hp, hb1, hb2⟩, hFr⟩, st⟩ := hr T hT X
  cases hv
  obtain ⟨k1, k2, k3⟩ := vx_keep h0 e1 hS (fun q _ h => hF q h) hF hL hFr
  have hb1 : wP G (bw u) T'.heap := by rw [e1]; exact hb1
  obtain ⟨j1, j2⟩ := wjoin hP hD isC isR hC hR hn k2 hF hb1 hb2
  obtain ⟨t2, a1, b1⟩ := kk u T'.heap (locs ++ L) hp j1 j2 k3 T' rfl X'
  exact ⟨t2, st t2 a1, b1⟩
end CR
