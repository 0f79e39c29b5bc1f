/-! methods with handlers; places in a list of any length -/
abbrev wzH (y : MethodName) (cc : ByteArray) (n : Nat) (r : Option FieldType) (hh : List (Nat × Nat × Nat × Nat)) : List Cond := .codeWith y cc n r hh :: WA
/-- a method with handlers, that throws nothing on -/
def XtH {S : Type} (l : Launch) (y : MethodName) (cc : ByteArray) (maxL : Nat) (ret : Option FieldType) (hh : List (Nat × Nat × Nat × Nat)) (rm : Room) (G : GG) (av : List Value) (bs : List va_W) (rv : S → Option Value) (post : S → Prop) (bw : S → List va_W) : Prop :=
  ∀ sz : Nat, vx_Met l y (wzH y cc maxL ret hh) rm (xPre G av bs sz) (cQ G (va_A bs.flatten sz) rv post bw) (xC G (va_A bs.flatten sz) bs (fun _ => False)) rm.cells rm.slots (va_A bs.flatten sz)
theorem xt_of_ct {S : Type} {l : Launch} {y : MethodName} {cc : ByteArray} {maxL : Nat} {ret : Option FieldType} {rm : Room} {G : GG} {av : List Value} {bs : List va_W} {rv : S → Option Value} {post : S → Prop} {bw : S → List va_W} (pE : String → Prop) (h : Ct l y cc maxL ret rm G av bs rv post bw) : Xt l y cc maxL ret rm G av bs rv post bw pE :=
  fun sz => MetFree.mono (h sz) (fun _ _ q => ⟨q.1, q.2.1, q.2.2.1, q.2.2.2.1, q.2.2.2.2.1⟩) (fun _ _ _ _ _ _ => trivial) (fun _ _ _ _ _ q => Or.inl q)
theorem xhof {S : Type} {l : Launch} {y : MethodName} {cc : ByteArray} {maxL : Nat} {ret : Option FieldType} {hh : List (Nat × Nat × Nat × Nat)} {rm : Room} {G : GG} {av : List Value} {bs : List va_W} {rv : S → Option Value} {post : S → Prop} {bw : S → List va_W} (hy : plainName y.cls = true) (hn : (lg_sl av).length ≤ maxL)
    (body : ∀ (p : Program) (e : Env) (s : State) (m : MethodId) (args : Array Value) (below : List Frame) (meth : Method) (c : Code) (A : Nat → Prop) (ls : Array Slot), p.tables.exec = Jvm.exec → c.code = cc → meth.sig.returnType = ret → c.maxLocals = maxL → s.vm.findClass y.cls = some m.cls → (∀ w ∈ WA, w.before args s = true) → meth.locks = false → meth.name = y.name → (∀ q : Nat, s.heap.size ≤ q → A q) → KK G s → wP G bs s.heap → wD A bs → va_S A s.heap s.heap [] → lv_has ls maxL (lv_args 0 av) → XK A s s.heap → c.exceptionTable.toList = tableOf hh →
      ∀ Q : State → Prop, Q = vx_MQ below (cQ G A rv post bw) (xC G A bs (fun _ => False)) args s rm.cells rm.slots A → W p l e rm s m args below meth c s.heap [] 0 0 Q (F0 m 0 ls [])) : XtH l y cc maxL ret hh rm G av bs rv post bw := by
  intro sz
  refine vx_ofWH (cc := cc) (maxL := maxL) (ret := ret) hy rfl ?_
  intro p e s m args below meth c s₁ B hml hv
  obtain ⟨rfl, rfl, hP, hK, hD0, hX⟩ := hv
  have hts := atoms_spec (ws := wzH y cc maxL ret hh) B.pre
  have htab := vx_table (x := y) B (hts _ List.mem_cons_self)
  have hl := lv_entry av (n := maxL) hn
  rw [lg_entry_eq]
  exact body p e s m _ below meth c _ _ B.exec B.bytes B.returns hml (findClass_of_methodNamed B.named) (fun w h => hts w (List.mem_cons_of_mem _ h)) B.notSynchronized (name_of_methodNamed B.named B.method).1 (fun q h => Or.inr h) hK hP (va_D.self hD0) va_S.rf hl hX htab _ rfl
def LkH (own : String) (index : Nat) (y : MethodName) (cc : ByteArray) (maxL : Nat) (ret : Option FieldType) (hh : List (Nat × Nat × Nat × Nat)) (n : Nat) : Prop := (Cond.initialized y.cls ∈ WA ∧ Cond.codeWith y cc maxL ret hh ∈ WA ∧ y.cls ≠ "java/lang/invoke/MethodHandle" ∧ y.cls ≠ "java/lang/invoke/VarHandle" ∧ (parseMethodDescriptor y.desc).map (fun d => d.parameters.length) = some n) ∧ Cond.methodLink own index y ∈ WA ∧ Cond.static y ∈ WA
theorem ix_c {α : Type} (a : α) (bs : List α) : (List.range' 1 bs.length).map (fun i => (a :: bs)[i]?) = bs.map some := by
  refine List.ext_getElem? (fun k => ?_)
  rw [List.getElem?_map, List.getElem?_map]
  by_cases h : k < bs.length
  · rw [List.getElem?_range' h, List.getElem?_eq_getElem h]
    show some ((a :: bs)[1 + 1 * k]?) = _
    rw [show 1 + 1 * k = k + 1 by omega, List.getElem?_cons_succ, List.getElem?_eq_getElem h]
    rfl
  · rw [List.getElem?_eq_none (by rw [List.length_range']; omega), List.getElem?_eq_none (by omega)]
    rfl
theorem va_nd_of {is : List Nat} (h : is.Nodup) : va_nd is = true := by
  induction is with
  | nil => rfl
  | cons a t ih =>
    have h1 := List.nodup_cons.mp h
    simp only [va_nd, Bool.and_eq_true]
    exact ⟨by simpa using h1.1, ih h1.2⟩
theorem ix_n (n : Nat) : va_nd (List.range' 1 n ++ [0]) = true := by
  refine va_nd_of ?_
  rw [List.nodup_append]
  refine ⟨List.nodup_range', by simp, fun a ha b hb => ?_⟩
  have h1 := List.mem_singleton.mp hb
  have h2 := (List.mem_range'_1.mp ha).1
  omega
section LAW0
variable {p : Program} {l : Launch} {e : Env} {R : Room} {s : State} {m : MethodId} {args : Array Value} {below : List Frame} {meth : Method} {c : Code} {H : Heap} {locs : List Loc} {cells slots : Nat} {Q : State → Prop} {cc : ByteArray} {pc : Nat} {ls : Array Slot} {rest st0 : List Value}
variable {G : GG} {A : Nat → Prop} {bs bc br : List va_W} {own : String} {index nL : Nat} {y : MethodName} {cy : ByteArray} {maxL : Nat} {ret : Option FieldType} {hh : List (Nat × Nat × Nat × Nat)} {n : Nat} {rm : Room} {mc ms : Nat}
variable {S : Type} {rv : S → Option Value} {post : S → Prop} {bw : S → List va_W} {pE : String → Prop}
theorem lk_payH (hts : ∀ w ∈ WA, w.before args s = true) (hc : Cond.codeWith y cy maxL ret hh ∈ WA) : ∀ w ∈ wzH y cy maxL ret hh, ∀ (a' : Array Value) (U : State), s.WarmedH U.vm → w.before a' U = true := by
  intro w hw a' U hW
  have h : w ∈ WA := (List.mem_cons.mp hw).elim (fun e => by rw [e]; exact hc) id
  exact word_at hW (good_of_word (wa_good h)) (hts w h)
/-- a call of a static method with handlers -/
theorem xkSH (F : CallFix p m c cc nL s args WA own) (hK : KK G s) (hA : ∀ q : Nat, s.heap.size ≤ q → A q) (hS : va_S A s.heap H locs) (hP : wP G bs H) (hD : wD A bs) (As : List Value) (rest : List Value)
    (hM : XtH l y cy maxL ret hh rm G As bc rv post bw) (K : LkH own index y cy maxL ret hh n) (isC isR : List Nat) (hC : isC.map (fun i => bs[i]?) = bc.map some) (hR : isR.map (fun i => bs[i]?) = br.map some) (hn : va_nd (isC ++ isR) = true)
    (hlen : As.length = n) (hst : st0 = As.reverse ++ rest) (hW : (rest.map fun v => v.category).sum ≤ 8) (hls : ls.size = nL) (hdg : decode cc pc = .ok (.invokestatic index, 3)) (hroom : rm.frames + 1 ≤ R.frames ∧ 8 + (maxL + 11) + rm.locals ≤ R.locals) (hf : cells + rm.cells ≤ R.cells ∧ slots + rm.slots ≤ R.slots)
    (hX : XK A s s.heap)
    (kk : ∀ (u : S) (H1 : Heap) (locs1 : List Loc), post u → wP G (br ++ bw u) H1 → wD A (br ++ bw u) → va_S A s.heap H1 locs1 → W p l e R s m args below meth c H1 locs1 (cells + rm.cells) (slots + rm.slots) Q (F0 m (pc + 3) ls ((rv u).toList ++ rest))) : W p l e R s m args below meth c H locs cells slots Q (F0 m pc ls st0) :=
  xgo hS hP hD hA isC isR hC hR hn (vx_runSX (As := As) (rest := rest) F (hM H.size) ⟨⟨rfl, rfl, hroom.1, hroom.2, lk_payH F.2.2.2.2 K.1.2.1, List.mem_cons_self⟩, F.2.2.2.2 _ K.1.2.1, F.2.2.2.2 _ K.1.1, ⟨K.1.2.2.1, K.1.2.2.2.1⟩, fun sig h => by have h2 := K.1.2.2.2.2; rw [h] at h2; exact (Option.some.inj h2).symm, F.2.2.2.2 _ K.2.1, F.2.2.2.2 _ K.2.2⟩ ⟨xPre_blind, lk_preX hK hX hA hS hP hD isC hC (va_nd_l hn)⟩ rfl hlen hls hst (lv_room hW) hdg hf) (fun E ce q9 H1 locs1 hE => hE.elim) kk
theorem cret_i9 {v : Int} {ty : FieldType} (hx : p.tables.exec = Jvm.exec) (hb : c.code = cc) (hr : meth.sig.returnType = some ty) (hlocks : meth.locks = false) (u : S) (hS : va_S A s.heap H locs) (hP : wP G (bw u) H) (hD : wD A (bw u)) (hc : cells ≤ mc) (hsl : slots ≤ ms) (hty : narrow ty (.int (jz v)) = .int (jz v)) (hdg : decode cc pc = .ok (.ireturn, 1)) (hp : post u) (hv : some (.int (jz v)) = rv u) {XC : String → State → State → Prop} (hQ : Q = vx_MQ below (cQ G A rv post bw) XC args s mc ms A) : W p l e R s m args below meth c H locs cells slots Q (F0 m pc ls [.int (jz v)]) := by
  rw [hQ]
  refine vx_ret ?_
  exact W.widen hc hsl (W.zret hx hb hr hty (fun t ht _ => ⟨⟨u, by rw [hv], hp, by rw [ht]; exact hP, hD⟩, hS.F ht⟩) hS.2.2 hdg hlocks)
end LAW0
abbrev rmW (rm : Room) (n : Nat) : Room := { frames := rm.frames + 1, cells := rm.cells, slots := rm.slots, locals := 8 + (n + 11) + rm.locals }
