/-! calls: what a call site needs of the tables, in one word -/
def LkB (y : MethodName) (cc : ByteArray) (maxL : Nat) (ret : Option FieldType) (n : Nat) : Prop := Cond.initialized y.cls ∈ WA ∧ Cond.code y cc maxL ret ∈ WA ∧ y.cls ≠ "java/lang/invoke/MethodHandle" ∧ y.cls ≠ "java/lang/invoke/VarHandle" ∧ (parseMethodDescriptor y.desc).map (fun d => d.parameters.length) = some n
def LkV (own : String) (index : Nat) (y : MethodName) (cc : ByteArray) (maxL : Nat) (ret : Option FieldType) (n : Nat) : Prop := LkB y cc maxL ret n ∧ Cond.methodLink own index y ∈ WA ∧ Cond.instanceMethod y ∈ WA ∧ Cond.selects y.cls y y ∈ WA
def LkS (own : String) (index : Nat) (y : MethodName) (cc : ByteArray) (maxL : Nat) (ret : Option FieldType) (n : Nat) : Prop := LkB y cc maxL ret n ∧ Cond.methodLink own index y ∈ WA ∧ Cond.static y ∈ WA
def LkSN (own : String) (index : Nat) (y : MethodName) (host : String) (cc : ByteArray) (maxL : Nat) (ret : Option FieldType) (n : Nat) : Prop := LkB y cc maxL ret n ∧ Cond.methodLinkNest own index y host ∈ WN ∧ Cond.static y ∈ WA
def LkI (own : String) (index : Nat) (y : MethodName) (cc : ByteArray) (maxL : Nat) (n : Nat) : Prop := LkB y cc maxL none n ∧ Cond.methodLink own index y ∈ WA ∧ Cond.instanceMethod y ∈ WA ∧ y.name = "<init>"
def LkIN (own : String) (index : Nat) (y : MethodName) (host : String) (cc : ByteArray) (maxL : Nat) (n : Nat) : Prop := LkB y cc maxL none n ∧ Cond.methodLinkNest own index y host ∈ WN ∧ Cond.instanceMethod y ∈ WA ∧ y.name = "<init>"
section LK
variable {p : Program} {l : Launch} {e : Env} {R : Room} {s : State} {m : MethodId} {args : Array Value} {below : List Frame} {meth : Method} {c : Code} {H : Heap} {locs : List Loc} {cells slots : Nat} {Q : State → Prop} {cc : ByteArray} {pc : Nat} {ls : Array Slot} {rest st0 : List Value}
variable {G : GG} {A : Nat → Prop} {bs bc br : List va_W} {own : String} {index nL : Nat} {y : MethodName} {cy : ByteArray} {maxL : Nat} {ret : Option FieldType} {n : Nat} {rm : Room} {As : List Value} {b : Nat}
theorem lk_pay (hts : ∀ w ∈ WA, w.before args s = true) (hc : Cond.code y cy maxL ret ∈ WA) : ∀ w ∈ wz y cy maxL ret, ∀ (a' : Array Value) (U : State), s.WarmedH U.vm → w.before a' U = true := by
  intro w hw a' U hW
  have h : w ∈ WA := (List.mem_cons.mp hw).elim (fun e => by rw [e]; exact hc) id
  exact word_at hW (good_of_word (wa_good h)) (hts w h)
theorem lk_B (hts : ∀ w ∈ WA, w.before args s = true) (K : LkB y cy maxL ret n) (hl : (Cond.methodLink own index y).before args s = true) (hR : rm.frames + 1 ≤ R.frames ∧ 8 + (maxL + 11) + rm.locals ≤ R.locals) : CallB R s args own index y cy maxL ret (wz y cy maxL ret) rm rm.cells rm.slots n :=
  ⟨rfl, rfl, hR.1, hR.2, lk_pay hts K.2.1, List.mem_cons_self, hts _ K.2.1, hts _ K.1, ⟨K.2.2.1, K.2.2.2.1⟩, fun sig h => by have h2 := K.2.2.2.2; rw [h] at h2; exact (Option.some.inj h2).symm, hl⟩
theorem lk_N {host : String} (hts : ∀ w ∈ WA, w.before args s = true) (K : LkB y cy maxL ret n) (hl : va_Nw (Cond.methodLinkNest own index y host) s) (hR : rm.frames + 1 ≤ R.frames ∧ 8 + (maxL + 11) + rm.locals ≤ R.locals) : va_CN R s args own index y host cy maxL ret (wz y cy maxL ret) rm rm.cells rm.slots n :=
  ⟨⟨rfl, rfl, hR.1, hR.2, lk_pay hts K.2.1, List.mem_cons_self⟩, hts _ K.2.1, hts _ K.1, ⟨K.2.2.1, K.2.2.2.1⟩, fun sig h => by have h2 := K.2.2.2.2; rw [h] at h2; exact (Option.some.inj h2).symm, va_Nw.use rfl hl⟩
theorem lk_pre {av : List Value} (hK : KK G s) (hP : wP G bs H) (hD : wD A bs) (isC : List Nat) (hC : isC.map (fun i => bs[i]?) = bc.map some) (hn : va_nd isC = true) : ∀ U : State, U.heap = H → s.WarmedH U.vm → cPre G av bc H.size av.toArray U :=
  fun U hU hW => ⟨rfl, by rw [hU], by rw [hU]; exact wP_sub hP isC hC, KK.warm hW hK, va_D.weaken (wD_sub hD isC hn hC) (fun _ _ _ _ => trivial)⟩
theorem va_nd_l {a b : List Nat} (h : va_nd (a ++ b) = true) : va_nd a = true := by
  induction a with
  | nil => rfl
  | cons x t ih =>
    simp only [List.cons_append, va_nd, Bool.and_eq_true] at h ⊢
    have h1 : x ∉ t ++ b := by simpa using h.1
    have h2 : x ∉ t := fun h9 => h1 (List.mem_append_left _ h9)
    exact ⟨by simpa using h2, ih h.2⟩
theorem lk_recv (hK : KK G s) (hP : wP G bs H) (isC : List Nat) (hC : isC.map (fun i => bs[i]?) = bc.map some) (k0 ci : Nat) {fs : List Value} {T : u_T} {N : Nat} (he : bc.flatten[k0]? = some (b, .inr (ci, fs))) (hcl : vwCl[ci]? = some (y.cls, T, N)) : ∃ cell : Cell, H[b]? = some cell ∧ cell.vm.isStatics = false ∧ s.vm.findClass y.cls = some cell.cls :=
  va_recv hK.1 (wP_sub hP isC hC) hcl he
variable {S : Type} {rv : S → Option Value} {post : S → Prop} {bw : S → List va_W}
/-- a call of an instance method of the receiver b -/
theorem kV (F : CallFix p m c cc nL s args WA own) (hK : KK G s) (hA : ∀ q : Nat, s.heap.size ≤ q → A q) (hS : va_S A s.heap H locs) (hP : wP G bs H) (hD : wD A bs) (As : List Value) (rest : List Value)
    (hM : Ct l y cy maxL ret rm G (.ref b :: As) bc rv post bw) (K : LkV own index y cy maxL ret n) (isC isR : List Nat) (hC : isC.map (fun i => bs[i]?) = bc.map some) (hR : isR.map (fun i => bs[i]?) = br.map some) (hn : va_nd (isC ++ isR) = true) (k0 ci : Nat) {fs : List Value} {T : u_T} {N : Nat} (he : bc.flatten[k0]? = some (b, .inr (ci, fs))) (hcl : vwCl[ci]? = some (y.cls, T, N))
    (hlen : As.length = n) (hst : st0 = As.reverse ++ .ref b :: rest) (hW : (rest.map fun v => v.category).sum ≤ 8) (hls : ls.size = nL) (hdg : decode cc pc = .ok (.invokevirtual index, 3)) (hroom : rm.frames + 1 ≤ R.frames ∧ 8 + (maxL + 11) + rm.locals ≤ R.locals) (hf : cells + rm.cells ≤ R.cells ∧ slots + rm.slots ≤ R.slots)
    (kk : ∀ (u : S) (H1 : Heap) (locs1 : List Loc), post u → wP G (br ++ bw u) H1 → wD A (br ++ bw u) → va_S A s.heap H1 locs1 → W p l e R s m args below meth c H1 locs1 (cells + rm.cells) (slots + rm.slots) Q (F0 m (pc + 3) ls ((rv u).toList ++ rest))) : W p l e R s m args below meth c H locs cells slots Q (F0 m pc ls st0) :=
  cgo hS hP hD hA isC isR hC hR hn (va_runV (C := y.cls) (As := As) (rest := rest) F (hM H.size) ⟨lk_B F.2.2.2.2 K.1 (F.2.2.2.2 _ K.2.1) hroom, F.2.2.2.2 _ K.2.2.1, F.2.2.2.2 _ K.2.2.2⟩ ⟨cPre_blind, lk_recv hK hP isC hC k0 ci he hcl, lk_pre hK hP hD isC hC (va_nd_l hn)⟩ rfl hlen hls hst (lv_room hW) hdg hf) kk
/-- a call of a static method -/
theorem kS (F : CallFix p m c cc nL s args WA own) (hK : KK G s) (hA : ∀ q : Nat, s.heap.size ≤ q → A q) (hS : va_S A s.heap H locs) (hP : wP G bs H) (hD : wD A bs) (As : List Value) (rest : List Value)
    (hM : Ct l y cy maxL ret rm G As bc rv post bw) (K : LkS own index y cy maxL ret n) (isC isR : List Nat) (hC : isC.map (fun i => bs[i]?) = bc.map some) (hR : isR.map (fun i => bs[i]?) = br.map some) (hn : va_nd (isC ++ isR) = true)
    (hlen : As.length = n) (hst : st0 = As.reverse ++ rest) (hW : (rest.map fun v => v.category).sum ≤ 8) (hls : ls.size = nL) (hdg : decode cc pc = .ok (.invokestatic index, 3)) (hroom : rm.frames + 1 ≤ R.frames ∧ 8 + (maxL + 11) + rm.locals ≤ R.locals) (hf : cells + rm.cells ≤ R.cells ∧ slots + rm.slots ≤ R.slots)
    (kk : ∀ (u : S) (H1 : Heap) (locs1 : List Loc), post u → wP G (br ++ bw u) H1 → wD A (br ++ bw u) → va_S A s.heap H1 locs1 → W p l e R s m args below meth c H1 locs1 (cells + rm.cells) (slots + rm.slots) Q (F0 m (pc + 3) ls ((rv u).toList ++ rest))) : W p l e R s m args below meth c H locs cells slots Q (F0 m pc ls st0) :=
  cgo hS hP hD hA isC isR hC hR hn (va_runS (As := As) (rest := rest) F (hM H.size) ⟨lk_B F.2.2.2.2 K.1 (F.2.2.2.2 _ K.2.1) hroom, F.2.2.2.2 _ K.2.2⟩ ⟨cPre_blind, lk_pre hK hP hD isC hC (va_nd_l hn)⟩ rfl hlen hls hst (lv_room hW) hdg hf) kk
theorem kSN {host : String} (F : CallFix p m c cc nL s args WA own) (hK : KK G s) (hA : ∀ q : Nat, s.heap.size ≤ q → A q) (hS : va_S A s.heap H locs) (hP : wP G bs H) (hD : wD A bs) (As : List Value) (rest : List Value)
    (hM : Ct l y cy maxL ret rm G As bc rv post bw) (K : LkSN own index y host cy maxL ret n) (isC isR : List Nat) (hC : isC.map (fun i => bs[i]?) = bc.map some) (hR : isR.map (fun i => bs[i]?) = br.map some) (hn : va_nd (isC ++ isR) = true)
    (hlen : As.length = n) (hst : st0 = As.reverse ++ rest) (hW : (rest.map fun v => v.category).sum ≤ 8) (hls : ls.size = nL) (hdg : decode cc pc = .ok (.invokestatic index, 3)) (hroom : rm.frames + 1 ≤ R.frames ∧ 8 + (maxL + 11) + rm.locals ≤ R.locals) (hf : cells + rm.cells ≤ R.cells ∧ slots + rm.slots ≤ R.slots)
    (kk : ∀ (u : S) (H1 : Heap) (locs1 : List Loc), post u → wP G (br ++ bw u) H1 → wD A (br ++ bw u) → va_S A s.heap H1 locs1 → W p l e R s m args below meth c H1 locs1 (cells + rm.cells) (slots + rm.slots) Q (F0 m (pc + 3) ls ((rv u).toList ++ rest))) : W p l e R s m args below meth c H locs cells slots Q (F0 m pc ls st0) :=
  cgo hS hP hD hA isC isR hC hR hn (va_runSN (As := As) (rest := rest) F (hM H.size) ⟨lk_N F.2.2.2.2 K.1 (hK.2.2.1 _ K.2.1) hroom, F.2.2.2.2 _ K.2.2, trivial⟩ ⟨cPre_blind, lk_pre hK hP hD isC hC (va_nd_l hn)⟩ rfl hlen hls hst (lv_room hW) hdg hf) kk
/-- a constructor's call -/
theorem kI (F : CallFix p m c cc nL s args WA own) (hK : KK G s) (hA : ∀ q : Nat, s.heap.size ≤ q → A q) (hS : va_S A s.heap H locs) (hP : wP G bs H) (hD : wD A bs) (As : List Value) (rest : List Value)
    (hM : Ct l y cy maxL none rm G (.ref b :: As) bc rv post bw) (K : LkI own index y cy maxL n) (isC isR : List Nat) (hC : isC.map (fun i => bs[i]?) = bc.map some) (hR : isR.map (fun i => bs[i]?) = br.map some) (hn : va_nd (isC ++ isR) = true)
    (hlen : As.length = n) (hst : st0 = As.reverse ++ .ref b :: rest) (hW : (rest.map fun v => v.category).sum ≤ 8) (hls : ls.size = nL) (hdg : decode cc pc = .ok (.invokespecial index, 3)) (hroom : rm.frames + 1 ≤ R.frames ∧ 8 + (maxL + 11) + rm.locals ≤ R.locals) (hf : cells + rm.cells ≤ R.cells ∧ slots + rm.slots ≤ R.slots)
    (kk : ∀ (u : S) (H1 : Heap) (locs1 : List Loc), post u → wP G (br ++ bw u) H1 → wD A (br ++ bw u) → va_S A s.heap H1 locs1 → W p l e R s m args below meth c H1 locs1 (cells + rm.cells) (slots + rm.slots) Q (F0 m (pc + 3) ls ((rv u).toList ++ rest))) : W p l e R s m args below meth c H locs cells slots Q (F0 m pc ls st0) :=
  cgo hS hP hD hA isC isR hC hR hn (va_runI (As := As) (rest := rest) F (hM H.size) ⟨lk_B F.2.2.2.2 K.1 (F.2.2.2.2 _ K.2.1) hroom, K.2.2.2, F.2.2.2.2 _ K.2.2.1⟩ ⟨cPre_blind, lk_pre hK hP hD isC hC (va_nd_l hn)⟩ rfl hlen hls hst (lv_room hW) hdg hf) kk
theorem kIN {host : String} (F : CallFix p m c cc nL s args WA own) (hK : KK G s) (hA : ∀ q : Nat, s.heap.size ≤ q → A q) (hS : va_S A s.heap H locs) (hP : wP G bs H) (hD : wD A bs) (As : List Value) (rest : List Value)
    (hM : Ct l y cy maxL none rm G (.ref b :: As) bc rv post bw) (K : LkIN own index y host cy maxL n) (isC isR : List Nat) (hC : isC.map (fun i => bs[i]?) = bc.map some) (hR : isR.map (fun i => bs[i]?) = br.map some) (hn : va_nd (isC ++ isR) = true)
    (hlen : As.length = n) (hst : st0 = As.reverse ++ .ref b :: rest) (hW : (rest.map fun v => v.category).sum ≤ 8) (hls : ls.size = nL) (hdg : decode cc pc = .ok (.invokespecial index, 3)) (hroom : rm.frames + 1 ≤ R.frames ∧ 8 + (maxL + 11) + rm.locals ≤ R.locals) (hf : cells + rm.cells ≤ R.cells ∧ slots + rm.slots ≤ R.slots)
    (kk : ∀ (u : S) (H1 : Heap) (locs1 : List Loc), post u → wP G (br ++ bw u) H1 → wD A (br ++ bw u) → va_S A s.heap H1 locs1 → W p l e R s m args below meth c H1 locs1 (cells + rm.cells) (slots + rm.slots) Q (F0 m (pc + 3) ls ((rv u).toList ++ rest))) : W p l e R s m args below meth c H locs cells slots Q (F0 m pc ls st0) :=
  cgo hS hP hD hA isC isR hC hR hn (va_runIN (As := As) (rest := rest) F (hM H.size) ⟨lk_N F.2.2.2.2 K.1 (hK.2.2.1 _ K.2.1) hroom, K.2.2.2, F.2.2.2.2 _ K.2.2.1⟩ ⟨cPre_blind, lk_pre hK hP hD isC hC (va_nd_l hn)⟩ rfl hlen hls hst (lv_room hW) hdg hf) kk
end LK
