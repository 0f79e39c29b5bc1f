/-! p36: rows that the law's own methods want; the script that it reads -/
def an (x y : Int) : Int := (jz x &&& jz y).toInt
def sh (x y : Int) : Int := (jz x >>> (jz y &&& 31)).toInt
def dc (op : CmpOp) (x y : UInt64) : Int := (Op.cmpValue (FP.dcmp x y) op).toInt
theorem an_jr (x y : Int) : jr (an x y) := jr_as _
theorem sh_jr (x y : Int) : jr (sh x y) := jr_as _
theorem dc_jr (op : CmpOp) (x y : UInt64) : jr (dc op x y) := jr_as _
theorem jz_nat {y : Int} (h0 : 0 ≤ y) (h : jr y) : (jz y).toBitVec.toNat = y.toNat := by
  have e := jz_int h
  have e1 : (jz y).toInt = (jz y).toBitVec.toInt := rfl
  have e2 := BitVec.toInt_eq_toNat_cond (jz y).toBitVec
  have e3 := (jz y).toBitVec.isLt
  rw [e1, e2] at e
  split at e <;> omega
theorem an_bd (x : Int) {y : Int} (h0 : 0 ≤ y) (h : jr y) : 0 ≤ an x y ∧ an x y ≤ y := by
  have h1 : (jz x &&& jz y).toBitVec.toNat ≤ y.toNat := by
    rw [Int32.toBitVec_and, BitVec.toNat_and, jz_nat h0 h]
    exact Nat.and_le_right
  have h2 : (jz x &&& jz y).toInt = ((jz x &&& jz y).toBitVec.toNat : Int) := by
    show (jz x &&& jz y).toBitVec.toInt = _
    exact BitVec.toInt_eq_toNat_of_lt (by omega)
  unfold an
  omega
section PA
variable {p : Program} {l : Launch} {e : Env} {R : Room} {s : State} {m : MethodId} {args : Array Value} {below : List Frame} {meth : Method} {c : Code} {H : Heap} {locs : List Loc} {cells slots : Nat} {Q : State → Prop} {cc : ByteArray} {pc : Nat} {ls : Array Slot} {rest : List Value}
theorem jv_iand (hexec : p.tables.exec = Jvm.exec) (hb : c.code = cc) {x y : Int} (hdg : decode cc pc = .ok (.iand, 1))
    (k : W p l e R s m args below meth c H locs cells slots Q (F0 m (pc + 1) ls (.int (jz (an x y)) :: rest))) : W p l e R s m args below meth c H locs cells slots Q (F0 m pc ls (.int (jz y) :: .int (jz x) :: rest)) :=
  lv_iand hexec hb hdg (by rw [show jz x &&& jz y = jz (an x y) from (jz_as _).symm]; exact k)
theorem jv_ishr (hexec : p.tables.exec = Jvm.exec) (hb : c.code = cc) {x y : Int} (hdg : decode cc pc = .ok (.ishr, 1))
    (k : W p l e R s m args below meth c H locs cells slots Q (F0 m (pc + 1) ls (.int (jz (sh x y)) :: rest))) : W p l e R s m args below meth c H locs cells slots Q (F0 m pc ls (.int (jz y) :: .int (jz x) :: rest)) :=
  lv_ishr hexec hb hdg (by rw [show jz x >>> (jz y &&& 31) = jz (sh x y) from (jz_as _).symm]; exact k)
theorem jv_dcmp (hexec : p.tables.exec = Jvm.exec) (hb : c.code = cc) {x y : UInt64} {op : CmpOp} (hdg : decode cc pc = .ok (.dcmp op, 1))
    (k : W p l e R s m args below meth c H locs cells slots Q (F0 m (pc + 1) ls (.int (jz (dc op x y)) :: rest))) : W p l e R s m args below meth c H locs cells slots Q (F0 m pc ls (.double y :: .double x :: rest)) :=
  lv_dcmp hexec hb hdg (by rw [show Op.cmpValue (FP.dcmp x y) op = jz (dc op x y) from (jz_as _).symm]; exact k)
theorem jv_table (hexec : p.tables.exec = Jvm.exec) (hb : c.code = cc) {dflt hi : Int} {offs : Array Int} {len : Nat} {x z off : Int} {tgt : Nat} (hdg : decode cc pc = .ok (.tableswitch dflt 0 hi offs, len)) (hz : x = z) (hr : jr z) (h1 : 0 ≤ z) (h2 : z ≤ hi) (ho : offs[z.toNat]? = some off) (ht : (pc : Int) + off = (tgt : Int))
    (k : W p l e R s m args below meth c H locs cells slots Q (F0 m tgt ls rest)) : W p l e R s m args below meth c H locs cells slots Q (F0 m pc ls (.int (jz x) :: rest)) := by
  subst hz
  have e9 := jz_int hr
  exact lv_tableIn hexec hb hdg (by rw [e9]; omega) (by rw [e9]; omega) (off := off) (by rw [e9, Int.sub_zero]; exact ho) ht k
theorem jv_tabOut (hexec : p.tables.exec = Jvm.exec) (hb : c.code = cc) {dflt hi : Int} {offs : Array Int} {len : Nat} {x : Int} {tgt : Nat} (hdg : decode cc pc = .ok (.tableswitch dflt 0 hi offs, len)) (hr : jr x) (h2 : hi < x) (ht : (pc : Int) + dflt = (tgt : Int))
    (k : W p l e R s m args below meth c H locs cells slots Q (F0 m tgt ls rest)) : W p l e R s m args below meth c H locs cells slots Q (F0 m pc ls (.int (jz x) :: rest)) :=
  lv_tableOut hexec hb hdg (Or.inr (by rw [jz_int hr]; exact h2)) ht k
end PA
/-! the script's cell -/
def sPre (G : GG) (av : List Value) (ba L : Nat) (xs : Nat → Int32) (sz : Nat) : Array Value → State → Prop := va_Pc av (fun U => U.heap.size = sz ∧ KK G U ∧ va_X ba L xs U U.heap ∧ ba < sz)
theorem sPre_blind {G : GG} {av : List Value} {ba L : Nat} {xs : Nat → Int32} {sz : Nat} : FrameBlind (sPre G av ba L xs sz) := fun a U g mk h => ⟨h.1, h.2.1, KK.same (s := U) (U := U.calling g mk a) rfl h.2.2.1, va_X.moved (u := U) (U := U.calling g mk a) (Vm.Alike.refl _) h.2.2.2.1, h.2.2.2.2⟩
abbrev noB : List va_W := []
abbrev rmL_cell : Room := { frames := 0, cells := 0, slots := 0, locals := 0 }
/-- what the law's cell answers -/
def cv (L : Nat) (xs : Nat → Int32) (k : Int) : Int := (if k < L then xs k.toNat else jz (7919 * (k + 3) * (k + 11))).toInt
theorem cv_jr (L : Nat) (xs : Nat → Int32) (k : Int) : jr (cv L xs k) := jr_as _
set_option maxHeartbeats 4000000 in
theorem mL_cell (l : Launch) (G : GG) (ba L : Nat) (xs : Nat → Int32) (k : Int) (hL : L ≤ 260) (hk : 0 ≤ k ∧ k < 1000) : ∀ sz : Nat, Met l yL_cell (wz yL_cell cL_cell 2 (some .int)) rmL_cell (sPre G [.ref ba, .int (jz k)] ba L xs sz) (cQ G (va_A noB.flatten sz) (fun _ : Unit => some (.int (jz (cv L xs k)))) (fun _ => True) (fun _ => [])) 0 0 (va_A noB.flatten sz) := by
  intro sz
  refine Met.ofW (cc := cL_cell) (maxL := 2) (ret := some .int) (by decide) rfl ?_
  intro p e s m args below meth c s₁ B hml hv
  obtain ⟨rfl, rfl, hK, hX, hbl⟩ := hv
  have hx := B.exec
  have hb := B.bytes
  have hr := B.returns
  have hS : va_S (va_A noB.flatten s.heap.size) s.heap s.heap [] := va_S.rf
  have hbA : ¬ va_A noB.flatten s.heap.size ba := fun h => by
    rcases h with ⟨j, e9, h⟩ | h
    · simp at h
    · omega
  have key : ∀ ls : Array Slot, lv_has ls 2 [(0, .ref ba), (1, .int (jz k))] → W p l e rmL_cell s m [Value.ref ba, .int (jz k)].toArray below meth c s.heap [] 0 0 (MQ below (cQ G (va_A noB.flatten s.heap.size) (fun _ : Unit => some (.int (jz (cv L xs k)))) (fun _ => True) (fun _ => [])) [Value.ref ba, .int (jz k)].toArray s 0 0 (va_A noB.flatten s.heap.size)) (F0 m 0 ls []) := by
    intro ls hl
    refine lv_iload_n hx hb dL_cell_0 rfl (lv_at hl 1 rfl) ?_
    refine lv_aload_n hx hb dL_cell_1 rfl (lv_at hl 0 rfl) ?_
    refine va_slen hx hb hX hbl hbA hS dL_cell_2 ?_
    rw [show Int32.ofNat L = jz (L : Int) from jz_nI L]
    refine jv_icmp_ge (tgt := 12) hx hb dL_cell_3 (by decide) (by omega) (by omega) (fun c9 => ?_) (fun c9 => ?_)
    · refine jv_sipush hx hb dL_cell_12 (by decide) ?_
      refine lv_iload_n hx hb dL_cell_15 rfl (lv_at hl 1 rfl) ?_
      refine jv_iconst hx hb dL_cell_16 ?_
      refine jv_iadd hx hb dL_cell_17 ?_
      refine jv_imul hx hb dL_cell_18 ?_
      refine lv_iload_n hx hb dL_cell_19 rfl (lv_at hl 1 rfl) ?_
      refine jv_bipush hx hb dL_cell_20 (by decide) ?_
      refine jv_iadd hx hb dL_cell_22 ?_
      refine jv_imul hx hb dL_cell_23 ?_
      exact cret_i (G := G) (bs := noB) hx hb hr B.notSynchronized hS (fun k q h => by simp at h) ⟨fun i j p q h => by simp at h, fun k q h => by simp at h⟩ (Nat.le_refl 0) (Nat.le_refl 0) rfl dL_cell_24 [] (by decide) () rfl trivial (congrArg (fun z : Int32 => some (Value.int z)) (by unfold cv; rw [if_neg (by omega)]; exact (jz_as _).symm)) rfl
    · refine lv_aload_n hx hb dL_cell_6 rfl (lv_at hl 0 rfl) ?_
      refine lv_iload_n hx hb dL_cell_7 rfl (lv_at hl 1 rfl) ?_
      refine va_sld hx hb hX hbl hbA hS (jz_in hk.1 c9 (by omega)) dL_cell_8 ?_
      rw [jz_clamp (by omega), show xs k.toNat = jz (cv L xs k) by unfold cv; rw [if_pos c9]; exact (jz_as _).symm]
      refine lv_goto (tgt := 24) hx hb dL_cell_9 (by decide) ?_
      exact cret_i (G := G) (bs := noB) hx hb hr B.notSynchronized hS (fun k q h => by simp at h) ⟨fun i j p q h => by simp at h, fun k q h => by simp at h⟩ (Nat.le_refl 0) (Nat.le_refl 0) rfl dL_cell_24 [] (by decide) () rfl trivial rfl rfl
  have hl := lv_entry [.ref ba, .int (jz k)] (n := 2) (Nat.le_of_ble_eq_true rfl)
  rw [lg_entry_eq]
  exact key _ hl
section PB
variable {p : Program} {l : Launch} {e : Env} {R : Room} {s : State} {m : MethodId} {args : Array Value} {below : List Frame} {meth : Method} {c : Code} {H : Heap} {locs : List Loc} {cells slots : Nat} {Q : State → Prop} {cc : ByteArray} {pc : Nat} {ls : Array Slot} {rest st0 : List Value}
variable {G : GG} {A : Nat → Prop} {bs br : List va_W}
/-- a call of it -/
theorem kSS {own : String} {index nL : Nat} {y : MethodName} {cy : ByteArray} {maxL : Nat} {ret : Option FieldType} {n : Nat} {rm : Room} {ba L : Nat} {xs : Nat → Int32} {v : Int} (F : CallFix p m c cc nL s args WA own) (hK : KK G s) (hA : ∀ q : Nat, s.heap.size ≤ q → A q) (hX : va_X ba L xs s s.heap) (hbl : ba < s.heap.size) (hbA : ¬ A ba) (hS : va_S A s.heap H locs) (hP : wP G bs H) (hD : wD A bs) (As rest : List Value)
    (hM : ∀ sz : Nat, Met l y (wz y cy maxL ret) rm (sPre G As ba L xs sz) (cQ G (va_A noB.flatten sz) (fun _ : Unit => some (.int (jz v))) (fun _ => True) (fun _ => [])) rm.cells rm.slots (va_A noB.flatten sz)) (K : LkS own index y cy maxL ret n) (isR : List Nat) (hR : isR.map (fun i => bs[i]?) = br.map some) (hn : va_nd isR = true)
    (hlen : As.length = n) (hst : st0 = As.reverse ++ rest) (hW : (rest.map fun v => v.category).sum ≤ 8) (hls : ls.size = nL) (hdg : decode cc pc = .ok (.invokestatic index, 3)) (hroom : rm.frames + 1 ≤ R.frames ∧ 8 + (maxL + 11) + rm.locals ≤ R.locals) (hf : cells + rm.cells ≤ R.cells ∧ slots + rm.slots ≤ R.slots)
    (kk : ∀ (H1 : Heap) (locs1 : List Loc), wP G (br ++ []) H1 → wD A (br ++ []) → va_S A s.heap H1 locs1 → W p l e R s m args below meth c H1 locs1 (cells + rm.cells) (slots + rm.slots) Q (F0 m (pc + 3) ls (.int (jz v) :: rest))) : W p l e R s m args below meth c H locs cells slots Q (F0 m pc ls st0) :=
  cgo (bc := noB) hS hP hD hA [] isR rfl hR hn (va_runS (As := As) (rest := rest) F (hM H.size) ⟨lk_B F.2.2.2.2 K.1 (F.2.2.2.2 _ K.2.1) hroom, F.2.2.2.2 _ K.2.2⟩ ⟨sPre_blind, fun U hU hW9 => ⟨rfl, by rw [hU], KK.warm hW9 hK, by rw [hU]; exact va_X.kept (va_X.moved hW9.alike hX) (hS.2.1 ba hbl hbA), Nat.lt_of_lt_of_le hbl hS.1⟩⟩ rfl hlen hls hst (lv_room hW) hdg hf) (fun _ H1 locs1 _ h1 h2 h3 => kk H1 locs1 h1 h2 h3)
end PB
