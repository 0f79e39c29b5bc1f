/-! rows of instructions over whole numbers -/
section JV
variable {p : Program} {l : Launch} {e : Env} {R : Room} {s : State} {m : MethodId} {args : Array Value} {below : List Frame} {meth : Method} {c : Code} {H : Heap} {locs : List Loc} {cells slots : Nat} {Q : State → Prop} {cc : ByteArray} {pc : Nat} {ls : Array Slot} {rest : List Value}
theorem jv_iconst (hexec : p.tables.exec = Jvm.exec) (hb : c.code = cc) {n : Int} (hdg : decode cc pc = .ok (.iconst n, 1))
    (k : W p l e R s m args below meth c H locs cells slots Q (F0 m (pc + 1) ls (.int (jz n) :: rest))) : W p l e R s m args below meth c H locs cells slots Q (F0 m pc ls (rest)) := lv_iconst hexec hb hdg rfl k
theorem jv_bipush (hexec : p.tables.exec = Jvm.exec) (hb : c.code = cc) {n : Int} (hdg : decode cc pc = .ok (.bipush n, 2)) (hv : (Int8.ofInt n).toInt32 = jz n)
    (k : W p l e R s m args below meth c H locs cells slots Q (F0 m (pc + 2) ls (.int (jz n) :: rest))) : W p l e R s m args below meth c H locs cells slots Q (F0 m pc ls (rest)) := lv_bipush hexec hb hdg hv k
theorem jv_sipush (hexec : p.tables.exec = Jvm.exec) (hb : c.code = cc) {n : Int} (hdg : decode cc pc = .ok (.sipush n, 3)) (hv : (Int16.ofInt n).toInt32 = jz n)
    (k : W p l e R s m args below meth c H locs cells slots Q (F0 m (pc + 3) ls (.int (jz n) :: rest))) : W p l e R s m args below meth c H locs cells slots Q (F0 m pc ls (rest)) := lv_sipush hexec hb hdg hv k
theorem jv_iadd (hexec : p.tables.exec = Jvm.exec) (hb : c.code = cc) {x y : Int} (hdg : decode cc pc = .ok (.iadd, 1))
    (k : W p l e R s m args below meth c H locs cells slots Q (F0 m (pc + 1) ls (.int (jz (x + y)) :: rest))) : W p l e R s m args below meth c H locs cells slots Q (F0 m pc ls (.int (jz y) :: .int (jz x) :: rest)) := lv_iadd hexec hb hdg (by rw [jz_add]; exact k)
theorem jv_isub (hexec : p.tables.exec = Jvm.exec) (hb : c.code = cc) {x y : Int} (hdg : decode cc pc = .ok (.isub, 1))
    (k : W p l e R s m args below meth c H locs cells slots Q (F0 m (pc + 1) ls (.int (jz (x - y)) :: rest))) : W p l e R s m args below meth c H locs cells slots Q (F0 m pc ls (.int (jz y) :: .int (jz x) :: rest)) := lv_isub hexec hb hdg (by rw [jz_sub]; exact k)
theorem jv_imul (hexec : p.tables.exec = Jvm.exec) (hb : c.code = cc) {x y : Int} (hdg : decode cc pc = .ok (.imul, 1))
    (k : W p l e R s m args below meth c H locs cells slots Q (F0 m (pc + 1) ls (.int (jz (x * y)) :: rest))) : W p l e R s m args below meth c H locs cells slots Q (F0 m pc ls (.int (jz y) :: .int (jz x) :: rest)) := lv_imul hexec hb hdg (by rw [jz_mul]; exact k)
theorem jv_ineg (hexec : p.tables.exec = Jvm.exec) (hb : c.code = cc) {x : Int} (hdg : decode cc pc = .ok (.ineg, 1))
    (k : W p l e R s m args below meth c H locs cells slots Q (F0 m (pc + 1) ls (.int (jz (-x)) :: rest))) : W p l e R s m args below meth c H locs cells slots Q (F0 m pc ls (.int (jz x) :: rest)) := lv_ineg hexec hb hdg (by rw [jz_neg]; exact k)
theorem jz_ne0 {y : Int} (h : 0 < y) (hr : jr y) : ¬ jz y = 0 := fun h9 => by
  have h8 : jz y = jz 0 := h9
  rw [jz_eq hr (by omega)] at h8
  omega
theorem jv_idiv (hexec : p.tables.exec = Jvm.exec) (hb : c.code = cc) {x y : Int} (hdg : decode cc pc = .ok (.idiv, 1)) (h0 : 0 ≤ x) (hx : jr x) (h1 : 0 < y) (hy : jr y)
    (k : W p l e R s m args below meth c H locs cells slots Q (F0 m (pc + 1) ls (.int (jz (x / y)) :: rest))) : W p l e R s m args below meth c H locs cells slots Q (F0 m pc ls (.int (jz y) :: .int (jz x) :: rest)) := lv_idiv hexec hb hdg (jz_ne0 h1 hy) (by rw [jz_div h0 hx h1 hy]; exact k)
theorem jv_irem (hexec : p.tables.exec = Jvm.exec) (hb : c.code = cc) {x y : Int} (hdg : decode cc pc = .ok (.irem, 1)) (h0 : 0 ≤ x) (hx : jr x) (h1 : 0 < y) (hy : jr y)
    (k : W p l e R s m args below meth c H locs cells slots Q (F0 m (pc + 1) ls (.int (jz (x % y)) :: rest))) : W p l e R s m args below meth c H locs cells slots Q (F0 m pc ls (.int (jz y) :: .int (jz x) :: rest)) := lv_irem hexec hb hdg (jz_ne0 h1 hy) (by rw [jz_rem h0 hx h1 hy]; exact k)
theorem jv_icmp_eq (hexec : p.tables.exec = Jvm.exec) (hb : c.code = cc) {x y : Int} {off : Int} {tgt : Nat} (hdg : decode cc pc = .ok (.if_icmp .eq off, 3)) (ht : (pc : Int) + off = (tgt : Int)) (hx : jr x) (hy : jr y)
    (kt : x = y → W p l e R s m args below meth c H locs cells slots Q (F0 m tgt ls (rest))) (kf : x ≠ y → W p l e R s m args below meth c H locs cells slots Q (F0 m (pc + 3) ls (rest))) : W p l e R s m args below meth c H locs cells slots Q (F0 m pc ls (.int (jz y) :: .int (jz x) :: rest)) := lv_icmp_eq hexec hb hdg ht (fun h => (kt ((jz_eq hx hy).mp h))) (fun h => (kf (fun h9 => h ((jz_eq hx hy).mpr h9))))
theorem jv_if_eq (hexec : p.tables.exec = Jvm.exec) (hb : c.code = cc) {x : Int} {off : Int} {tgt : Nat} (hdg : decode cc pc = .ok (.ifCond .eq off, 3)) (ht : (pc : Int) + off = (tgt : Int)) (hx : jr x)
    (kt : x = 0 → W p l e R s m args below meth c H locs cells slots Q (F0 m tgt ls (rest))) (kf : x ≠ 0 → W p l e R s m args below meth c H locs cells slots Q (F0 m (pc + 3) ls (rest))) : W p l e R s m args below meth c H locs cells slots Q (F0 m pc ls (.int (jz x) :: rest)) := have hy : jr 0 := by omega
  lv_if_eq hexec hb hdg ht (fun h => (kt ((jz_eq hx hy).mp h))) (fun h => (kf (fun h9 => h ((jz_eq hx hy).mpr h9))))
theorem jv_icmp_ne (hexec : p.tables.exec = Jvm.exec) (hb : c.code = cc) {x y : Int} {off : Int} {tgt : Nat} (hdg : decode cc pc = .ok (.if_icmp .ne off, 3)) (ht : (pc : Int) + off = (tgt : Int)) (hx : jr x) (hy : jr y)
    (kt : x ≠ y → W p l e R s m args below meth c H locs cells slots Q (F0 m tgt ls (rest))) (kf : x = y → W p l e R s m args below meth c H locs cells slots Q (F0 m (pc + 3) ls (rest))) : W p l e R s m args below meth c H locs cells slots Q (F0 m pc ls (.int (jz y) :: .int (jz x) :: rest)) := lv_icmp_ne hexec hb hdg ht (fun h => (kt (fun h9 => h ((jz_eq hx hy).mpr h9)))) (fun h => (kf ((jz_eq hx hy).mp h)))
theorem jv_if_ne (hexec : p.tables.exec = Jvm.exec) (hb : c.code = cc) {x : Int} {off : Int} {tgt : Nat} (hdg : decode cc pc = .ok (.ifCond .ne off, 3)) (ht : (pc : Int) + off = (tgt : Int)) (hx : jr x)
    (kt : x ≠ 0 → W p l e R s m args below meth c H locs cells slots Q (F0 m tgt ls (rest))) (kf : x = 0 → W p l e R s m args below meth c H locs cells slots Q (F0 m (pc + 3) ls (rest))) : W p l e R s m args below meth c H locs cells slots Q (F0 m pc ls (.int (jz x) :: rest)) := have hy : jr 0 := by omega
  lv_if_ne hexec hb hdg ht (fun h => (kt (fun h9 => h ((jz_eq hx hy).mpr h9)))) (fun h => (kf ((jz_eq hx hy).mp h)))
theorem jv_icmp_lt (hexec : p.tables.exec = Jvm.exec) (hb : c.code = cc) {x y : Int} {off : Int} {tgt : Nat} (hdg : decode cc pc = .ok (.if_icmp .lt off, 3)) (ht : (pc : Int) + off = (tgt : Int)) (hx : jr x) (hy : jr y)
    (kt : x < y → W p l e R s m args below meth c H locs cells slots Q (F0 m tgt ls (rest))) (kf : y ≤ x → W p l e R s m args below meth c H locs cells slots Q (F0 m (pc + 3) ls (rest))) : W p l e R s m args below meth c H locs cells slots Q (F0 m pc ls (.int (jz y) :: .int (jz x) :: rest)) := lv_icmp_lt hexec hb hdg ht (fun h => (kt ((jz_lt hx hy).mp h))) (fun h => (kf (Int.not_lt.mp (fun h9 => h ((jz_lt hx hy).mpr h9)))))
theorem jv_if_lt (hexec : p.tables.exec = Jvm.exec) (hb : c.code = cc) {x : Int} {off : Int} {tgt : Nat} (hdg : decode cc pc = .ok (.ifCond .lt off, 3)) (ht : (pc : Int) + off = (tgt : Int)) (hx : jr x)
    (kt : x < 0 → W p l e R s m args below meth c H locs cells slots Q (F0 m tgt ls (rest))) (kf : 0 ≤ x → W p l e R s m args below meth c H locs cells slots Q (F0 m (pc + 3) ls (rest))) : W p l e R s m args below meth c H locs cells slots Q (F0 m pc ls (.int (jz x) :: rest)) := have hy : jr 0 := by omega
  lv_if_lt hexec hb hdg ht (fun h => (kt ((jz_lt hx hy).mp h))) (fun h => (kf (Int.not_lt.mp (fun h9 => h ((jz_lt hx hy).mpr h9)))))
theorem jv_icmp_ge (hexec : p.tables.exec = Jvm.exec) (hb : c.code = cc) {x y : Int} {off : Int} {tgt : Nat} (hdg : decode cc pc = .ok (.if_icmp .ge off, 3)) (ht : (pc : Int) + off = (tgt : Int)) (hx : jr x) (hy : jr y)
    (kt : y ≤ x → W p l e R s m args below meth c H locs cells slots Q (F0 m tgt ls (rest))) (kf : x < y → W p l e R s m args below meth c H locs cells slots Q (F0 m (pc + 3) ls (rest))) : W p l e R s m args below meth c H locs cells slots Q (F0 m pc ls (.int (jz y) :: .int (jz x) :: rest)) := lv_icmp_ge hexec hb hdg ht (fun h => (kt ((jz_le hy hx).mp h))) (fun h => (kf (Int.not_le.mp (fun h9 => h ((jz_le hy hx).mpr h9)))))
theorem jv_if_ge (hexec : p.tables.exec = Jvm.exec) (hb : c.code = cc) {x : Int} {off : Int} {tgt : Nat} (hdg : decode cc pc = .ok (.ifCond .ge off, 3)) (ht : (pc : Int) + off = (tgt : Int)) (hx : jr x)
    (kt : 0 ≤ x → W p l e R s m args below meth c H locs cells slots Q (F0 m tgt ls (rest))) (kf : x < 0 → W p l e R s m args below meth c H locs cells slots Q (F0 m (pc + 3) ls (rest))) : W p l e R s m args below meth c H locs cells slots Q (F0 m pc ls (.int (jz x) :: rest)) := have hy : jr 0 := by omega
  lv_if_ge hexec hb hdg ht (fun h => (kt ((jz_le hy hx).mp h))) (fun h => (kf (Int.not_le.mp (fun h9 => h ((jz_le hy hx).mpr h9)))))
theorem jv_icmp_gt (hexec : p.tables.exec = Jvm.exec) (hb : c.code = cc) {x y : Int} {off : Int} {tgt : Nat} (hdg : decode cc pc = .ok (.if_icmp .gt off, 3)) (ht : (pc : Int) + off = (tgt : Int)) (hx : jr x) (hy : jr y)
    (kt : y < x → W p l e R s m args below meth c H locs cells slots Q (F0 m tgt ls (rest))) (kf : x ≤ y → W p l e R s m args below meth c H locs cells slots Q (F0 m (pc + 3) ls (rest))) : W p l e R s m args below meth c H locs cells slots Q (F0 m pc ls (.int (jz y) :: .int (jz x) :: rest)) := lv_icmp_gt hexec hb hdg ht (fun h => (kt ((jz_lt hy hx).mp h))) (fun h => (kf (Int.not_lt.mp (fun h9 => h ((jz_lt hy hx).mpr h9)))))
theorem jv_if_gt (hexec : p.tables.exec = Jvm.exec) (hb : c.code = cc) {x : Int} {off : Int} {tgt : Nat} (hdg : decode cc pc = .ok (.ifCond .gt off, 3)) (ht : (pc : Int) + off = (tgt : Int)) (hx : jr x)
    (kt : 0 < x → W p l e R s m args below meth c H locs cells slots Q (F0 m tgt ls (rest))) (kf : x ≤ 0 → W p l e R s m args below meth c H locs cells slots Q (F0 m (pc + 3) ls (rest))) : W p l e R s m args below meth c H locs cells slots Q (F0 m pc ls (.int (jz x) :: rest)) := have hy : jr 0 := by omega
  lv_if_gt hexec hb hdg ht (fun h => (kt ((jz_lt hy hx).mp h))) (fun h => (kf (Int.not_lt.mp (fun h9 => h ((jz_lt hy hx).mpr h9)))))
theorem jv_icmp_le (hexec : p.tables.exec = Jvm.exec) (hb : c.code = cc) {x y : Int} {off : Int} {tgt : Nat} (hdg : decode cc pc = .ok (.if_icmp .le off, 3)) (ht : (pc : Int) + off = (tgt : Int)) (hx : jr x) (hy : jr y)
    (kt : x ≤ y → W p l e R s m args below meth c H locs cells slots Q (F0 m tgt ls (rest))) (kf : y < x → W p l e R s m args below meth c H locs cells slots Q (F0 m (pc + 3) ls (rest))) : W p l e R s m args below meth c H locs cells slots Q (F0 m pc ls (.int (jz y) :: .int (jz x) :: rest)) := lv_icmp_le hexec hb hdg ht (fun h => (kt ((jz_le hx hy).mp h))) (fun h => (kf (Int.not_le.mp (fun h9 => h ((jz_le hx hy).mpr h9)))))
theorem jv_if_le (hexec : p.tables.exec = Jvm.exec) (hb : c.code = cc) {x : Int} {off : Int} {tgt : Nat} (hdg : decode cc pc = .ok (.ifCond .le off, 3)) (ht : (pc : Int) + off = (tgt : Int)) (hx : jr x)
    (kt : x ≤ 0 → W p l e R s m args below meth c H locs cells slots Q (F0 m tgt ls (rest))) (kf : 0 < x → W p l e R s m args below meth c H locs cells slots Q (F0 m (pc + 3) ls (rest))) : W p l e R s m args below meth c H locs cells slots Q (F0 m pc ls (.int (jz x) :: rest)) := have hy : jr 0 := by omega
  lv_if_le hexec hb hdg ht (fun h => (kt ((jz_le hx hy).mp h))) (fun h => (kf (Int.not_le.mp (fun h9 => h ((jz_le hx hy).mpr h9)))))
theorem jv_iinc (hexec : p.tables.exec = Jvm.exec) (hb : c.code = cc) {i nL k : Nat} {n : Int} {x : Int} {lv lv' : List (Nat × Value)} (hdg : decode cc pc = .ok (.iinc i n, 3)) (h : lv_has ls nL lv) (hk : lv[k]? = some (i, .int (jz x))) (hn : i < nL) (hl : (i, Value.int (jz (x + n))) :: lv.filter (fun q => !(q.1 == i) && !(q.1 + 1 == i && q.2.category == 2)) = lv')
    (kk : ∀ ls' : Array Slot, lv_has ls' nL lv' → W p l e R s m args below meth c H locs cells slots Q (F0 m (pc + 3) ls' rest)) : W p l e R s m args below meth c H locs cells slots Q (F0 m pc ls (rest)) := lv_iinc hexec hb hdg h hk (by rw [← jz_add]; rfl) hn hl kk
theorem jv_max (hexec : p.tables.exec = Jvm.exec) (hb : c.code = cc) (hml : c.maxLocals = ls.size) {own : String} {index : Nat} (hown : s.vm.findClass own = some m.cls) (hlink : (Cond.methodLink own index Lib.Math.max.name).before args s = true) (hstat : (Cond.static Lib.Math.max.name).before args s = true) (hini : (Cond.initialized "java/lang/Math").before args s = true) (hcode : (Cond.code Lib.Math.max.name Lib.Math.max.code 2 (some .int)).before args s = true) (hframes : 1 ≤ R.frames) (hlocals : (rest.map fun v => v.category).sum + 13 ≤ R.locals) (hc : cells ≤ R.cells) (hs : slots ≤ R.slots) {x y : Int} (hx : jr x) (hy : jr y) (hdg : decode cc pc = .ok (.invokestatic index, 3))
    (k : W p l e R s m args below meth c H locs cells slots Q (F0 m (pc + 3) ls (.int (jz (max x y)) :: rest))) : W p l e R s m args below meth c H locs cells slots Q (F0 m pc ls (.int (jz y) :: .int (jz x) :: rest)) := by
  refine va_mmax hexec hb hml hown hlink hstat hini hcode hframes hlocals hc hs hdg ?_
  have e : (if jz x < jz y then jz y else jz x) = jz (max x y) := by
    split
    · rename_i h9
      have h8 := (jz_lt hx hy).mp h9
      exact congrArg jz (by omega)
    · rename_i h9
      have h8 : ¬ x < y := fun q => h9 ((jz_lt hx hy).mpr q)
      exact congrArg jz (by omega)
  first | (rw [e]; exact k) | (simp only [e]; exact k)
theorem jv_min (hexec : p.tables.exec = Jvm.exec) (hb : c.code = cc) (hml : c.maxLocals = ls.size) {own : String} {index : Nat} (hown : s.vm.findClass own = some m.cls) (hlink : (Cond.methodLink own index Lib.Math.min.name).before args s = true) (hstat : (Cond.static Lib.Math.min.name).before args s = true) (hini : (Cond.initialized "java/lang/Math").before args s = true) (hcode : (Cond.code Lib.Math.min.name Lib.Math.min.code 2 (some .int)).before args s = true) (hframes : 1 ≤ R.frames) (hlocals : (rest.map fun v => v.category).sum + 13 ≤ R.locals) (hc : cells ≤ R.cells) (hs : slots ≤ R.slots) {x y : Int} (hx : jr x) (hy : jr y) (hdg : decode cc pc = .ok (.invokestatic index, 3))
    (k : W p l e R s m args below meth c H locs cells slots Q (F0 m (pc + 3) ls (.int (jz (min x y)) :: rest))) : W p l e R s m args below meth c H locs cells slots Q (F0 m pc ls (.int (jz y) :: .int (jz x) :: rest)) := by
  refine va_mmin hexec hb hml hown hlink hstat hini hcode hframes hlocals hc hs hdg ?_
  have e : (if jz y < jz x then jz y else jz x) = jz (min x y) := by
    split
    · rename_i h9
      have h8 := (jz_lt hy hx).mp h9
      exact congrArg jz (by omega)
    · rename_i h9
      have h8 : ¬ y < x := fun q => h9 ((jz_lt hy hx).mpr q)
      exact congrArg jz (by omega)
  first | (rw [e]; exact k) | (simp only [e]; exact k)
variable {G : GG} {ws : va_W} {A : Nat → Prop} {H0 : Heap} {a n : Nat}
theorem jv_iald (hexec : p.tables.exec = Jvm.exec) (hb : c.code = cc) (hK : K0 G s) (hP : va_P G.1 vwCl ws H) (q0 : Nat) {g : Int → Int} (ha : ws[q0]? = some (a, ja G n g)) {z : Int} (h0 : 0 ≤ z) (h1 : z < n) (hn : n < 2147483648) (hdg : decode cc pc = .ok (.iaload, 1))
    (kk : W p l e R s m args below meth c H locs cells slots Q (F0 m (pc + 1) ls (.int (jz (g z)) :: rest))) : W p l e R s m args below meth c H locs cells slots Q (F0 m pc ls (.int (jz z) :: .ref a :: rest)) := va_iald hexec hb hK hP q0 0 ha rfl (jz_in h0 h1 hn) hdg (by rw [jz_clamp (by omega), jz_ix h0]; exact kk)
theorem jv_lald (hexec : p.tables.exec = Jvm.exec) (hb : c.code = cc) (hK : K0 G s) (hP : va_P G.1 vwCl ws H) (q0 : Nat) {g : Int → Int64} (ha : ws[q0]? = some (a, jl G n g)) {z : Int} (h0 : 0 ≤ z) (h1 : z < n) (hn : n < 2147483648) (hdg : decode cc pc = .ok (.laload, 1))
    (kk : W p l e R s m args below meth c H locs cells slots Q (F0 m (pc + 1) ls (.long (g z) :: rest))) : W p l e R s m args below meth c H locs cells slots Q (F0 m pc ls (.int (jz z) :: .ref a :: rest)) := va_lald hexec hb hK hP q0 1 ha rfl (jz_in h0 h1 hn) hdg (by rw [jz_clamp (by omega), jz_ix h0]; exact kk)
theorem jv_qald (hexec : p.tables.exec = Jvm.exec) (hb : c.code = cc) (hK : K0 G s) (hP : va_P G.1 vwCl ws H) (q0 : Nat) {g : Int → Option Nat} (ha : ws[q0]? = some (a, jq G n g)) {z : Int} (h0 : 0 ≤ z) (h1 : z < n) (hn : n < 2147483648) (hdg : decode cc pc = .ok (.aaload, 1))
    (kk : W p l e R s m args below meth c H locs cells slots Q (F0 m (pc + 1) ls (va_rf (g z) :: rest))) : W p l e R s m args below meth c H locs cells slots Q (F0 m pc ls (.int (jz z) :: .ref a :: rest)) := va_aldq hexec hb hK hP q0 3 ha rfl (jz_in h0 h1 hn) hdg (by rw [jz_clamp (by omega), jz_ix h0]; exact kk)
theorem jv_iast (hexec : p.tables.exec = Jvm.exec) (hb : c.code = cc) (hK : K0 G s) (hP : va_P G.1 vwCl ws H) (hD : va_D A ws) (hS : va_S A H0 H locs) (q0 : Nat) {g : Int → Int} (ha : ws[q0]? = some (a, ja G n g)) {z v : Int} (h0 : 0 ≤ z) (h1 : z < n) (hn : n < 2147483648) (hdg : decode cc pc = .ok (.iastore, 1))
    (kk : ∀ (H1 : Heap) (locs1 : List Loc), va_P G.1 vwCl (ws.set q0 (a, ja G n (up g z v))) H1 → va_D A (ws.set q0 (a, ja G n (up g z v))) → va_S A H0 H1 locs1 → W p l e R s m args below meth c H1 locs1 cells slots Q (F0 m (pc + 1) ls rest)) : W p l e R s m args below meth c H locs cells slots Q (F0 m pc ls (.int (jz v) :: .int (jz z) :: .ref a :: rest)) := va_iast hexec hb hK hP hD hS q0 0 ha rfl (jz_in h0 h1 hn) hdg (by rw [jz_clamp (by omega), up_upd g h0]; exact kk)
theorem jv_last (hexec : p.tables.exec = Jvm.exec) (hb : c.code = cc) (hK : K0 G s) (hP : va_P G.1 vwCl ws H) (hD : va_D A ws) (hS : va_S A H0 H locs) (q0 : Nat) {g : Int → Int64} {v : Int64} (ha : ws[q0]? = some (a, jl G n g)) {z : Int} (h0 : 0 ≤ z) (h1 : z < n) (hn : n < 2147483648) (hdg : decode cc pc = .ok (.lastore, 1))
    (kk : ∀ (H1 : Heap) (locs1 : List Loc), va_P G.1 vwCl (ws.set q0 (a, jl G n (up g z v))) H1 → va_D A (ws.set q0 (a, jl G n (up g z v))) → va_S A H0 H1 locs1 → W p l e R s m args below meth c H1 locs1 cells slots Q (F0 m (pc + 1) ls rest)) : W p l e R s m args below meth c H locs cells slots Q (F0 m pc ls (.long v :: .int (jz z) :: .ref a :: rest)) := va_last hexec hb hK hP hD hS q0 1 ha rfl (jz_in h0 h1 hn) hdg (by rw [jz_clamp (by omega), up_updL g h0]; exact kk)
theorem jv_top {z : Int} (k : ∀ y : Int, y = z → W p l e R s m args below meth c H locs cells slots Q (F0 m pc ls (.int (jz y) :: rest))) : W p l e R s m args below meth c H locs cells slots Q (F0 m pc ls (.int (jz z) :: rest)) := k z rfl
theorem jv_topl {z : Int64} (k : ∀ y : Int64, y = z → W p l e R s m args below meth c H locs cells slots Q (F0 m pc ls (.long y :: rest))) : W p l e R s m args below meth c H locs cells slots Q (F0 m pc ls (.long z :: rest)) := k z rfl
end JV
