/-! a comparison of longs and the branch behind it; the copy of a row of longs -/
section JM
variable {p : Program} {l : Launch} {e : Env} {R : Room} {s : State} {m : MethodId} {args : Array Value} {below : List Frame} {meth : Method} {c : Code} {H : Heap} {locs : List Loc} {cells slots : Nat} {Q : State → Prop} {cc : ByteArray} {pc : Nat} {ls : Array Slot} {rest : List Value}
variable {G : GG} {ws : va_W} {A : Nat → Prop} {H0 : Heap}
theorem lg_cmp_0 (x y : Int64) : lg_cmp x y = 0 ↔ x = y := by
  unfold lg_cmp
  by_cases h1 : x > y
  · rw [if_pos h1]
    constructor
    · intro h; exact absurd h (by decide)
    · intro h; subst h; exact absurd h1 (Int64.lt_irrefl)
  · rw [if_neg h1]
    by_cases h2 : x = y
    · rw [if_pos h2]; exact ⟨fun _ => h2, fun _ => rfl⟩
    · rw [if_neg h2]; exact ⟨fun h => absurd h (by decide), fun h => absurd h h2⟩
theorem jv_lcmp_eq (hx : p.tables.exec = Jvm.exec) (hb : c.code = cc) {x y : Int64} {off : Int} {tgt : Nat} (hd1 : decode cc pc = .ok (.lcmp, 1)) (hd2 : decode cc (pc + 1) = .ok (.ifCond .eq off, 3)) (ht : ((pc + 1 : Nat) : Int) + off = (tgt : Int))
    (kt : x = y → W p l e R s m args below meth c H locs cells slots Q (F0 m tgt ls rest)) (kf : ¬ x = y → W p l e R s m args below meth c H locs cells slots Q (F0 m (pc + 1 + 3) ls rest)) : W p l e R s m args below meth c H locs cells slots Q (F0 m pc ls (.long y :: .long x :: rest)) :=
  W.lcmp hx hb hd1 (lv_if_eq hx hb hd2 ht (fun h => kt ((lg_cmp_0 x y).mp h)) (fun h => kf (fun h9 => h ((lg_cmp_0 x y).mpr h9))))
theorem jv_lcmp_ne (hx : p.tables.exec = Jvm.exec) (hb : c.code = cc) {x y : Int64} {off : Int} {tgt : Nat} (hd1 : decode cc pc = .ok (.lcmp, 1)) (hd2 : decode cc (pc + 1) = .ok (.ifCond .ne off, 3)) (ht : ((pc + 1 : Nat) : Int) + off = (tgt : Int))
    (kt : ¬ x = y → W p l e R s m args below meth c H locs cells slots Q (F0 m tgt ls rest)) (kf : x = y → W p l e R s m args below meth c H locs cells slots Q (F0 m (pc + 1 + 3) ls rest)) : W p l e R s m args below meth c H locs cells slots Q (F0 m pc ls (.long y :: .long x :: rest)) :=
  W.lcmp hx hb hd1 (lv_if_ne hx hb hd2 ht (fun h => kt (fun h9 => h ((lg_cmp_0 x y).mpr h9))) (fun h => kf ((lg_cmp_0 x y).mp h)))
theorem jz_nn {z : Int} (h0 : 0 ≤ z) (h : jr z) : ¬ jz z < 0 := by
  intro h9
  have h8 : jz z < jz 0 := h9
  rw [jz_lt h (by omega)] at h8
  omega
theorem jv_copyl {own : String} {index : Nat} (hx : p.tables.exec = Jvm.exec) (hb : c.code = cc) (hml : c.maxLocals = ls.size) (hown : s.vm.findClass own = some m.cls) (hlink : (Cond.methodLink own index arraycopyName).before args s = true) (hnat : (Cond.native arraycopyName).before args s = true) (hstat : (Cond.static arraycopyName).before args s = true) (hini : (Cond.initialized "java/lang/System").before args s = true)
    (hK : K0 G s) (hP : va_P G.1 vwCl ws H) (hD : va_D A ws) (hS : va_S A H0 H locs) (q0 q1 : Nat) {a a0 : Nat} {f g : Int → Int64} (ha0 : ws[q0]? = some (a0, jl G 324 f)) (ha1 : ws[q1]? = some (a, jl G 324 g)) (hframes : 1 ≤ R.frames) (hlocals : (rest.map fun v => v.category).sum + (nativeFrameWords "java/lang/System" "arraycopy" 5 + 11) ≤ R.locals) (hdg : decode cc pc = .ok (.invokestatic index, 3))
    (kk : ∀ (g2 : Int → Int64) (H1 : Heap) (locs1 : List Loc), (∀ w : Int, 0 ≤ w → w < 324 → g2 w = f w) → va_P G.1 vwCl (ws.set q1 (a, jl G 324 g2)) H1 → va_D A (ws.set q1 (a, jl G 324 g2)) → va_S A H0 H1 locs1 → W p l e R s m args below meth c H1 locs1 cells slots Q (F0 m (pc + 3) ls rest)) : W p l e R s m args below meth c H locs cells slots Q (F0 m pc ls (.int (jz 324) :: .int (jz 0) :: .ref a :: .int (jz 0) :: .ref a0 :: rest)) := by
  have e0 : (jz 0).toNatClampNeg = 0 := jz_clamp (by omega)
  have e1 : (jz 324).toNatClampNeg = 324 := jz_clamp (by omega)
  have ef : va_cpy (fun j : Nat => f (j : Int)) (fun j : Nat => g (j : Int)) 0 0 324 = fun j : Nat => (fun w : Int => if 0 ≤ w ∧ w < 324 then f w else g w) (j : Int) := by
    funext j
    unfold va_cpy
    by_cases h : j < 324
    · rw [if_pos ⟨Nat.zero_le j, by omega⟩]
      show f ((0 + (j - 0) : Nat) : Int) = if 0 ≤ (j : Int) ∧ (j : Int) < 324 then f j else g j
      rw [if_pos ⟨by omega, by omega⟩, show 0 + (j - 0) = j by omega]
    · rw [if_neg (by omega)]
      show g j = if 0 ≤ (j : Int) ∧ (j : Int) < 324 then f j else g j
      rw [if_neg (by omega)]
  refine va_copyl hx hb hml hown hlink hnat hstat hini hK hP hD hS q0 q1 1 1 ha0 ha1 rfl rfl rfl (jz_nn (by omega) (by omega)) (jz_nn (by omega) (by omega)) (jz_nn (by omega) (by omega)) (by rw [e0, e1]; omega) (by rw [e0, e1]; omega) (fun i _ => rfl) hframes hlocals hdg ?_
  rw [e0, e1, ef]
  exact fun H1 locs1 h1 h2 h3 => kk (fun w => if 0 ≤ w ∧ w < 324 then f w else g w) H1 locs1 (fun w p1 p2 => if_pos ⟨p1, p2⟩) h1 h2 h3
end JM
