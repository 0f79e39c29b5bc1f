/-! ints as whole numbers: jz z is the int that holds z -/
def jz (z : Int) : Int32 := Int32.ofInt z
abbrev jr (z : Int) : Prop := -2147483648 ≤ z ∧ z < 2147483648
theorem jz_add (a b : Int) : jz a + jz b = jz (a + b) := (Int32.ofInt_add a b).symm
theorem jz_sub (a b : Int) : jz a - jz b = jz (a - b) := (Int32.ofInt_sub a b).symm
theorem jz_mul (a b : Int) : jz a * jz b = jz (a * b) := (Int32.ofInt_mul a b).symm
theorem jz_neg (a : Int) : -jz a = jz (-a) := (Int32.ofInt_neg a).symm
theorem jz_int {z : Int} (h : jr z) : (jz z).toInt = z := by
  unfold jz
  rw [Int32.toInt_ofInt]
  have e : (Int32.size : Int) = 4294967296 := rfl
  exact Int.bmod_eq_of_le (by omega) (by omega)
theorem jz_as (x : Int32) : jz x.toInt = x := Int32.ofInt_toInt x
theorem jr_as (x : Int32) : jr x.toInt := by
  have h1 := Int32.le_toInt x
  have h2 := Int32.toInt_lt x
  exact ⟨by omega, by omega⟩
theorem jz_lt {a b : Int} (ha : jr a) (hb : jr b) : jz a < jz b ↔ a < b := by rw [Int32.lt_iff_toInt_lt, jz_int ha, jz_int hb]
theorem jz_le {a b : Int} (ha : jr a) (hb : jr b) : jz a ≤ jz b ↔ a ≤ b := by rw [Int32.le_iff_toInt_le, jz_int ha, jz_int hb]
theorem jz_eq {a b : Int} (ha : jr a) (hb : jr b) : jz a = jz b ↔ a = b := by
  rw [← Int32.toInt_inj, jz_int ha, jz_int hb]
theorem jz_clamp {z : Int} (h : jr z) : (jz z).toNatClampNeg = z.toNat := by
  show (jz z).toInt.toNat = z.toNat
  rw [jz_int h]
theorem jz_in {z : Int} {n : Nat} (h0 : 0 ≤ z) (h : z < n) (hn : n < 2147483648) : vp_in (jz z) n := by
  rw [vp_in_iff, jz_int (by omega)]
  omega
theorem jz_ix {z : Int} (h0 : 0 ≤ z) : ((z.toNat : Nat) : Int) = z := Int.toNat_of_nonneg h0
theorem jz_nI (n : Nat) : nI n = jz (n : Int) := (Int32.ofInt_eq_ofNat).symm
theorem jz_div {a b : Int} (h0 : 0 ≤ a) (ha : jr a) (hb0 : 0 < b) (hb : jr b) : jz a / jz b = jz (a / b) := by
  obtain ⟨n, rfl⟩ := Int.eq_ofNat_of_zero_le h0
  obtain ⟨d, rfl⟩ := Int.eq_ofNat_of_zero_le (by omega : 0 ≤ b)
  rw [← jz_nI, ← jz_nI, pk_div (by omega) (by omega) (by omega), jz_nI]
  rfl
theorem jz_rem {a b : Int} (h0 : 0 ≤ a) (ha : jr a) (hb0 : 0 < b) (hb : jr b) : jz a - jz a / jz b * jz b = jz (a % b) := by
  rw [jz_div h0 ha hb0 hb, jz_mul, jz_sub]
  exact congrArg jz (by have := Int.mul_ediv_add_emod a b; rw [Int.mul_comm] at this; omega)
def up {α : Type} (g : Int → α) (k : Int) (v : α) : Int → α := fun j => if j = k then v else g j
theorem up_eq {α : Type} {g : Int → α} {k : Int} {v : α} : up g k v k = v := by unfold up; exact if_pos rfl
theorem up_at {α : Type} {g : Int → α} {k j : Int} {v : α} (h : j = k) : up g k v j = v := by unfold up; exact if_pos h
theorem up_ne {α : Type} {g : Int → α} {k j : Int} {v : α} (h : j ≠ k) : up g k v j = g j := by unfold up; exact if_neg h
theorem up_upd (g : Int → Int) {k : Int} (h : 0 ≤ k) (v : Int) : upd (fun j => jz (g (j : Int))) k.toNat (jz v) = fun j : Nat => jz (up g k v (j : Int)) := by
  funext j
  unfold upd up
  by_cases e : j = k.toNat
  · rw [if_pos e, if_pos (by omega)]
  · rw [if_neg e, if_neg (by omega)]
theorem up_updL (g : Int → Int64) {k : Int} (h : 0 ≤ k) (v : Int64) : vp_updL (fun j : Nat => g (j : Int)) k.toNat v = fun j : Nat => up g k v (j : Int) := by
  funext j
  unfold up vp_updL
  by_cases e : j = k.toNat
  · rw [if_pos e, if_pos (by omega)]
  · rw [if_neg e, if_neg (by omega)]
theorem up_updQ (g : Int → Option Nat) {k : Int} (h : 0 ≤ k) (v : Option Nat) : va_up (fun j : Nat => g (j : Int)) k.toNat v = fun j : Nat => up g k v (j : Int) := by
  funext j
  unfold up va_up
  by_cases e : j = k.toNat
  · rw [if_pos e, if_pos (by omega)]
  · rw [if_neg e, if_neg (by omega)]
/-! the world: what the tables say of the classes and arrays; blocks of cells -/
abbrev GG : Type := va_G × (ClassId × ClassId × ClassId × ClassId)
def K0 (G : GG) (U : State) : Prop := va_K G.1 vwCl [(G.2.1, .int), (G.2.2.1, .long), (G.2.2.2.1, .byte), (G.2.2.2.2, .object RX5)] U
abbrev ja (G : GG) (n : Nat) (g : Int → Int) : va_E := .inl (G.2.1, n, .inl (fun j => jz (g (j : Int))))
abbrev jl (G : GG) (n : Nat) (f : Int → Int64) : va_E := .inl (G.2.2.1, n, .inr (.inl (fun j => f (j : Int))))
abbrev jq (G : GG) (n : Nat) (f : Int → Option Nat) : va_E := .inl (G.2.2.2.2, n, .inr (.inr (.inr (.inr (fun j => f (j : Int))))))
abbrev wP (G : GG) (bs : List va_W) (H : Heap) : Prop := va_P G.1 vwCl bs.flatten H
abbrev wD (A : Nat → Prop) (bs : List va_W) : Prop := va_D A bs.flatten
theorem wP_mem {D : va_G} {cl : List vw_C} {ws : va_W} {H : Heap} : va_P D cl ws H ↔ ∀ q ∈ ws, va_at D cl q H := by
  constructor
  · intro h q hq
    obtain ⟨k, hk⟩ := List.getElem?_of_mem hq
    exact h k q hk
  · intro h k q hk
    exact h q (List.mem_of_getElem? hk)
theorem wD_pw {A : Nat → Prop} {ws : va_W} : va_D A ws ↔ ws.Pairwise (fun a b => a.1 ≠ b.1) ∧ ∀ q ∈ ws, A q.1 := by
  constructor
  · intro h
    refine ⟨List.pairwise_iff_getElem.mpr (fun i j hi hj hij e => ?_), fun q hq => ?_⟩
    · have := h.1 i j _ _ (List.getElem?_eq_getElem hi) (List.getElem?_eq_getElem hj) e
      omega
    · obtain ⟨k, hk⟩ := List.getElem?_of_mem hq
      exact h.2 k q hk
  · intro h
    refine ⟨fun i j a b ha hb e => ?_, fun k q hk => h.2 q (List.mem_of_getElem? hk)⟩
    obtain ⟨hi, ei⟩ := List.getElem?_eq_some_iff.mp ha
    obtain ⟨hj, ej⟩ := List.getElem?_eq_some_iff.mp hb
    have hp := List.pairwise_iff_getElem.mp h.1
    rcases Nat.lt_trichotomy i j with q | q | q
    · exact absurd (by rw [ei, ej]; exact e) (hp i j hi hj q)
    · exact q
    · exact absurd (by rw [ei, ej]; exact e.symm) (hp j i hj hi q)
theorem wsub_mem {α : Type} {bs bc : List α} {is : List Nat} (hs : is.map (fun i => bs[i]?) = bc.map some) {b : α} (hb : b ∈ bc) : ∃ i, i ∈ is ∧ bs[i]? = some b := by
  have h : some b ∈ bc.map some := List.mem_map.mpr ⟨b, hb, rfl⟩
  rw [← hs] at h
  obtain ⟨i, h1, h2⟩ := List.mem_map.mp h
  exact ⟨i, h1, h2⟩
theorem wP_sub {G : GG} {bs bc : List va_W} {H : Heap} (h : wP G bs H) (is : List Nat) (hs : is.map (fun i => bs[i]?) = bc.map some) : wP G bc H := by
  replace h := wP_mem.mp h
  refine wP_mem.mpr ?_
  intro q hq
  obtain ⟨b, hb, hqb⟩ := List.mem_flatten.mp hq
  obtain ⟨i, -, hi⟩ := wsub_mem hs hb
  exact h q (List.mem_flatten.mpr ⟨b, List.mem_of_getElem? hi, hqb⟩)
theorem wnd {is : List Nat} (h : va_nd is = true) : ∀ (i j : Nat) (hi : i < is.length) (hj : j < is.length), is[i] = is[j] → i = j := by
  induction is with
  | nil => intro i j hi; exact absurd hi (Nat.not_lt_zero i)
  | cons a t ih =>
    intro i j hi hj e
    simp only [va_nd, Bool.and_eq_true] at h
    obtain ⟨h1, h2⟩ := h
    have h3 : a ∉ t := by simpa using h1
    match i, j with
    | 0, 0 => rfl
    | 0, j + 1 => exact absurd (by have e' : a = t[j]'(by simpa using hj) := by simpa using e
                                   rw [e']; exact List.getElem_mem _) h3
    | i + 1, 0 => exact absurd (by have e' : t[i]'(by simpa using hi) = a := by simpa using e
                                   rw [← e']; exact List.getElem_mem _) h3
    | i + 1, j + 1 => exact congrArg (· + 1) (ih h2 i j (by simpa using hi) (by simpa using hj) (by simpa using e))
theorem wD_sub {A : Nat → Prop} {bs bc : List va_W} (h : wD A bs) (is : List Nat) (hn : va_nd is = true) (hs : is.map (fun i => bs[i]?) = bc.map some) : wD A bc := by
  replace h := wD_pw.mp h
  refine wD_pw.mpr ?_
  obtain ⟨hp, ha⟩ := h
  rw [List.pairwise_flatten] at hp ⊢
  refine ⟨⟨fun b hb => ?_, ?_⟩, fun q hq => ?_⟩
  · obtain ⟨i, -, hi⟩ := wsub_mem hs hb
    exact hp.1 b (List.mem_of_getElem? hi)
  · have hl : is.length = bc.length := by have := congrArg List.length hs; simpa using this
    have hx : ∀ (k : Nat) (hk : k < bc.length), bs[is[k]'(by omega)]? = some bc[k] := by
      intro k hk
      have h1 : (is.map (fun i => bs[i]?))[k]? = (bc.map some)[k]? := by rw [hs]
      rw [List.getElem?_map, List.getElem?_map, List.getElem?_eq_getElem (by omega : k < is.length), List.getElem?_eq_getElem hk] at h1
      simpa using h1
    rw [List.pairwise_iff_getElem]
    intro i j hi hj hij x hxx y hy e
    have hpp := List.pairwise_iff_getElem.mp hp.2
    obtain ⟨h1, e1⟩ := List.getElem?_eq_some_iff.mp (hx i hi)
    obtain ⟨h2, e2⟩ := List.getElem?_eq_some_iff.mp (hx j hj)
    rw [← e1] at hxx
    rw [← e2] at hy
    rcases Nat.lt_trichotomy (is[i]'(by omega)) (is[j]'(by omega)) with q | q | q
    · exact hpp _ _ h1 h2 q x hxx y hy e
    · have := wnd hn i j (by omega) (by omega) q
      omega
    · exact hpp _ _ h2 h1 q y hy x hxx e.symm
  · obtain ⟨b, hb, hqb⟩ := List.mem_flatten.mp hq
    obtain ⟨i, -, hi⟩ := wsub_mem hs hb
    exact ha q (List.mem_flatten.mpr ⟨b, List.mem_of_getElem? hi, hqb⟩)
theorem va_A_mem {ws : va_W} {sz q : Nat} : va_A ws sz q ↔ (∃ c ∈ ws, c.1 = q) ∨ sz ≤ q := by
  constructor
  · rintro (⟨k, e, hk⟩ | h)
    · exact Or.inl ⟨(q, e), List.mem_of_getElem? hk, rfl⟩
    · exact Or.inr h
  · rintro (⟨⟨q', e⟩, hm, rfl⟩ | h)
    · obtain ⟨k, hk⟩ := List.getElem?_of_mem hm
      exact Or.inl ⟨k, e, hk⟩
    · exact Or.inr h
theorem wfree {A : Nat → Prop} {bs bc : List va_W} {H0 H : Heap} {locs : List Loc} (hD : wD A bs) (hS : va_S A H0 H locs) (hA : ∀ q : Nat, H0.size ≤ q → A q) (isC : List Nat) (hC : isC.map (fun i => bs[i]?) = bc.map some) : ∀ q : Nat, va_A bc.flatten H.size q → A q := by
  intro q h
  rcases va_A_mem.mp h with ⟨c, hc, rfl⟩ | h
  · obtain ⟨b, hb, hqb⟩ := List.mem_flatten.mp hc
    obtain ⟨i, -, hi⟩ := wsub_mem hC hb
    exact (wD_pw.mp hD).2 c (List.mem_flatten.mpr ⟨b, List.mem_of_getElem? hi, hqb⟩)
  · exact hA q (Nat.le_trans hS.1 h)
theorem wjoin {A : Nat → Prop} {G : GG} {bs bc br b1 : List va_W} {H H1 : Heap} (hP : wP G bs H) (hD : wD A bs) (isC isR : List Nat) (hC : isC.map (fun i => bs[i]?) = bc.map some) (hR : isR.map (fun i => bs[i]?) = br.map some) (hn : va_nd (isC ++ isR) = true)
    (hk : ∀ q : Nat, q < H.size → ¬ va_A bc.flatten H.size q → H1[q]? = H[q]?) (hF : ∀ q : Nat, va_A bc.flatten H.size q → A q) (hP1 : wP G b1 H1) (hD1 : wD (va_A bc.flatten H.size) b1) : wP G (br ++ b1) H1 ∧ wD A (br ++ b1) := by
  have hCR : (isC ++ isR).map (fun i => bs[i]?) = (bc ++ br).map some := by rw [List.map_append, List.map_append, hC, hR]
  have hDD : wD A (bc ++ br) := wD_sub hD (isC ++ isR) hn hCR
  have hPR : wP G br H := wP_sub hP isR hR
  have e1 : (bc ++ br).flatten = bc.flatten ++ br.flatten := List.flatten_append
  have hDD2 := wD_pw.mp hDD
  rw [e1, List.pairwise_append] at hDD2
  have apart : ∀ q ∈ br.flatten, q.1 < H.size ∧ ¬ va_A bc.flatten H.size q.1 := by
    intro q hq
    have hl := (wP_mem.mp hPR q hq).lt
    refine ⟨hl, fun h => ?_⟩
    rcases va_A_mem.mp h with ⟨c, hc, e⟩ | h
    · exact hDD2.1.2.2 c hc q hq e
    · omega
  have e2 : (br ++ b1).flatten = br.flatten ++ b1.flatten := List.flatten_append
  refine ⟨?_, ?_⟩
  · show va_P G.1 vwCl (br ++ b1).flatten H1
    rw [e2, wP_mem]
    intro q hq
    rcases List.mem_append.mp hq with h | h
    · exact (wP_mem.mp hPR q h).kept (hk q.1 (apart q h).1 (apart q h).2)
    · exact wP_mem.mp hP1 q h
  · show va_D A (br ++ b1).flatten
    rw [e2, wD_pw, List.pairwise_append]
    have d1 := wD_pw.mp hD1
    refine ⟨⟨hDD2.1.2.1, d1.1, fun a ha b hb e => ?_⟩, fun q hq => ?_⟩
    · exact (apart a ha).2 (by rw [e]; exact d1.2 b hb)
    · rcases List.mem_append.mp hq with h | h
      · exact hDD2.2 q (List.mem_append_right _ h)
      · exact hF _ (d1.2 q h)
