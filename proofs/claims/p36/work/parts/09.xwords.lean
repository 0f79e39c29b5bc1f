theorem xa_107 : ∀ w ∈ vx_atS RX8 107 "java/lang/IndexOutOfBoundsException" ["java/lang/RuntimeException", "java/lang/Exception"], w ∈ WA ∨ w ∈ WB := by
  have h : ∀ w ∈ vx_atS RX8 107 "java/lang/IndexOutOfBoundsException" ["java/lang/RuntimeException", "java/lang/Exception"], w ∈ lw_tbl ∧ (goodWord w || w_face w) = true := by decide +kernel
  intro w hw
  obtain ⟨h1, h2⟩ := h w hw
  rcases (Bool.or_eq_true _ _).mp h2 with h3 | h3
  · exact Or.inl (List.mem_filter.mpr ⟨h1, h3⟩)
  · exact Or.inr (List.mem_filter.mpr ⟨h1, h3⟩)
theorem xg_107 : ∀ w ∈ Cond.classLink RX8 103 "java/lang/IndexOutOfBoundsException" :: Cond.initialized "java/lang/IndexOutOfBoundsException" :: vx_atS RX8 107 "java/lang/IndexOutOfBoundsException" ["java/lang/RuntimeException", "java/lang/Exception"], vx_ot w = true := by decide +kernel
theorem xa_116 : ∀ w ∈ vx_atS RX8 116 "java/lang/IllegalStateException" ["java/lang/RuntimeException", "java/lang/Exception"], w ∈ WA ∨ w ∈ WB := by
  have h : ∀ w ∈ vx_atS RX8 116 "java/lang/IllegalStateException" ["java/lang/RuntimeException", "java/lang/Exception"], w ∈ lw_tbl ∧ (goodWord w || w_face w) = true := by decide +kernel
  intro w hw
  obtain ⟨h1, h2⟩ := h w hw
  rcases (Bool.or_eq_true _ _).mp h2 with h3 | h3
  · exact Or.inl (List.mem_filter.mpr ⟨h1, h3⟩)
  · exact Or.inr (List.mem_filter.mpr ⟨h1, h3⟩)
theorem xg_116 : ∀ w ∈ Cond.classLink RX8 112 "java/lang/IllegalStateException" :: Cond.initialized "java/lang/IllegalStateException" :: vx_atS RX8 116 "java/lang/IllegalStateException" ["java/lang/RuntimeException", "java/lang/Exception"], vx_ot w = true := by decide +kernel
theorem xa_80 : ∀ w ∈ vx_atS RX8 80 "java/lang/IllegalArgumentException" ["java/lang/RuntimeException", "java/lang/Exception"], w ∈ WA ∨ w ∈ WB := by
  have h : ∀ w ∈ vx_atS RX8 80 "java/lang/IllegalArgumentException" ["java/lang/RuntimeException", "java/lang/Exception"], w ∈ lw_tbl ∧ (goodWord w || w_face w) = true := by decide +kernel
  intro w hw
  obtain ⟨h1, h2⟩ := h w hw
  rcases (Bool.or_eq_true _ _).mp h2 with h3 | h3
  · exact Or.inl (List.mem_filter.mpr ⟨h1, h3⟩)
  · exact Or.inr (List.mem_filter.mpr ⟨h1, h3⟩)
theorem xg_80 : ∀ w ∈ Cond.classLink RX8 76 "java/lang/IllegalArgumentException" :: Cond.initialized "java/lang/IllegalArgumentException" :: vx_atS RX8 80 "java/lang/IllegalArgumentException" ["java/lang/RuntimeException", "java/lang/Exception"], vx_ot w = true := by decide +kernel
