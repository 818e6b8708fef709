/-! A cut only takes room away. -/
theorem Poss_less {σ : ST} {p q ln b pl : Int} : Poss (less σ p) q ln b pl ↔ Poss σ q ln b pl := by
  have e1 : s_wa (less σ p) (4 * q + 1) = s_wa σ (4 * q + 1) := tm_ui_n (by omega)
  have e2 : s_wa (less σ p) (4 * q + 2) = s_wa σ (4 * q + 2) := tm_ui_n (by omega)
  unfold Poss
  rw [e1, e2]
  exact Iff.rfl
theorem Poss_add {σ : ST} (hw : WF0 σ) {p b pl ln j q l2 c p2 : Int} (h : Poss (addC σ p b pl ln j) q l2 c p2) : Poss σ q l2 c p2 := by
  obtain ⟨h1, h2, h3, h4, h5, h6⟩ := h
  refine ⟨h1, h2, h3, h4, h5, fun k hk e1 e2 => ?_⟩
  have h7 := h6 k (show 0 ≤ k ∧ k < s_nm σ + 1 by omega)
  rw [addC_old (by omega), addC_old (by omega), addC_old (by omega)] at h7
  exact h7 e1 e2
theorem canP_mono {σ : ST} (hw : WF0 σ) {p b pl q : Int} (h : canP (cutS σ p b pl) q) : canP σ q := by
  obtain ⟨h1, h2, c, x, h3, h4⟩ := h
  have e0 : s_wa (cutS σ p b pl) (4 * q + 0) = s_wa σ (4 * q + 0) := tm_ui_n (by omega)
  rw [e0] at h4
  refine ⟨h1, ?_, c, x, h3, Poss_add hw (Poss_less.mp h4)⟩
  have h5 : 0 < tm_ui (s_wa σ) (4 * p + 3) (s_wa σ (4 * p + 3) - 1) (4 * q + 3) := h2
  by_cases e : q = p
  · subst e; rw [tm_ui_s] at h5; omega
  · rw [tm_ui_n (by omega)] at h5; exact h5
theorem prec_cut {σ : ST} {p b pl q r : Int} : prec (cutS σ p b pl) q r ↔ prec σ q r := by
  have e0 : ∀ z : Int, s_wa (cutS σ p b pl) (4 * z + 0) = s_wa σ (4 * z + 0) := fun z => tm_ui_n (by omega)
  have e2 : ∀ z : Int, s_wa (cutS σ p b pl) (4 * z + 2) = s_wa σ (4 * z + 2) := fun z => tm_ui_n (by omega)
  unfold prec
  rw [e0, e0, e2, e2]
