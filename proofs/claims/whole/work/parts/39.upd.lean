/-! How the relation moves with a write. -/
section
variable {T : ClassId × ClassId × ClassId × ClassId} {Λ Λ' : tmL} {κ : KP} {σ : ST}
theorem RC_sub (hs : ∀ (a : Nat) (e : va_E ⊕ List Nat), Λ a = some e → Λ' a = some e) (h : RC T Λ κ σ) : RC T Λ' κ σ := by
  obtain ⟨h1, ⟨h2, h3, h4, h5, h6⟩, h7, h8, h9, h10, h11, h12, h13⟩ := h
  exact ⟨hs _ _ h1, ⟨hs _ _ h2, hs _ _ h3, hs _ _ h4, hs _ _ h5, hs _ _ h6⟩, fun b hb => ⟨hs _ _ (h7 b hb).1, hs _ _ (h7 b hb).2.1, hs _ _ (h7 b hb).2.2.1, (h7 b hb).2.2.2⟩, fun p hp => hs _ _ (h8 p hp), fun d hd => hs _ _ (h9 d hd), fun k hk => hs _ _ (h10 k hk), ⟨h11.1, h11.2.1, fun i j c hi hc => hs _ _ (h11.2.2 i j c hi hc)⟩, h12, h13⟩
theorem RC_new (h : RC T Λ κ σ) {q : Nat} (hq : Λ q = none) (e : va_E) : RC T (tm_u2 Λ q e) κ σ :=
  RC_sub (fun a z ha => by rw [tm_u2_n (fun w => by rw [w, hq] at ha; cases ha)]; exact ha) h
/-- a part is left so often -/
def setL (σ : ST) (p v : Int) : ST := mkS (s_nb σ) (s_nd σ) (s_np σ) (s_sw σ) (s_jt σ) (s_nm σ) (s_wo σ) (s_fl σ) (tm_ui (s_wa σ) (4 * p + 3) v) (s_cu σ) (s_mj σ) (s_aj σ)
theorem setL_n {p v q i : Int} (hi : 0 ≤ i ∧ i < 3) : s_wa (setL σ p v) (4 * q + i) = s_wa σ (4 * q + i) := tm_ui_n (by omega)
theorem RC_left (h : RC T Λ κ σ) {p v : Int} (hp : 0 ≤ p ∧ p < s_np σ) : RC T (tm_u2 Λ (k_pa κ p) (.inr (4, [.int (I p), .int (I (s_wa σ (4 * p + 0))), .int (I (s_wa σ (4 * p + 1))), .int (I (s_wa σ (4 * p + 2))), .int (I (s_mj σ p)), .int (I v)]))) κ (setL σ p v) := by
  have hP := rc_P h p hp
  have ne : ∀ (a : Nat) (e : va_E ⊕ List Nat), Λ a = some e → (∀ fs, e ≠ .inl (.inr (4, fs))) → ∀ e9, tm_u2 Λ (k_pa κ p) e9 a = some e := by
    intro a e ha hne e9
    rw [tm_u2_n (fun z => hne _ (by rw [← z, ha] at hP; exact Option.some.inj hP))]
    exact ha
  obtain ⟨h1, ⟨h2, h3, h4, h5, h6⟩, h7, h8, h9, h10, h11, h12, h13⟩ := h
  refine ⟨ne _ _ h1 (fun fs q => by cases q) _, ⟨ne _ _ h2 (fun fs q => by cases q) _, ne _ _ h3 (fun fs q => by cases q) _, ne _ _ h4 (fun fs q => by cases q) _, ne _ _ h5 (fun fs q => by cases q) _, ne _ _ h6 (fun fs q => ai_ne q.symm) _⟩, fun b hb => ⟨ne _ _ (h7 b hb).1 (fun fs q => by cases q) _, ne _ _ (h7 b hb).2.1 (fun fs q => by cases q) _, ne _ _ (h7 b hb).2.2.1 (fun fs q => by cases q) _, Srt_cg (σ := σ) (τ := setL σ p v) rfl rfl _ _ (h7 b hb).2.2.2.1, (h7 b hb).2.2.2.2⟩, fun q hq => ?_, fun d hd => ne _ _ (h9 d hd) (fun fs q => by cases q) _, fun k hk => ne _ _ (h10 k hk) (fun fs q => by cases q) _, ⟨h11.1, h11.2.1, fun i j c hi hc => ne _ _ (h11.2.2 i j c hi hc) (fun fs q => by cases q) _⟩, ⟨h12.1, h12.2.1, fun i j a c hij ha hc => ?_⟩, h13⟩
  · show _ = some (.inl (.inr (4, [.int (I q), .int (I (s_wa (setL σ p v) (4 * q + 0))), .int (I (s_wa (setL σ p v) (4 * q + 1))), .int (I (s_wa (setL σ p v) (4 * q + 2))), .int (I (s_mj σ q)), .int (I (tm_ui (s_wa σ) (4 * p + 3) v (4 * q + 3)))])))
    rw [setL_n (by omega), setL_n (by omega), setL_n (by omega)]
    by_cases e : q = p
    · subst e; rw [tm_ui_s]; exact tm_u2_s
    · rw [tm_ui_n (by omega), tm_u2_n (fun z => e (h13.2.2.2.1 q p hq hp z))]
      exact h8 q hq
  · have h9 := h12.2.2 i j a c hij ha hc
    unfold prec at h9 ⊢
    rw [setL_n (by omega), setL_n (by omega), setL_n (by omega), setL_n (by omega)]
    exact h9
end
/-- a list that holds the pieces from a place on, by their first places -/
theorem Srt_mk {σ : ST} (hw : WF0 σ) {b : Int} : ∀ (ks : List Int) (pl : Int), (∀ k, k ∈ ks ↔ (0 ≤ k ∧ k < s_nm σ) ∧ s_cu σ (4 * k) = b ∧ pl ≤ s_cu σ (4 * k + 1)) → ks.Pairwise (fun k l => s_cu σ (4 * k + 1) < s_cu σ (4 * l + 1)) → Srt σ b ks pl := by
  have hn := wf_n hw
  intro ks
  induction ks with
  | nil =>
    intro pl hm _
    refine Or.inl ⟨rfl, fun k hk e => ?_⟩
    apply Int.lt_of_not_ge
    intro z
    have := (hm k).mpr ⟨hk, e, z⟩
    cases this
  | cons k r ih =>
    intro pl hm hs
    obtain ⟨g1, g2, g3⟩ := (hm k).mp List.mem_cons_self
    have k9 := wf_k hw k g1
    obtain ⟨hs1, hs2⟩ := List.pairwise_cons.mp hs
    refine ⟨g1.1, Or.inr ⟨g1, g2, g3, fun l hl e1 e2 => ?_⟩, ih _ (fun l => ?_) hs2⟩
    · rcases List.mem_cons.mp ((hm l).mpr ⟨hl, e1, e2⟩) with e | e
      · rw [e]; exact Int.le_refl _
      · exact Int.le_of_lt (hs1 l e)
    · constructor
      · intro hl
        obtain ⟨f1, f2, f3⟩ := (hm l).mp (List.mem_cons_of_mem _ hl)
        have f4 := hs1 l hl
        have l9 := wf_k hw l f1
        refine ⟨f1, f2, ?_⟩
        rcases Int.lt_trichotomy k l with z | z | z
        · have := wf_s hw k l (by omega) z (by omega) (by rw [g2, f2]); omega
        · subst z; omega
        · have := wf_s hw l k (by omega) z (by omega) (by rw [g2, f2]); omega
      · rintro ⟨f1, f2, f3⟩
        rcases List.mem_cons.mp ((hm l).mpr ⟨f1, f2, by omega⟩) with e | e
        · subst e; omega
        · exact e
