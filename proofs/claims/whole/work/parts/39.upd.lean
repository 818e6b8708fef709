/-! How the relation moves with a write. -/
section
variable {T : ClassId × ClassId × ClassId × ClassId} {Λ Λ' : tmL} {κ : KP} {σ : ST}
theorem RC_sub (hs : ∀ (a : Nat) (e : va_E ⊕ List Nat), Λ a = some e → Λ' a = some e) (h : RC T Λ κ σ) : RC T Λ' κ σ := by
  obtain ⟨h1, ⟨h2, h3, h4, h5, h6⟩, h7, h8, h9, h10, h11, h12, h13⟩ := h
  exact ⟨hs _ _ h1, ⟨hs _ _ h2, hs _ _ h3, hs _ _ h4, hs _ _ h5, hs _ _ h6⟩, fun b hb => ⟨hs _ _ (h7 b hb).1, hs _ _ (h7 b hb).2.1, hs _ _ (h7 b hb).2.2.1, (h7 b hb).2.2.2⟩, fun p hp => hs _ _ (h8 p hp), fun d hd => hs _ _ (h9 d hd), fun k hk => hs _ _ (h10 k hk), ⟨h11.1, h11.2.1, fun i j c hi hc => hs _ _ (h11.2.2 i j c hi hc)⟩, h12, h13⟩
theorem RC_new (h : RC T Λ κ σ) {q : Nat} (hq : Λ q = none) (e : va_E) : RC T (tm_u2 Λ q e) κ σ :=
  RC_sub (fun a z ha => by rw [tm_u2_n (fun w => by rw [w, hq] at ha; cases ha)]; exact ha) h
/-- a part is left so often -/
def setL (σ : ST) (p v : Int) : ST := mkS (s_nb σ) (s_nd σ) (s_np σ) (s_sw σ) (s_jt σ) (s_nm σ) (s_wo σ) (s_fl σ) (tm_ui (s_wa σ) (4 * p + 3) v) (s_cu σ) (s_mj σ) (s_aj σ)
theorem setL_n {p v q i : Int} (hi : 0 ≤ i ∧ i < 3) : s_wa (setL σ p v) (4 * q + i) = s_wa σ (4 * q + i) := tm_ui_n (by omega)
theorem RC_left (h : RC T Λ κ σ) {p v : Int} (hp : 0 ≤ p ∧ p < s_np σ) : RC T (tm_u2 Λ (k_pa κ p) (.inr (4, [.int (I p), .int (I (s_wa σ (4 * p + 0))), .int (I (s_wa σ (4 * p + 1))), .int (I (s_wa σ (4 * p + 2))), .int (I (s_mj σ p)), .int (I v)]))) κ (setL σ p v) := by
  have hP := rc_P h p hp
  have ne : ∀ (a : Nat) (e : va_E ⊕ List Nat), Λ a = some e → (∀ fs, e ≠ .inl (.inr (4, fs))) → ∀ e9, tm_u2 Λ (k_pa κ p) e9 a = some e := by
    intro a e ha hne e9
    rw [tm_u2_n (fun z => hne _ (by rw [← z, ha] at hP; exact Option.some.inj hP))]
    exact ha
  obtain ⟨h1, ⟨h2, h3, h4, h5, h6⟩, h7, h8, h9, h10, h11, h12, h13⟩ := h
  refine ⟨ne _ _ h1 (fun fs q => by cases q) _, ⟨ne _ _ h2 (fun fs q => by cases q) _, ne _ _ h3 (fun fs q => by cases q) _, ne _ _ h4 (fun fs q => by cases q) _, ne _ _ h5 (fun fs q => by cases q) _, ne _ _ h6 (fun fs q => ai_ne q.symm) _⟩, fun b hb => ⟨ne _ _ (h7 b hb).1 (fun fs q => by cases q) _, ne _ _ (h7 b hb).2.1 (fun fs q => by cases q) _, ne _ _ (h7 b hb).2.2.1 (fun fs q => by cases q) _, Srt_cg (σ := σ) (τ := setL σ p v) rfl rfl _ _ (h7 b hb).2.2.2.1, (h7 b hb).2.2.2.2⟩, fun q hq => ?_, fun d hd => ne _ _ (h9 d hd) (fun fs q => by cases q) _, fun k hk => ne _ _ (h10 k hk) (fun fs q => by cases q) _, ⟨h11.1, h11.2.1, fun i j c hi hc => ne _ _ (h11.2.2 i j c hi hc) (fun fs q => by cases q) _⟩, ⟨h12.1, h12.2.1, fun i j a c hij ha hc => ?_⟩, h13⟩
  · show _ = (some (.inl (.inr (4, [.int (I q), .int (I (s_wa (setL σ p v) (4 * q + 0))), .int (I (s_wa (setL σ p v) (4 * q + 1))), .int (I (s_wa (setL σ p v) (4 * q + 2))), .int (I (s_mj σ q)), .int (I (tm_ui (s_wa σ) (4 * p + 3) v (4 * q + 3)))]))) : Option (va_E ⊕ List Nat))
    rw [setL_n (by omega), setL_n (by omega), setL_n (by omega)]
    by_cases e : q = p
    · subst e; rw [tm_ui_s]; exact tm_u2_s
    · rw [tm_ui_n (by omega), tm_u2_n (fun z => e (h13.2.2.2.1 q p hq hp z))]
      exact h8 q hq
  · have h9 := h12.2.2 i j a c hij ha hc
    unfold prec at h9 ⊢
    rw [setL_n (by omega), setL_n (by omega), setL_n (by omega), setL_n (by omega)]
    exact h9
end
/-- a list that holds the pieces from a place on, by their first places -/
theorem Srt_mk {σ : ST} (hw : WF0 σ) {b : Int} : ∀ (ks : List Int) (pl : Int), (∀ k, k ∈ ks ↔ (0 ≤ k ∧ k < s_nm σ) ∧ s_cu σ (4 * k) = b ∧ pl ≤ s_cu σ (4 * k + 1)) → ks.Pairwise (fun k l => s_cu σ (4 * k + 1) < s_cu σ (4 * l + 1)) → Srt σ b ks pl := by
  have hn := wf_n hw
  intro ks
  induction ks with
  | nil =>
    intro pl hm _
    refine Or.inl ⟨rfl, fun k hk e => ?_⟩
    apply Int.lt_of_not_ge
    intro z
    have := (hm k).mpr ⟨hk, e, z⟩
    cases this
  | cons k r ih =>
    intro pl hm hs
    obtain ⟨g1, g2, g3⟩ := (hm k).mp List.mem_cons_self
    have k9 := wf_k hw k g1
    obtain ⟨hs1, hs2⟩ := List.pairwise_cons.mp hs
    refine ⟨g1.1, Or.inr ⟨g1, g2, g3, fun l hl e1 e2 => ?_⟩, ih _ (fun l => ?_) hs2⟩
    · rcases List.mem_cons.mp ((hm l).mpr ⟨hl, e1, e2⟩) with e | e
      · rw [e]; exact Int.le_refl _
      · exact Int.le_of_lt (hs1 l e)
    · constructor
      · intro hl
        obtain ⟨f1, f2, f3⟩ := (hm l).mp (List.mem_cons_of_mem _ hl)
        have f4 := hs1 l hl
        have l9 := wf_k hw l f1
        refine ⟨f1, f2, ?_⟩
        rcases Int.lt_trichotomy k l with z | z | z
        · have := wf_s hw k l (by omega) z (by omega) (by rw [g2, f2]); omega
        · subst z; omega
        · have := wf_s hw l k (by omega) z (by omega) (by rw [g2, f2]); omega
      · rintro ⟨f1, f2, f3⟩
        rcases List.mem_cons.mp ((hm l).mpr ⟨f1, f2, by omega⟩) with e | e
        · subst e; omega
        · exact e
theorem Srt_pw {σ : ST} (hw : WF0 σ) {b : Int} {ks : List Int} (h : Srt σ b ks 0) : ks.Pairwise (fun k l => s_cu σ (4 * k + 1) < s_cu σ (4 * l + 1)) := by
  have hn := wf_n hw
  rw [List.pairwise_iff_getElem]
  intro i j hi hj hij
  have h1 := Srt_lt hw ks 0 h i j _ _ hij (List.getElem?_eq_getElem hi) (List.getElem?_eq_getElem hj)
  have h2 := wf_k hw _ (Srt_mem hw ks 0 h i _ (List.getElem?_eq_getElem hi)).1
  omega
theorem Srt_mm {σ : ST} (hw : WF0 σ) {b : Int} {ks : List Int} (h : Srt σ b ks 0) (k : Int) : k ∈ ks ↔ (0 ≤ k ∧ k < s_nm σ) ∧ s_cu σ (4 * k) = b ∧ 0 ≤ s_cu σ (4 * k + 1) := by
  constructor
  · intro hk
    obtain ⟨j, hj⟩ := List.getElem?_of_mem hk
    obtain ⟨h1, h2⟩ := Srt_mem hw ks 0 h j k hj
    exact ⟨h1, h2, (wf_k hw k h1).2.2.1⟩
  · rintro ⟨h1, h2, -⟩
    exact srt_in hw h h1 h2
theorem mem_ins {l : List Int} {i : Nat} {m k : Int} : k ∈ l.take i ++ m :: l.drop i ↔ k = m ∨ k ∈ l := by
  rw [List.mem_append, List.mem_cons]
  constructor
  · rintro (h | h | h)
    · exact Or.inr (List.mem_of_mem_take h)
    · exact Or.inl h
    · exact Or.inr (List.mem_of_mem_drop h)
  · rintro (h | h)
    · exact Or.inr (Or.inl h)
    · rw [← List.take_append_drop i l, List.mem_append] at h
      rcases h with h | h
      · exact Or.inl h
      · exact Or.inr (Or.inr h)
theorem pw_ins {R : Int → Int → Prop} {l : List Int} {i : Nat} {m : Int} (h : l.Pairwise R) (h1 : ∀ k, k ∈ l.take i → R k m) (h2 : ∀ k, k ∈ l.drop i → R m k) : (l.take i ++ m :: l.drop i).Pairwise R := by
  have h3 := h
  rw [← List.take_append_drop i l, List.pairwise_append] at h3
  obtain ⟨a1, a2, a3⟩ := h3
  rw [List.pairwise_append]
  refine ⟨a1, List.pairwise_cons.mpr ⟨h2, a2⟩, fun a ha c hc => ?_⟩
  rcases List.mem_cons.mp hc with e | e
  · rw [e]; exact h1 a ha
  · exact a3 a ha c e
theorem grp_mem {aj cu : Int → Int} : ∀ (cs : List Int) (k m : Int), grp aj cu cs k m → ∀ (i : Nat) (j : Int), cs[i]? = some j → k ≤ j ∧ j < m ∧ (aj j = 1 → j + 1 < m) := by
  intro cs
  induction cs with
  | nil => intro k m h i j hj; simp at hj
  | cons c r ih =>
    intro k m h i j hj
    obtain ⟨e, h⟩ := h
    cases i with
    | zero =>
      simp at hj
      subst hj
      rcases h with ⟨h1, h2⟩ | ⟨h1, h2, h3, h4⟩
      · have := grp_le _ _ _ h2; exact ⟨by omega, by omega, fun z => by rw [e, h1] at z; omega⟩
      · have := grp_le _ _ _ h4; exact ⟨by omega, by omega, fun _ => by omega⟩
    | succ i =>
      have hj' : r[i]? = some j := by simpa using hj
      rcases h with ⟨h1, h2⟩ | ⟨h1, h2, h3, h4⟩
      · have := ih _ _ h2 i j hj'; exact ⟨by omega, this.2⟩
      · have := ih _ _ h4 i j hj'; exact ⟨by omega, this.2⟩
theorem srt_ins {σ : ST} (hw : WF0 σ) {p b pl ln j : Int} (hp : 0 ≤ p ∧ p < s_np σ) (hb : 0 ≤ b ∧ b < s_nb σ) (hl : 1 ≤ ln) (hj : j = 0 ∨ j = 1) (hm : s_nm σ < 216) (hP : Poss σ p ln b pl) {ks : List Int} (hs : Srt σ b ks 0) {i : Nat} (hu : upto ks i (fun k => s_cu σ (4 * k + 1) < pl)) (hu2 : ∀ k, ks[i]? = some k → pl ≤ s_cu σ (4 * k + 1)) : Srt (addC σ p b pl ln j) b (ks.take i ++ s_nm σ :: ks.drop i) 0 := by
  have hw1 := addC_wf (j := j) hw hp hb hl hj hm hP
  have hn := wf_n hw
  obtain ⟨n1, n2, n3, n4⟩ := addC_n (σ := σ) (p := p) (b := b) (pl := pl) (len := ln) (j := j)
  have hpl := hP.1
  have hmm := Srt_mm hw hs
  refine Srt_mk hw1 _ 0 (fun k => ?_) (pw_ins ?_ (fun k hk => ?_) (fun k hk => ?_))
  · rw [mem_ins]
    show _ ↔ (0 ≤ k ∧ k < s_nm σ + 1) ∧ _
    by_cases e : k = s_nm σ
    · subst e; rw [n1, n2]; exact ⟨fun _ => ⟨by omega, rfl, hpl⟩, fun _ => Or.inl rfl⟩
    · constructor
      · rintro (h | h)
        · exact absurd h e
        · obtain ⟨h1, h2, h3⟩ := (hmm k).mp h
          rw [addC_old (by omega), addC_old (by omega)]
          exact ⟨by omega, h2, h3⟩
      · rintro ⟨h1, h2, h3⟩
        rw [addC_old (by omega)] at h2
        rw [addC_old (by omega)] at h3
        exact Or.inr ((hmm k).mpr ⟨by omega, h2, h3⟩)
  · have h1 := Srt_pw hw hs
    rw [List.pairwise_iff_getElem] at h1 ⊢
    intro a c ha hc hac
    have g1 := ((hmm _).mp (List.getElem_mem ha)).1
    have g2 := ((hmm _).mp (List.getElem_mem hc)).1
    rw [addC_old (by omega), addC_old (by omega)]
    exact h1 a c ha hc hac
  · obtain ⟨a, ha⟩ := List.getElem?_of_mem hk
    rw [List.getElem?_take] at ha
    by_cases z : a < i
    · rw [if_pos z] at ha
      have g1 := ((hmm k).mp (List.mem_of_getElem? ha)).1
      rw [n2, addC_old (by omega)]
      exact hu a k z ha
    · rw [if_neg z] at ha; cases ha
  · obtain ⟨a, ha⟩ := List.getElem?_of_mem hk
    rw [List.getElem?_drop] at ha
    have g1 := ((hmm k).mp (List.mem_of_getElem? ha)).1
    have k1 := wf_k hw k g1
    have g2 := ((hmm k).mp (List.mem_of_getElem? ha)).2.1
    rw [n2, addC_old (by omega)]
    have hil : i < ks.length := by
      obtain ⟨q, -⟩ := List.getElem?_eq_some_iff.mp ha
      omega
    have h2 := hu2 _ (List.getElem?_eq_getElem hil)
    have h5 := hP.2.2.2.2.2 k g1 g2
    have h6 : pl ≤ s_cu σ (4 * k + 1) := by
      cases a with
      | zero => rw [Nat.add_zero, List.getElem?_eq_getElem hil] at ha; cases ha; exact h2
      | succ a =>
        have h3 := Srt_lt hw ks 0 hs i (i + (a + 1)) _ k (by omega) (List.getElem?_eq_getElem hil) ha
        have h4 := wf_k hw _ (Srt_mem hw ks 0 hs i _ (List.getElem?_eq_getElem hil)).1
        omega
    apply Int.lt_of_not_ge
    intro z
    omega
