/-! The frame rule: a contract over one world holds beside another one. -/
def un (Λ1 Λ2 : tmL) : tmL := fun a => match Λ1 a with | some e => some e | none => Λ2 a
def dj (Λ1 Λ2 : tmL) : Prop := ∀ a : Nat, Λ1 a = none ∨ Λ2 a = none
/-- what lies in a list lies in the world -/
def okL (Λ : tmL) : Prop := ∀ (a : Nat) (xs : List Nat), Λ a = some (.inr xs) → ∀ v ∈ xs, tm_el2 Λ v
theorem un_1 {Λ1 Λ2 : tmL} {a : Nat} {e : va_E ⊕ List Nat} (h : Λ1 a = some e) : un Λ1 Λ2 a = some e := by unfold un; rw [h]
theorem un_n {Λ1 Λ2 : tmL} {a : Nat} (h : Λ1 a = none) : un Λ1 Λ2 a = Λ2 a := by unfold un; rw [h]
theorem un_2 {Λ1 Λ2 : tmL} (hd : dj Λ1 Λ2) {a : Nat} {e : va_E ⊕ List Nat} (h : Λ2 a = some e) : un Λ1 Λ2 a = some e := by
  rcases hd a with h1 | h1
  · rw [un_n h1]; exact h
  · rw [h1] at h; cases h
theorem un_or {Λ1 Λ2 : tmL} {a : Nat} {e : va_E ⊕ List Nat} (h : un Λ1 Λ2 a = some e) : Λ1 a = some e ∨ (Λ1 a = none ∧ Λ2 a = some e) := by
  cases h1 : Λ1 a with
  | some e1 => rw [un_1 h1] at h; exact Or.inl h
  | none => rw [un_n h1] at h; exact Or.inr ⟨rfl, h⟩
theorem dj_s {Λ1 Λ2 : tmL} (h : dj Λ1 Λ2) : dj Λ2 Λ1 := fun a => (h a).symm
theorem un_comm {Λ1 Λ2 : tmL} (h : dj Λ1 Λ2) : un Λ1 Λ2 = un Λ2 Λ1 := by
  funext a
  rcases h a with h1 | h1
  · rw [un_n h1]
    cases h2 : Λ2 a with
    | none => rw [un_n h2, h1]
    | some e => rw [un_1 h2]
  · rw [un_n h1]
    cases h2 : Λ1 a with
    | none => rw [un_n h2, h1]
    | some e => rw [un_1 h2]
theorem un_assoc {Λ1 Λ2 Λ3 : tmL} : un (un Λ1 Λ2) Λ3 = un Λ1 (un Λ2 Λ3) := by
  funext a
  cases h1 : Λ1 a with
  | some e => rw [un_1 h1, un_1 (un_1 h1)]
  | none =>
    rw [un_n h1]
    cases h2 : Λ2 a with
    | some e => rw [un_1 h2, un_1 ((un_n h1).trans h2)]
    | none => rw [un_n h2, un_n ((un_n h1).trans h2)]
theorem dj_un {Λ1 Λ2 Λ3 : tmL} (h1 : dj Λ1 Λ3) (h2 : dj Λ2 Λ3) : dj (un Λ1 Λ2) Λ3 := by
  intro a
  rcases h1 a with h | h
  · rcases h2 a with h' | h'
    · exact Or.inl ((un_n h).trans h')
    · exact Or.inr h'
  · exact Or.inr h
theorem dj_l {Λ1 Λ2 Λ3 : tmL} (h : dj (un Λ1 Λ2) Λ3) : dj Λ1 Λ3 := by
  intro a
  rcases h a with h1 | h1
  · cases h2 : Λ1 a with
    | none => exact Or.inl rfl
    | some e => rw [un_1 h2] at h1; cases h1
  · exact Or.inr h1
theorem dj_r {Λ1 Λ2 Λ3 : tmL} (hd : dj Λ1 Λ2) (h : dj (un Λ1 Λ2) Λ3) : dj Λ2 Λ3 := by
  rw [un_comm hd] at h; exact dj_l h
theorem un_u2 {Λ1 Λ2 : tmL} {a : Nat} {e : va_E} (h : Λ1 a = none) : tm_u2 (un Λ1 Λ2) a e = un Λ1 (tm_u2 Λ2 a e) := by
  funext b
  by_cases hb : b = a
  · subst hb; rw [tm_u2_s, un_n h, tm_u2_s]
  · rw [tm_u2_n hb]
    cases h1 : Λ1 b with
    | some e1 => rw [un_1 h1, un_1 h1]
    | none => rw [un_n h1, un_n h1, tm_u2_n hb]
theorem dj_u2 {Λ1 Λ2 : tmL} {a : Nat} {e : va_E} (hd : dj Λ1 Λ2) (h : Λ1 a = none) : dj Λ1 (tm_u2 Λ2 a e) := by
  intro b
  by_cases hb : b = a
  · subst hb; exact Or.inl h
  · rw [tm_u2_n hb]; exact hd b
theorem el2_un {Λ1 Λ2 : tmL} {v : Nat} (h : tm_el2 Λ1 v) : tm_el2 (un Λ1 Λ2) v := by
  obtain ⟨ci, fs, r, h1, h2⟩ := h
  exact ⟨ci, fs, r, un_1 h1, h2⟩
theorem el2_un2 {Λ1 Λ2 : tmL} (hd : dj Λ1 Λ2) {v : Nat} (h : tm_el2 Λ2 v) : tm_el2 (un Λ1 Λ2) v := by
  obtain ⟨ci, fs, r, h1, h2⟩ := h
  exact ⟨ci, fs, r, un_2 hd h1, h2⟩
theorem okL_un {Λ1 Λ2 : tmL} (hd : dj Λ1 Λ2) (h1 : okL Λ1) (h2 : okL Λ2) : okL (un Λ1 Λ2) := by
  intro a xs ha v hv
  rcases un_or ha with h | ⟨-, h⟩
  · exact el2_un (h1 a xs h v hv)
  · exact el2_un2 hd (h2 a xs h v hv)
/-- a heap's world, its cells one by one -/
theorem hol_iff {D : va_G} {Fz : Nat → Prop} {Ω : tmO} {H : Heap} : tm_hol D Fz Ω H ↔ ∃ L : List Nat, L.Nodup ∧ (∀ a, a ∈ L ↔ Ω a ≠ none) ∧ ∀ (a : Nat) (e : va_E), Ω a = some e → va_at D classes (a, e) H ∧ ¬ Fz a := by
  constructor
  · intro h
    obtain ⟨L, hL, hP, hD⟩ := id h
    refine ⟨L, ?_, hL, fun a e ha => ⟨(tm_hol_at h ha).1, (tm_hol_at h ha).2.1⟩⟩
    show List.Pairwise (· ≠ ·) L
    rw [List.pairwise_iff_getElem]
    intro i j hi hj hij z
    have := hD.1 i j _ _ (tm_wl_of (List.getElem?_eq_getElem hi)) (tm_wl_of (List.getElem?_eq_getElem hj)) z
    omega
  · rintro ⟨L, hn, hL, ha⟩
    refine ⟨L, hL, fun k q hk => ?_, fun i j p q hi hj hpq => ?_, fun k q hk => ?_⟩
    · obtain ⟨h1, h2⟩ := tm_wl_at hk
      obtain ⟨e, he⟩ := Option.ne_none_iff_exists'.mp ((hL q.1).mp (List.mem_of_getElem? h1))
      rw [he] at h2
      have := (ha q.1 e he).1
      rw [show (q.1, e) = q from by rw [← show q.2 = e from h2]] at this
      exact this
    · obtain ⟨h1, -⟩ := tm_wl_at hi
      obtain ⟨h2, -⟩ := tm_wl_at hj
      obtain ⟨l1, g1⟩ := List.getElem?_eq_some_iff.mp h1
      obtain ⟨l2, g2⟩ := List.getElem?_eq_some_iff.mp h2
      have hw9 : L.Pairwise (· ≠ ·) := hn
      rw [List.pairwise_iff_getElem] at hw9
      have e9 := g1.trans (hpq.trans g2.symm)
      rcases Nat.lt_trichotomy i j with z | z | z
      · exact absurd e9 (hw9 i j l1 l2 z)
      · exact z
      · exact absurd e9.symm (hw9 j i l2 l1 z)
    · obtain ⟨h1, -⟩ := tm_wl_at hk
      obtain ⟨e, he⟩ := Option.ne_none_iff_exists'.mp ((hL q.1).mp (List.mem_of_getElem? h1))
      exact (ha q.1 e he).2
theorem at_kept {D : va_G} {q : Nat × va_E} {H H1 : Heap} (h : va_at D classes q H) (hq : H1[q.1]? = H[q.1]?) : va_at D classes q H1 := by
  have hP : va_P D classes [q] H := fun k z hz => by
    cases k with
    | zero => cases hz; exact h
    | succ k => cases hz
  exact (hP.kept (H1 := H1) (fun k z hz => by
    cases k with
    | zero => cases hz; exact hq
    | succ k => cases hz)) 0 q rfl
theorem h2_split {D : va_G} {T : ClassId × ClassId × ClassId × ClassId} {e0 : Nat} {Fz : Nat → Prop} {Λ1 Λ2 : tmL} {H : Heap} (hd : dj Λ1 Λ2) (o1 : okL Λ1) (o2 : okL Λ2) (h : tm_h2 D T e0 Fz (un Λ1 Λ2) H) (hz : ∀ q, Fz q → q < H.size) :
    ∃ Fz' : Nat → Prop, (∀ q, Fz q → Fz' q) ∧ (∀ q, Fz' q → q < H.size) ∧ tm_h2 D T e0 Fz' Λ1 H ∧ ∀ (Λ' : tmL) (H' : Heap), tm_h2 D T e0 Fz' Λ' H' → (∀ q : Nat, q < H.size → Fz' q → H'[q]? = H[q]?) → dj Λ' Λ2 ∧ okL Λ' ∧ tm_h2 D T e0 Fz (un Λ' Λ2) H' := by
  obtain ⟨Ω, hw, hh⟩ := h
  obtain ⟨E, e1, e2, e3, e4⟩ := id hw
  obtain ⟨L, hn, hL, hat⟩ := hol_iff.mp hh
  obtain ⟨F, hF⟩ : ∃ F : Nat → Prop, ∀ a, F a ↔ (Λ2 a ≠ none ∨ ∃ b xs, Λ2 b = some (.inr xs) ∧ E b = a ∧ a ≠ e0) := ⟨_, fun a => Iff.rfl⟩
  have hFs : ∀ a, F a → Ω a ≠ none := by
    intro a ha
    rcases (hF a).mp ha with h1 | ⟨b, xs, h1, h2, h3⟩
    · intro z
      have h4 := tm_lw_none hw z
      obtain ⟨e, he⟩ := Option.ne_none_iff_exists'.mp h1
      rw [un_2 hd he] at h4
      cases h4
    · obtain ⟨mc, cap, f, g1, g2, g3⟩ := (e2 b xs (un_2 hd h1)).1
      rw [← h2, (g2 (by rw [h2]; exact h3)).1]
      exact fun z => by cases z
  have hF1 : ∀ a e, Λ1 a = some e → ¬ F a := by
    intro a e ha hf
    rcases (hF a).mp hf with h1 | ⟨b, xs, h1, h2, h3⟩
    · rcases hd a with g | g
      · rw [g] at ha; cases ha
      · exact h1 g
    · have := (e2 b xs (un_2 hd h1)).2.1 (by rw [h2]; exact h3)
      rw [h2, un_1 ha] at this
      cases this
  have hFE : ∀ a xs, Λ1 a = some (.inr xs) → E a ≠ e0 → ¬ F (E a) := by
    intro a xs ha hne hf
    have h0 := (e2 a xs (un_1 ha)).2.1 hne
    rcases (hF _).mp hf with h1 | ⟨b, ys, h1, h2, h3⟩
    · obtain ⟨e, he⟩ := Option.ne_none_iff_exists'.mp h1
      rw [un_2 hd he] at h0
      cases h0
    · have := e3 b a ys xs (un_2 hd h1) (un_1 ha) h2 (by rw [h2]; exact hne)
      subst this
      rcases hd b with g | g
      · rw [g] at ha; cases ha
      · rw [g] at h1; cases h1
  obtain ⟨Ω1, hΩ1, hΩ1n⟩ : ∃ Ω1 : tmO, (∀ a, ¬ F a → Ω1 a = Ω a) ∧ ∀ a, F a → Ω1 a = none := by
    classical
    exact ⟨fun a => if F a then none else Ω a, fun a ha => if_neg ha, fun a ha => if_pos ha⟩
  have hΩ1s : ∀ a e, Ω1 a = some e → ¬ F a ∧ Ω a = some e := by
    intro a e ha
    by_cases hf : F a
    · rw [hΩ1n a hf] at ha; cases ha
    · exact ⟨hf, by rw [← hΩ1 a hf]; exact ha⟩
  have hF0 : ¬ F e0 := fun z => hFs e0 z e4
  refine ⟨fun q => Fz q ∨ F q, fun q h => Or.inl h, fun q h => ?_, ⟨Ω1, ⟨E, fun a e ha => ?_, fun a xs ha => ?_, fun a b xs ys ha hb => e3 a b xs ys (un_1 ha) (un_1 hb), by rw [hΩ1 e0 hF0]; exact e4⟩, ?_⟩, ?_⟩
  · rcases h with h | h
    · exact hz q h
    · obtain ⟨e, he⟩ := Option.ne_none_iff_exists'.mp (hFs q h)
      exact (tm_hol_at hh he).2.2
  · rw [hΩ1 a (hF1 a _ ha)]; exact e1 a e (un_1 ha)
  · obtain ⟨⟨mc, cap, f, g1, g2, g3⟩, g4, g5⟩ := e2 a xs (un_1 ha)
    refine ⟨⟨mc, cap, f, by rw [hΩ1 a (hF1 a _ ha)]; exact g1, fun hne => by rw [hΩ1 _ (hFE a xs ha hne)]; exact g2 hne, g3⟩, fun hne => ?_, o1 a xs ha⟩
    have h0 := g4 hne
    cases h1 : Λ1 (E a) with
    | none => rfl
    | some e => rw [un_1 h1] at h0; cases h0
  · classical
    refine hol_iff.mpr ⟨L.filter (fun a => decide (¬ F a)), hn.filter _, fun a => ?_, fun a e ha => ?_⟩
    · rw [List.mem_filter, decide_eq_true_iff, hL a]
      constructor
      · rintro ⟨h1, h2⟩; rw [hΩ1 a h2]; exact h1
      · intro h1
        obtain ⟨e, he⟩ := Option.ne_none_iff_exists'.mp h1
        obtain ⟨h2, h3⟩ := hΩ1s a e he
        exact ⟨by rw [h3]; exact (fun z => by cases z), h2⟩
    · obtain ⟨h2, h3⟩ := hΩ1s a e ha
      exact ⟨(hat a e h3).1, fun z => z.elim (hat a e h3).2 h2⟩
  · intro Λ' H' h' hk
    obtain ⟨Ω', hw', hh'⟩ := h'
    obtain ⟨E', d1, d2, d3, d4⟩ := id hw'
    obtain ⟨L', hn', hL', hat'⟩ := hol_iff.mp hh'
    have hdF : ∀ a, Ω' a ≠ none → ¬ F a := by
      intro a ha hf
      obtain ⟨e, he⟩ := Option.ne_none_iff_exists'.mp ha
      exact (hat' a e he).2 (Or.inr hf)
    have hd' : dj Λ' Λ2 := by
      intro a
      by_cases h1 : Λ' a = none
      · exact Or.inl h1
      · refine Or.inr (Classical.byContradiction fun h2 => ?_)
        exact hdF a (fun z => h1 (tm_lw_none hw' z)) ((hF a).mpr (Or.inl h2))
    have ho' : okL Λ' := fun a xs ha => (d2 a xs ha).2.2
    refine ⟨hd', ho', ?_⟩
    obtain ⟨Ω9, hN, hO⟩ : ∃ Ω9 : tmO, (∀ a, ¬ F a → Ω9 a = Ω' a) ∧ ∀ a, F a → Ω9 a = Ω a := by
      classical
      exact ⟨fun a => if F a then Ω a else Ω' a, fun a ha => if_neg ha, fun a ha => if_pos ha⟩
    obtain ⟨E9, hE1, hE2⟩ : ∃ E9 : Nat → Nat, (∀ a, Λ2 a = none → E9 a = E' a) ∧ ∀ a, Λ2 a ≠ none → E9 a = E a := by
      classical
      exact ⟨fun a => if Λ2 a = none then E' a else E a, fun a ha => if_pos ha, fun a ha => if_neg ha⟩
    have q1 : ∀ a e, Λ' a = some e → Λ2 a = none ∧ ¬ F a := by
      intro a e ha
      have h1 : Λ2 a = none := by
        rcases hd' a with g | g
        · rw [g] at ha; cases ha
        · exact g
      exact ⟨h1, hdF a (fun z => by rw [tm_lw_none hw' z] at ha; cases ha)⟩
    have q2 : ∀ a e, Λ2 a = some e → F a := fun a e ha => (hF a).mpr (Or.inl (by rw [ha]; exact fun z => by cases z))
    have qE' : ∀ a xs, Λ' a = some (.inr xs) → E' a ≠ e0 → ¬ F (E' a) := by
      intro a xs ha hne
      obtain ⟨mc, cap, f, g1, g2, g3⟩ := (d2 a xs ha).1
      exact hdF _ (by rw [(g2 hne).1]; exact fun z => by cases z)
    have qE : ∀ a xs, Λ2 a = some (.inr xs) → E a ≠ e0 → F (E a) := fun a xs ha hne => (hF _).mpr (Or.inr ⟨a, xs, ha, rfl, hne⟩)
    refine ⟨Ω9, ⟨E9, fun a e ha => ?_, fun a xs ha => ?_, fun a b xs ys ha hb he hne => ?_, by rw [hN e0 hF0]; exact d4⟩, ?_⟩
    · rcases un_or ha with h1 | ⟨h1, h2⟩
      · rw [hN a (q1 a _ h1).2]; exact d1 a e h1
      · rw [hO a (q2 a _ h2)]; exact e1 a e (un_2 hd h2)
    · rcases un_or ha with h1 | ⟨h1, h2⟩
      · obtain ⟨⟨mc, cap, f, g1, g2, g3⟩, g4, g5⟩ := d2 a xs h1
        obtain ⟨r1, r2⟩ := q1 a _ h1
        rw [hE1 a r1]
        refine ⟨⟨mc, cap, f, by rw [hN a r2]; exact g1, fun hne => by rw [hN _ (qE' a xs h1 hne)]; exact g2 hne, g3⟩, fun hne => ?_, fun v hv => el2_un (g5 v hv)⟩
        rw [un_n (g4 hne)]
        exact Classical.byContradiction fun z => qE' a xs h1 hne ((hF _).mpr (Or.inl z))
      · obtain ⟨⟨mc, cap, f, g1, g2, g3⟩, g4, g5⟩ := e2 a xs (un_2 hd h2)
        rw [hE2 a (by rw [h2]; exact fun z => by cases z)]
        refine ⟨⟨mc, cap, f, by rw [hO a (q2 a _ h2)]; exact g1, fun hne => by rw [hO _ (qE a xs h2 hne)]; exact g2 hne, g3⟩, fun hne => ?_, fun v hv => el2_un2 hd' (o2 a xs h2 v hv)⟩
        have h0 := g4 hne
        have h3 : Λ2 (E a) = none := by
          cases h4 : Λ2 (E a) with
          | none => rfl
          | some e => rw [un_2 hd h4] at h0; cases h0
        cases h5 : Λ' (E a) with
        | none => rw [un_n h5]; exact h3
        | some e => exact absurd (qE a xs h2 hne) (q1 _ _ h5).2
    · rcases un_or ha with h1 | ⟨h1, h2⟩ <;> rcases un_or hb with h3 | ⟨h3, h4⟩
      · rw [hE1 a (q1 a _ h1).1, hE1 b (q1 b _ h3).1] at he
        rw [hE1 a (q1 a _ h1).1] at hne
        exact d3 a b xs ys h1 h3 he hne
      · rw [hE1 a (q1 a _ h1).1] at hne he
        rw [hE2 b (by rw [h4]; exact fun z => by cases z)] at he
        exact absurd (by rw [he]; exact qE b ys h4 (by rw [← he]; exact hne)) (qE' a xs h1 hne)
      · rw [hE2 a (by rw [h2]; exact fun z => by cases z)] at hne he
        rw [hE1 b (q1 b _ h3).1] at he
        exact absurd (by rw [← he]; exact qE a xs h2 hne) (qE' b ys h3 (by rw [← he]; exact hne))
      · rw [hE2 a (by rw [h2]; exact fun z => by cases z)] at hne he
        rw [hE2 b (by rw [h4]; exact fun z => by cases z)] at he
        exact e3 a b xs ys (un_2 hd h2) (un_2 hd h4) he hne
    · classical
      refine hol_iff.mpr ⟨L' ++ L.filter (fun a => decide (F a)), ?_, fun a => ?_, fun a e ha => ?_⟩
      · refine List.nodup_append.mpr ⟨hn', hn.filter _, fun a ha b hb z => ?_⟩
        subst z
        exact hdF a ((hL' a).mp ha) (by simpa using (List.mem_filter.mp hb).2)
      · rw [List.mem_append, List.mem_filter, decide_eq_true_iff, hL' a, hL a]
        by_cases hf : F a
        · rw [hO a hf]
          exact ⟨fun z => z.elim (fun y => absurd hf (hdF a y)) (fun y => y.1), fun z => Or.inr ⟨z, hf⟩⟩
        · rw [hN a hf]
          exact ⟨fun z => z.elim (fun y => y) (fun y => absurd y.2 hf), fun z => Or.inl z⟩
      · by_cases hf : F a
        · rw [hO a hf] at ha
          have h1 := hat a e ha
          exact ⟨at_kept h1.1 (hk a (tm_hol_at hh ha).2.2 (Or.inr hf)), h1.2⟩
        · rw [hN a hf] at ha
          have h1 := hat' a e ha
          exact ⟨h1.1, fun z => h1.2 (Or.inl z)⟩
theorem Es_more {T : ClassId × ClassId × ClassId × ClassId} {e0 : Nat} {Fz Fz' : Nat → Prop} {U : State} {H : Heap} (h : tm_Es T e0 Fz U H) (h1 : ∀ q, Fz q → Fz' q) (h2 : ∀ q, Fz' q → q < H.size) : tm_Es T e0 Fz' U H :=
  ⟨va_Z.narrow h.1 (fun q hq z => hq (h1 q z)), va_T.narrow h.2.1 (fun q hq z => hq (h1 q z)), h1 _ h.2.2.1, vx_Zq.narrow h.2.2.2.1 (fun q hq z => hq (h1 q z)), vx_Zq.narrow h.2.2.2.2.1 (fun q hq z => hq (h1 q z)), h2⟩
theorem va_F_more {Fz Fz' : Nat → Prop} {s t : State} (h1 : ∀ q, Fz q → Fz' q) (h : va_F (fun q => ¬ Fz' q) s t) : va_F (fun q => ¬ Fz q) s t := ⟨h.1, fun q hq hn => h.2 q hq (fun z => hn (fun y => z (h1 q y)))⟩
def fr_p {α : Type} (Λf : tmL) (post : α → tmL → Prop) : α → tmL → Prop := fun v w' => ∃ Λ', post v Λ' ∧ dj Λ' Λf ∧ okL Λ' ∧ un Λ' Λf = w'
theorem fr_con {γ : tmG} {M : tmM} {d mc ms : Nat} {As : List Value} {Λ Λf : tmL} {post : Option Value → tmL → Prop} (hd : dj Λ Λf) (o1 : okL Λ) (o2 : okL Λf) (hc9 : tm_Con γ (tm_h2 γ.2.1 γ.2.2.1 γ.2.2.2.1) M d mc ms As Λ post) : tm_Con γ (tm_h2 γ.2.1 γ.2.2.1 γ.2.2.2.1) M d mc ms As (un Λ Λf) (fr_p Λf post) := by
  intro Fz p e ha hc hk s m args below hf happ hP hK
  obtain ⟨h1, h2, h3, h4⟩ := hP
  obtain ⟨Fz', f1, f2, f3, f4⟩ := h2_split hd o1 o2 h4 h3.2.2.2.2.2
  obtain ⟨n, o, a1, a2, a3, ⟨v, Λ', rfl, hp, hh, hF⟩, L9, b1, b2⟩ := hc9 Fz' p e ha hc hk s m args below hf happ ⟨h1, h2, Es_more h3 f1 f2, f3⟩ hK
  obtain ⟨g1, g2, g3⟩ := f4 Λ' _ hh (fun q hq hq2 => hF.2 q hq (fun z => z hq2))
  exact ⟨n, _, a1, a2, a3, ⟨v, _, rfl, ⟨Λ', hp, g1, g2, rfl⟩, g3, va_F_more f1 hF⟩, L9, b1, fun q hq z => b2 q hq (f1 _ z)⟩
theorem fr_conX {γ : tmG} {M : tmM} {d mc ms : Nat} {As : List Value} {Λ Λf : tmL} {post : Option Value → tmL → Prop} {xp : String → tmL → Prop} (hd : dj Λ Λf) (o1 : okL Λ) (o2 : okL Λf) (hc9 : tm_ConX γ (tm_h2 γ.2.1 γ.2.2.1 γ.2.2.2.1) M d mc ms As Λ post xp) : tm_ConX γ (tm_h2 γ.2.1 γ.2.2.1 γ.2.2.2.1) M d mc ms As (un Λ Λf) (fr_p Λf post) (fr_p Λf xp) := by
  intro Fz p e ha hc hk s m args below hf happ hP hK
  obtain ⟨h1, h2, h3, h4⟩ := hP
  obtain ⟨Fz', f1, f2, f3, f4⟩ := h2_split hd o1 o2 h4 h3.2.2.2.2.2
  obtain ⟨n, o, a1, a2, a3, hQ⟩ := hc9 Fz' p e ha hc hk s m args below hf happ ⟨h1, h2, Es_more h3 f1 f2, f3⟩ hK
  refine ⟨n, o, a1, a2, a3, ?_⟩
  rcases hQ with ⟨⟨v, Λ', rfl, hp, hh, hF⟩, L9, b1, b2⟩ | ⟨q9, rfl, E9, ce, L9, ⟨Λ', hp, hh, hF⟩, b1, b2, b3, b4, b5, b6⟩
  · obtain ⟨g1, g2, g3⟩ := f4 Λ' _ hh (fun q hq hq2 => hF.2 q hq (fun z => z hq2))
    exact Or.inl ⟨⟨v, _, rfl, ⟨Λ', hp, g1, g2, rfl⟩, g3, va_F_more f1 hF⟩, L9, b1, fun q hq z => b2 q hq (f1 _ z)⟩
  · obtain ⟨g1, g2, g3⟩ := f4 Λ' _ hh (fun q hq hq2 => hF.2 q hq (fun z => z hq2))
    exact Or.inr ⟨q9, rfl, E9, ce, L9, ⟨_, ⟨Λ', hp, g1, g2, rfl⟩, g3, va_F_more f1 hF⟩, b1, b2, b3, b4, b5, fun q hq z => b6 q hq (f1 _ z)⟩
