/-! ArrayList's members over the world with lists. -/
theorem tm_lift {γ : tmG} {M : tmM} {d mc ms : Nat} {As : List Value} {Λ : tmL} {post2 : Option Value → tmL → Prop}
    (k : ∀ Ω, tm_lw γ.2.2.1 γ.2.2.2.1 Λ Ω → ∃ post1, tm_Con γ (tm_hol γ.2.1) M d mc ms As Ω post1 ∧ ∀ v Ω', post1 v Ω' → (∀ q, Ω' q ≠ none → q ≠ γ.2.2.2.1) → ∃ Λ', post2 v Λ' ∧ tm_lw γ.2.2.1 γ.2.2.2.1 Λ' Ω') : tm_Con γ (tm_h2 γ.2.1 γ.2.2.1 γ.2.2.2.1) M d mc ms As Λ post2 := by
  intro Fz p e ha hc hk s m args below hf happ hP hK
  obtain ⟨h1, h2, h3, Ω, hw, hh⟩ := hP
  obtain ⟨post1, hcon, himp⟩ := k Ω hw
  obtain ⟨n, o, a1, a2, a3, ⟨v, Ω', rfl, hp, hh', hF⟩, hL⟩ := hcon Fz p e ha hc hk s m args below hf happ ⟨h1, h2, h3, hh⟩ hK
  obtain ⟨Λ', hp2, hw2⟩ := himp v Ω' hp (fun q hq z => by
    obtain ⟨e9, he9⟩ := Option.ne_none_iff_exists'.mp hq
    exact (tm_hol_at hh' he9).2.1 (by rw [z]; exact h3.2.2.1))
  exact ⟨n, _, a1, a2, a3, ⟨v, Λ', rfl, hp2, ⟨Ω', hw2, hh'⟩, hF⟩, hL⟩
theorem c_Linit (γ : tmG) (hst : γ.1.stackTraces = false) (Λ : tmL) (a : Nat) (ha : Λ a = some (.inl (.inr (0, [.int (I 0), .null, .int (I 0)])))) : tm_Con γ (tm_h2 γ.2.1 γ.2.2.1 γ.2.2.2.1) M_Jx4a65c_init_da8c8 3 0 0 [.ref a] Λ (fun v w' => tm_ul Λ a [] = w' ∧ v = none) := by
  refine tm_lift (fun Ω hw => ⟨_, c_init1 γ hst Ω a (I 0) (hw.choose_spec.1 _ _ ha), fun v Ω' hp hz => ⟨_, ⟨rfl, hp.2⟩, ?_⟩⟩)
  rw [← hp.1]
  exact tm_lw_born hw ha
theorem c_Lsize (γ : tmG) (hst : γ.1.stackTraces = false) (Λ : tmL) (a : Nat) (xs : List Nat) (ha : Λ a = some (.inr xs)) : tm_Con γ (tm_h2 γ.2.1 γ.2.2.1 γ.2.2.2.1) M_Jx4a65c_size_8abf5 1 0 0 [.ref a] Λ (fun v w' => Λ = w' ∧ v = some (.int (I (xs.length : Int)))) := by
  refine tm_lift (fun Ω hw => ?_)
  obtain ⟨mc, cap, f, h1, -⟩ := (hw.choose_spec.2.1 a xs ha).1
  exact ⟨_, c_size1 γ hst Ω a _ xs.length mc h1, fun v Ω' hp hz => ⟨Λ, ⟨rfl, hp.2⟩, by rw [← hp.1]; exact hw⟩⟩
theorem tm_len {T : ClassId × ClassId × ClassId × ClassId} {e0 : Nat} {Ω : tmO} {a d : Nat} {xs : List Nat} (h : tm_ls T e0 Ω a d xs) : xs.length ≤ 400 := by
  obtain ⟨mc, cap, f, h1, h2, h3⟩ := h
  by_cases hz : d = e0
  · rw [h3 hz]; exact Nat.zero_le _
  · have := h2 hz; omega
theorem c_LisE (γ : tmG) (hst : γ.1.stackTraces = false) (Λ : tmL) (a : Nat) (xs : List Nat) (ha : Λ a = some (.inr xs)) : tm_Con γ (tm_h2 γ.2.1 γ.2.2.1 γ.2.2.2.1) M_Jx4a65c_isEmpty_aae02 1 0 0 [.ref a] Λ (fun v w' => Λ = w' ∧ v = some (.int (I (bi (xs.length = 0))))) := by
  refine tm_lift (fun Ω hw => ?_)
  have hl := tm_len (hw.choose_spec.2.1 a xs ha).1
  obtain ⟨mc, cap, f, h1, -⟩ := (hw.choose_spec.2.1 a xs ha).1
  exact ⟨_, c_isE1 γ hst Ω a _ xs.length mc h1 (by omega), fun v Ω' hp hz => ⟨Λ, ⟨rfl, hp.2⟩, by rw [← hp.1]; exact hw⟩⟩
theorem c_Lget (γ : tmG) (hst : γ.1.stackTraces = false) (Λ : tmL) (a : Nat) (xs : List Nat) (k : Int) (y : Nat) (ha : Λ a = some (.inr xs)) (hk : 0 ≤ k) (hy : xs[k.toNat]? = some y) : tm_Con γ (tm_h2 γ.2.1 γ.2.2.1 γ.2.2.2.1) M_Jx4a65c_get_915e3 3 0 0 [.ref a, .int (I k)] Λ (fun v w' => Λ = w' ∧ v = some (.ref y)) := by
  obtain ⟨i, rfl⟩ := Int.eq_ofNat_of_zero_le hk
  refine tm_lift (fun Ω hw => ?_)
  obtain ⟨mc, cap, f, h1, h2, h3⟩ := (hw.choose_spec.2.1 a xs ha).1
  have hi : i < xs.length := (List.getElem?_eq_some_iff.mp hy).1
  have hne : hw.choose a ≠ γ.2.2.2.1 := fun z => by rw [h3 z] at hi; exact absurd hi (Nat.not_lt_zero _)
  obtain ⟨g1, g2, g3, g4, g5⟩ := h2 hne
  exact ⟨_, c_get1 γ hst Ω a _ xs.length mc h1 cap i y f g1 (by omega) ((g2 i hi).trans hy), fun v Ω' hp hz => ⟨Λ, ⟨rfl, hp.2⟩, by rw [← hp.1]; exact hw⟩⟩
theorem tm_h3 {γ : tmG} {Λ : tmL} {Ω : tmO} {E : Nat → Nat} {a cap : Nat} {f : Nat → Option Nat} {xs : List Nat} (hw : tm_lw γ.2.2.1 γ.2.2.2.1 Λ Ω) (h2 : E a ≠ γ.2.2.2.1 → Ω (E a) = some (tm_ao γ.2.2.1 cap f) ∧ (∀ i, i < xs.length → f i = xs[i]?) ∧ xs.length ≤ cap ∧ cap ≤ 400 ∧ 10 ≤ cap) (h3 : E a = γ.2.2.2.1 → xs = []) (hel : ∀ v ∈ xs, tm_el2 Λ v) (hl : xs.length ≤ 250) : (E a = γ.2.2.2.1 ∧ xs.length = 0) ∨ (∃ cap, Ω (E a) = some (tm_ao γ.2.2.1 cap f) ∧ xs.length ≤ cap ∧ cap ≤ 400 ∧ 10 ≤ cap ∧ xs.length ≤ 250 ∧ ∀ i : Nat, i < xs.length → ∀ y : Nat, f i = some y → tm_el Ω y) := by
  by_cases hz : E a = γ.2.2.2.1
  · exact Or.inl ⟨hz, by rw [h3 hz]; rfl⟩
  · obtain ⟨g1, g2, g3, g4, g5⟩ := h2 hz
    exact Or.inr ⟨cap, g1, g3, g4, g5, hl, fun i hi y hy => tm_el_of hw (hel y (List.mem_of_getElem? ((g2 i hi).symm.trans hy)))⟩
theorem c_Ladd (γ : tmG) (hst : γ.1.stackTraces = false) (Λ : tmL) (a v0 : Nat) (xs : List Nat) (ha : Λ a = some (.inr xs)) (hv : tm_el2 Λ v0) (hl : xs.length ≤ 250) : tm_Con γ (tm_h2 γ.2.1 γ.2.2.1 γ.2.2.2.1) M_Jx4a65c_add_9ea2d 7 1 400 [.ref a, .ref v0] Λ (fun v w' => tm_ul Λ a (xs ++ [v0]) = w' ∧ v = some (.int (I 1))) := by
  refine tm_lift (fun Ω hw => ?_)
  obtain ⟨E, e1, e2, e3, e4⟩ := id hw
  obtain ⟨⟨mc, cap, f, h1, h2, h3⟩, -, hel⟩ := e2 a xs ha
  rw [I_of mc] at h1
  refine ⟨_, c_add1 γ hst Ω a (E a) xs.length v0 mc.toInt f h1 (tm_el_of hw hv) (tm_h3 hw h2 h3 hel hl), fun v Ω' hp hz => ⟨_, ⟨rfl, hp.1⟩, ?_⟩⟩
  obtain ⟨-, d', cap', g, hd, hk, hoa, hod, hc, hgn, hgi⟩ := hp
  have hd0 : d' ≠ γ.2.2.2.1 := hz d' (by rw [hod]; exact fun z => by cases z)
  have en : (xs ++ [v0]).length = xs.length + 1 := by simp
  refine tm_lw_list e1 e2 e3 e4 ha hk (by rw [hoa, en]; rfl) hod (fun i hi => ?_) (by omega) (by
    rcases hd with hd | ⟨hd, hd2⟩
    · exact Or.inr ⟨hd, hd0⟩
    · exact Or.inl ⟨hd, hd0⟩) (fun v hv2 => ?_)
  · by_cases hi2 : i < xs.length
    · rw [hgi i hi2, List.getElem?_append_left hi2]
      have hne : E a ≠ γ.2.2.2.1 := fun z => by rw [h3 z] at hi2; exact absurd hi2 (Nat.not_lt_zero _)
      exact (h2 hne).2.1 i hi2
    · have : i = xs.length := by omega
      subst this
      rw [hgn]; simp
  · rcases List.mem_append.mp hv2 with h | h
    · exact hel v h
    · rw [List.mem_singleton.mp h]; exact hv
theorem c_Laddi (γ : tmG) (hst : γ.1.stackTraces = false) (Λ : tmL) (a v0 : Nat) (k : Int) (xs : List Nat) (ha : Λ a = some (.inr xs)) (hv : tm_el2 Λ v0) (hl : xs.length ≤ 250) (hk : 0 ≤ k ∧ k ≤ xs.length) : tm_Con γ (tm_h2 γ.2.1 γ.2.2.1 γ.2.2.2.1) M_Jx4a65c_add_7a177 6 1 400 [.ref a, .int (I k), .ref v0] Λ (fun v w' => tm_ul Λ a (xs.take k.toNat ++ v0 :: xs.drop k.toNat) = w' ∧ v = none) := by
  obtain ⟨i, rfl⟩ := Int.eq_ofNat_of_zero_le hk.1
  rw [show ((i : Int)).toNat = i from rfl]
  refine tm_lift (fun Ω hw => ?_)
  obtain ⟨E, e1, e2, e3, e4⟩ := id hw
  obtain ⟨⟨mc, cap, f, h1, h2, h3⟩, -, hel⟩ := e2 a xs ha
  rw [I_of mc] at h1
  refine ⟨_, c_addi γ hst Ω a (E a) xs.length i v0 mc.toInt f h1 (tm_el_of hw hv) (by omega) (tm_h3 hw h2 h3 hel hl), fun v Ω' hp hz => ⟨_, ⟨rfl, hp.1⟩, ?_⟩⟩
  obtain ⟨-, d', cap', g, hd, hk2, hoa, hod, hc, hg1, hgn, hg2⟩ := hp
  have hd0 : d' ≠ γ.2.2.2.1 := hz d' (by rw [hod]; exact fun z => by cases z)
  have en : (xs.take i ++ v0 :: xs.drop i).length = xs.length + 1 := by simp; omega
  have hf : ∀ j, j < xs.length → f j = xs[j]? := fun j hj => (h2 (fun z => by rw [h3 z] at hj; exact absurd hj (Nat.not_lt_zero _))).2.1 j hj
  refine tm_lw_list e1 e2 e3 e4 ha hk2 (by rw [hoa, en]; rfl) hod (fun j hj => ?_) (by omega) (by
    rcases hd with hd | ⟨hd, hd2⟩
    · exact Or.inr ⟨hd, hd0⟩
    · exact Or.inl ⟨hd, hd0⟩) (fun v hv2 => ?_)
  · have el : (xs.take i).length = i := by rw [List.length_take]; omega
    by_cases hj1 : j < i
    · rw [hg1 j hj1, List.getElem?_append_left (by omega), List.getElem?_take_of_lt hj1]
      exact hf j (by omega)
    · rw [List.getElem?_append_right (by omega), el]
      by_cases hj2 : j = i
      · subst hj2
        rw [hgn, Nat.sub_self]; rfl
      · obtain ⟨q, rfl⟩ : ∃ q, j = q + 1 := ⟨j - 1, by omega⟩
        rw [hg2 q (by omega) (by omega), show q + 1 - i = (q - i) + 1 by omega, List.getElem?_cons_succ, List.getElem?_drop, show i + (q - i) = q by omega]
        exact hf q (by omega)
  · rcases List.mem_append.mp hv2 with h | h
    · exact hel v (List.mem_of_mem_take h)
    · rcases List.mem_cons.mp h with h | h
      · rw [h]; exact hv
      · exact hel v (List.mem_of_mem_drop h)
theorem c_Lrem (γ : tmG) (hst : γ.1.stackTraces = false) (Λ : tmL) (a : Nat) (k : Int) (y : Nat) (xs : List Nat) (ha : Λ a = some (.inr xs)) (hk : 0 ≤ k) (hy : xs[k.toNat]? = some y) : tm_Con γ (tm_h2 γ.2.1 γ.2.2.1 γ.2.2.2.1) M_Jx4a65c_remove_915e3 3 0 0 [.ref a, .int (I k)] Λ (fun v w' => tm_ul Λ a (xs.eraseIdx k.toNat) = w' ∧ v = some (.ref y)) := by
  obtain ⟨i, rfl⟩ := Int.eq_ofNat_of_zero_le hk
  rw [show ((i : Int)).toNat = i from rfl] at hy ⊢
  refine tm_lift (fun Ω hw => ?_)
  obtain ⟨E, e1, e2, e3, e4⟩ := id hw
  obtain ⟨⟨mc, cap, f, h1, h2, h3⟩, -, hel⟩ := e2 a xs ha
  have hi : i < xs.length := (List.getElem?_eq_some_iff.mp hy).1
  have hne : E a ≠ γ.2.2.2.1 := fun z => by rw [h3 z] at hi; exact absurd hi (Nat.not_lt_zero _)
  obtain ⟨g1, g2, g3, g4, g5⟩ := h2 hne
  rw [I_of mc] at h1
  refine ⟨_, c_rem1 γ hst Ω a (E a) xs.length cap i mc.toInt f h1 g1 (by omega) (fun j hj y hy => tm_el_of hw (hel y (List.mem_of_getElem? ((g2 j hj).symm.trans hy)))) y ((g2 i hi).trans hy), fun v Ω' hp hz => ⟨_, ⟨rfl, hp.1⟩, ?_⟩⟩
  obtain ⟨-, hk2, g, hoa, hod, hg1, hg2⟩ := hp
  have en : (xs.eraseIdx i).length = xs.length - 1 := by rw [List.length_eraseIdx, if_pos hi]
  refine tm_lw_list e1 e2 e3 e4 ha hk2 (by rw [hoa, en, show ((xs.length - 1 : Nat) : Int) = (xs.length : Int) - 1 by omega]) hod (fun j hj => ?_) (by omega) (Or.inl ⟨rfl, hne⟩) (fun v hv2 => hel v (List.mem_of_mem_eraseIdx hv2))
  rw [List.getElem?_eraseIdx]
  by_cases hj1 : j < i
  · rw [if_pos hj1, hg1 j hj1]; exact g2 j (by omega)
  · rw [if_neg hj1, hg2 j (by omega) (by omega)]; exact g2 (j + 1) (by omega)
