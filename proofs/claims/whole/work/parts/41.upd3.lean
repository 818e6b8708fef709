/-- one cutting more -/
def kCut (κ : KP) (c : Nat) (j : Int) : KP := (κ.1, κ.2.1, κ.2.2.1, κ.2.2.2.1, κ.2.2.2.2.1, κ.2.2.2.2.2.1, κ.2.2.2.2.2.2.1, κ.2.2.2.2.2.2.2.1, κ.2.2.2.2.2.2.2.2.1, κ.2.2.2.2.2.2.2.2.2.1, k_ca κ ++ [c], k_cs κ ++ [j], κ.2.2.2.2.2.2.2.2.2.2.2.2)
theorem RC_cut {T : ClassId × ClassId × ClassId × ClassId} {Λ : tmL} {κ : KP} {σ : ST} (h : RC T Λ κ σ) {c : Nat} {j : Int} (hg : ∃ m, m ≤ s_nm σ ∧ grp (s_aj σ) (s_cu σ) (k_cs κ ++ [j]) 0 m) (hc : Λ c = some (.inl (.inr (2, fC κ σ j)))) : RC T (tm_ul Λ (k_lc κ) (k_ca κ ++ [c])) (kCut κ c j) σ := by
  have hL := rc_lc h
  have ne : ∀ (a : Nat) (e : va_E), Λ a = some (.inl e) → ∀ xs, tm_ul Λ (k_lc κ) xs a = some (.inl e) := by
    intro a e ha xs
    rw [tm_ul_n (fun z => by rw [z, hL] at ha; cases ha)]
    exact ha
  have nl : ∀ (a : Nat) (e : va_E ⊕ List Nat), Λ a = some e → a ≠ k_lc κ → ∀ xs, tm_ul Λ (k_lc κ) xs a = some e := by
    intro a e ha hne xs
    rw [tm_ul_n hne]
    exact ha
  have hap := rc_ap h
  obtain ⟨h1, ⟨h2, h3, h4, h5, h6⟩, h7, h8, h9, h10, ⟨hc1, hc2, hc3⟩, h12, h13⟩ := h
  refine ⟨ne _ _ h1 _, ⟨nl _ _ h2 hap.1.2.2.1 _, nl _ _ h3 hap.1.2.2.2.2.1 _, nl _ _ h4 hap.1.2.2.2.2.2 _, tm_ul_s, ne _ _ h6 _⟩, fun b hb => ⟨ne _ _ (h7 b hb).1 _, nl _ _ (h7 b hb).2.1 (hap.2.1 b hb).1.2.2.2 _, nl _ _ (h7 b hb).2.2.1 (hap.2.1 b hb).2.2.2.2 _, (h7 b hb).2.2.2⟩, fun z hz => ne _ _ (h8 z hz) _, fun d hd => ne _ _ (h9 d hd) _, fun k hk => ne _ _ (h10 k hk) _, ⟨hg, ?_, fun x y d hx hy => ?_⟩, h12, h13⟩
  · show (k_ca κ ++ [c]).length = (k_cs κ ++ [j]).length
    rw [List.length_append, List.length_append, hc2]
    rfl
  · have hx : (k_cs κ ++ [j])[x]? = some y := hx
    have hy : (k_ca κ ++ [c])[x]? = some d := hy
    rcases Nat.lt_or_ge x (k_cs κ).length with z | z
    · rw [List.getElem?_append_left z] at hx
      rw [List.getElem?_append_left (by omega)] at hy
      exact ne _ _ (hc3 x y d hx hy) _
    · rw [List.getElem?_append_right z] at hx
      rw [List.getElem?_append_right (by omega), hc2] at hy
      have e : x - (k_cs κ).length = 0 := by
        obtain ⟨q, -⟩ := List.getElem?_eq_some_iff.mp hx
        simp at q
        omega
      rw [e] at hx hy
      simp at hx hy
      subst hx hy
      exact ne _ _ hc _
/-- where a list's place changes, its elements' condition -/
theorem el2_o {Λ : tmL} {a ci : Nat} {fs : List Value} {r : vw_C} (h : Λ a = some (.inl (.inr (ci, fs)))) (hr : classes[ci]? = some r) (hk : Cond.castable r.1 "java/lang/Object" ∈ NW) (h0 : ci ≠ 0) : tm_el2 Λ a := ⟨ci, fs, r, h, hr, hk, h0⟩
