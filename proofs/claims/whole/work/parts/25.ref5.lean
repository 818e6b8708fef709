/-- where the free room of a place begins, and ends: of the first n pieces -/
def isRF (σ : ST) (b pl n r : Int) : Prop := 0 ≤ r ∧ (∀ k, 0 ≤ k ∧ k < n → s_cu σ (4 * k) = b → s_cu σ (4 * k + 2) ≤ pl → s_cu σ (4 * k + 2) + s_sw σ ≤ r) ∧ (r = 0 ∨ ∃ k, (0 ≤ k ∧ k < n) ∧ s_cu σ (4 * k) = b ∧ s_cu σ (4 * k + 2) ≤ pl ∧ s_cu σ (4 * k + 2) + s_sw σ = r)
def isRT (σ : ST) (b pl n r : Int) : Prop := r ≤ s_wo σ (3 * b) ∧ (∀ k, 0 ≤ k ∧ k < n → s_cu σ (4 * k) = b → pl < s_cu σ (4 * k + 1) → r ≤ s_cu σ (4 * k + 1) - s_sw σ) ∧ (r = s_wo σ (3 * b) ∨ ∃ k, (0 ≤ k ∧ k < n) ∧ s_cu σ (4 * k) = b ∧ pl < s_cu σ (4 * k + 1) ∧ s_cu σ (4 * k + 1) - s_sw σ = r)
theorem isRF_skip {σ : ST} {b pl n r : Int} (h : isRF σ b pl n r) (hn : s_cu σ (4 * n) = b → s_cu σ (4 * n + 2) ≤ pl → False) : isRF σ b pl (n + 1) r := by
  obtain ⟨h1, h2, h3⟩ := h
  refine ⟨h1, fun k hk e1 e2 => ?_, ?_⟩
  · by_cases e : k = n
    · subst e; exact (hn e1 e2).elim
    · exact h2 k (by omega) e1 e2
  · rcases h3 with h3 | ⟨k, hk, e⟩
    · exact Or.inl h3
    · exact Or.inr ⟨k, by omega, e⟩
theorem isRF_take {σ : ST} {b pl n r : Int} (h0 : 0 ≤ n) (h : isRF σ b pl n r) (e1 : s_cu σ (4 * n) = b) (e2 : s_cu σ (4 * n + 2) ≤ pl) : isRF σ b pl (n + 1) (max r (s_cu σ (4 * n + 2) + s_sw σ)) := by
  obtain ⟨h1, h2, h3⟩ := h
  refine ⟨by omega, fun k hk f1 f2 => ?_, ?_⟩
  · by_cases e : k = n
    · subst e; omega
    · have := h2 k (by omega) f1 f2; omega
  · by_cases hm : s_cu σ (4 * n + 2) + s_sw σ ≤ r
    · rw [show max r (s_cu σ (4 * n + 2) + s_sw σ) = r by omega]
      rcases h3 with h3 | ⟨k, hk, e⟩
      · exact Or.inl h3
      · exact Or.inr ⟨k, by omega, e⟩
    · exact Or.inr ⟨n, by omega, e1, e2, by omega⟩
theorem isRT_skip {σ : ST} {b pl n r : Int} (h : isRT σ b pl n r) (hn : s_cu σ (4 * n) = b → pl < s_cu σ (4 * n + 1) → False) : isRT σ b pl (n + 1) r := by
  obtain ⟨h1, h2, h3⟩ := h
  refine ⟨h1, fun k hk e1 e2 => ?_, ?_⟩
  · by_cases e : k = n
    · subst e; exact (hn e1 e2).elim
    · exact h2 k (by omega) e1 e2
  · rcases h3 with h3 | ⟨k, hk, e⟩
    · exact Or.inl h3
    · exact Or.inr ⟨k, by omega, e⟩
theorem isRT_take {σ : ST} {b pl n r : Int} (h0 : 0 ≤ n) (h : isRT σ b pl n r) (e1 : s_cu σ (4 * n) = b) (e2 : pl < s_cu σ (4 * n + 1)) : isRT σ b pl (n + 1) (min r (s_cu σ (4 * n + 1) - s_sw σ)) := by
  obtain ⟨h1, h2, h3⟩ := h
  refine ⟨by omega, fun k hk f1 f2 => ?_, ?_⟩
  · by_cases e : k = n
    · subst e; omega
    · have := h2 k (by omega) f1 f2; omega
  · by_cases hm : r ≤ s_cu σ (4 * n + 1) - s_sw σ
    · rw [show min r (s_cu σ (4 * n + 1) - s_sw σ) = r by omega]
      rcases h3 with h3 | ⟨k, hk, e⟩
      · exact Or.inl h3
      · exact Or.inr ⟨k, by omega, e⟩
    · exact Or.inr ⟨n, by omega, e1, e2, by omega⟩
theorem isRF_e {σ : ST} {b pl n m r : Int} (h1 : n ≤ m) (h2 : m ≤ n) (h : isRF σ b pl n r) : isRF σ b pl m r := (show n = m by omega) ▸ h
theorem isRT_e {σ : ST} {b pl n m r : Int} (h1 : n ≤ m) (h2 : m ≤ n) (h : isRT σ b pl n r) : isRT σ b pl m r := (show n = m by omega) ▸ h
theorem isRF_u {σ : ST} {b pl n r r' : Int} (h : isRF σ b pl n r) (h' : isRF σ b pl n r') : r = r' := by
  obtain ⟨h1, h2, h3⟩ := h
  obtain ⟨g1, g2, g3⟩ := h'
  have a1 : r ≤ r' := by
    rcases h3 with e | ⟨k, hk, e1, e2, e3⟩
    · omega
    · have := g2 k hk e1 e2; omega
  have a2 : r' ≤ r := by
    rcases g3 with e | ⟨k, hk, e1, e2, e3⟩
    · omega
    · have := h2 k hk e1 e2; omega
  omega
theorem isRT_u {σ : ST} {b pl n r r' : Int} (h : isRT σ b pl n r) (h' : isRT σ b pl n r') : r = r' := by
  obtain ⟨h1, h2, h3⟩ := h
  obtain ⟨g1, g2, g3⟩ := h'
  have a1 : r ≤ r' := by
    rcases g3 with e | ⟨k, hk, e1, e2, e3⟩
    · omega
    · have := h2 k hk e1 e2; omega
  have a2 : r' ≤ r := by
    rcases h3 with e | ⟨k, hk, e1, e2, e3⟩
    · omega
    · have := g2 k hk e1 e2; omega
  omega
def roomR (σ : ST) (b pl r : Int) : Prop := ∃ f t, isRF σ b pl (s_nm σ) f ∧ isRT σ b pl (s_nm σ) t ∧ r = t - f
theorem roomR_u {σ : ST} {b pl r r' : Int} (h : roomR σ b pl r) (h' : roomR σ b pl r') : r = r' := by
  obtain ⟨f, t, h1, h2, h3⟩ := h
  obtain ⟨f', t', g1, g2, g3⟩ := h'
  rw [h3, g3, isRF_u h1 g1, isRT_u h2 g2]
def canP (σ : ST) (p : Int) : Prop := (0 ≤ p ∧ p < s_np σ) ∧ 0 < s_wa σ (4 * p + 3) ∧ ∃ b q, (0 ≤ b ∧ b < s_nb σ) ∧ Poss σ p (s_wa σ (4 * p + 0)) b q
def prec (σ : ST) (p q : Int) : Prop := s_wa σ (4 * q + 0) < s_wa σ (4 * p + 0) ∨ (s_wa σ (4 * p + 0) = s_wa σ (4 * q + 0) ∧ (s_wa σ (4 * p + 2) < s_wa σ (4 * q + 2) ∨ (s_wa σ (4 * p + 2) = s_wa σ (4 * q + 2) ∧ p < q)))
def bestP (σ : ST) (p : Int) : Prop := canP σ p ∧ ∀ q, canP σ q → q = p ∨ prec σ p q
def bestB (σ : ST) (p b pl : Int) : Prop := (0 ≤ b ∧ b < s_nb σ) ∧ isEarl σ p b pl ∧ 0 ≤ pl ∧ ∃ r, roomR σ b pl r ∧ ∀ b' pl' r', 0 ≤ b' ∧ b' < s_nb σ → isEarl σ p b' pl' → 0 ≤ pl' → roomR σ b' pl' r' → r < r' ∨ (r = r' ∧ b ≤ b')
def cutS (σ : ST) (p b pl : Int) : ST := less (addC σ p b pl (s_wa σ (4 * p + 0)) 0) p
def PlanStep (σ σ' : ST) : Prop := ∃ p b pl, bestP σ p ∧ bestB σ p b pl ∧ σ' = cutS σ p b pl
def PlanN : Nat → ST → ST → Prop
  | 0, σ, σ' => σ = σ' ∧ ∀ p, ¬ canP σ p
  | n + 1, σ, σ' => ∃ σ1, PlanStep σ σ1 ∧ PlanN n σ1 σ'
theorem PlanStep_u {σ s1 s2 : ST} (h1 : PlanStep σ s1) (h2 : PlanStep σ s2) : s1 = s2 := by
  obtain ⟨p, b, pl, ⟨a1, a2⟩, ⟨c1, c2, c3, r, c4, c5⟩, rfl⟩ := h1
  obtain ⟨p', b', pl', ⟨a1', a2'⟩, ⟨c1', c2', c3', r', c4', c5'⟩, rfl⟩ := h2
  have ep : p = p' := by
    rcases a2 p' a1' with h | h
    · exact h.symm
    · rcases a2' p a1 with h' | h'
      · exact h'
      · unfold prec at h h'; omega
  subst ep
  have eb : b = b' := by
    have g1 := c5 b' pl' r' c1' c2' c3' c4'
    have g2 := c5' b pl r c1 c2 c3 c4
    omega
  subst eb
  rw [isEarl_u c2 c2']
theorem PlanN_u : ∀ (n m : Nat) {σ s1 s2 : ST}, PlanN n σ s1 → PlanN m σ s2 → n = m ∧ s1 = s2 := by
  intro n
  induction n with
  | zero =>
    intro m σ s1 s2 h1 h2
    cases m with
    | zero => exact ⟨rfl, h1.1.symm.trans h2.1⟩
    | succ m =>
      obtain ⟨s, ⟨p, b, pl, hb, -⟩, -⟩ := h2
      exact absurd hb.1 (h1.2 p)
  | succ n ih =>
    intro m σ s1 s2 h1 h2
    obtain ⟨s, hs, h1⟩ := h1
    cases m with
    | zero =>
      obtain ⟨p, b, pl, hb, -⟩ := hs
      exact absurd hb.1 (h2.2 p)
    | succ m =>
      obtain ⟨s', hs', h2⟩ := h2
      have e := PlanStep_u hs hs'
      subst e
      obtain ⟨e1, e2⟩ := ih m h1 h2
      exact ⟨by rw [e1], e2⟩
/-! the sum of what is left; a cut keeps the state in order -/
theorem tsum_congr {f g : Int → Int} : ∀ n : Nat, (∀ p : Int, 0 ≤ p → p < n → f (4 * p + 3) = g (4 * p + 3)) → tsum f n = tsum g n := by
  intro n
  induction n with
  | zero => intro _; rfl
  | succ n ih =>
    intro h
    show tsum f n + f (4 * (n : Int) + 3) = tsum g n + g (4 * (n : Int) + 3)
    rw [ih (fun p p1 p2 => h p p1 (by omega)), h n (by omega) (by omega)]
theorem tsum_ui {f : Int → Int} {p v : Int} : ∀ n : Nat, (0 ≤ p ∧ p < n) → tsum (tm_ui f (4 * p + 3) v) n = tsum f n - f (4 * p + 3) + v := by
  intro n
  induction n with
  | zero => intro h; omega
  | succ n ih =>
    intro h
    show tsum (tm_ui f (4 * p + 3) v) n + tm_ui f (4 * p + 3) v (4 * (n : Int) + 3) = tsum f n + f (4 * (n : Int) + 3) - f (4 * p + 3) + v
    by_cases e : p = n
    · subst e
      rw [tm_ui_s, tsum_congr n (fun q q1 q2 => tm_ui_n (by omega))]
      omega
    · rw [ih (by omega), tm_ui_n (by omega)]
      omega
theorem grp_congr {aj cu aj' cu' : Int → Int} : ∀ (cs : List Int) (k m : Int), (∀ j, k ≤ j → j < m → aj j = aj' j ∧ cu (4 * j + 3) = cu' (4 * j + 3)) → grp aj cu cs k m → grp aj' cu' cs k m := by
  intro cs
  induction cs with
  | nil => intro k m _ h; exact h
  | cons j r ih =>
    intro k m hc h
    obtain ⟨e, h⟩ := h
    refine ⟨e, ?_⟩
    rcases h with ⟨h1, h2⟩ | ⟨h1, h2, h3, h4⟩
    · have := grp_le _ _ _ h2
      refine Or.inl ⟨by rw [← (hc k (Int.le_refl _) (by omega)).1]; exact h1, ih _ _ (fun j j1 j2 => hc j (by omega) j2) h2⟩
    · have := grp_le _ _ _ h4
      refine Or.inr ⟨by rw [← (hc k (Int.le_refl _) (by omega)).1]; exact h1, by rw [← (hc (k + 1) (by omega) (by omega)).1]; exact h2, by rw [← (hc k (Int.le_refl _) (by omega)).2, ← (hc (k + 1) (by omega) (by omega)).2]; exact h3, ih _ _ (fun j j1 j2 => hc j (by omega) j2) h4⟩
theorem grp_snoc1 {aj cu : Int → Int} {m : Int} (ha : aj m = 0) : ∀ (cs : List Int) (k : Int), grp aj cu cs k m → grp aj cu (cs ++ [m]) k (m + 1) := by
  intro cs
  induction cs with
  | nil => intro k h; have e : k = m := h; subst e; exact ⟨rfl, Or.inl ⟨ha, rfl⟩⟩
  | cons j r ih =>
    intro k h
    obtain ⟨e, h⟩ := h
    rcases h with ⟨h1, h2⟩ | ⟨h1, h2, h3, h4⟩
    · exact ⟨e, Or.inl ⟨h1, ih _ h2⟩⟩
    · exact ⟨e, Or.inr ⟨h1, h2, h3, ih _ h4⟩⟩
theorem grp_snoc2 {aj cu : Int → Int} {m : Int} (ha : aj m = 1) (ha2 : aj (m + 1) = 1) (hc : cu (4 * (m + 1) + 3) = cu (4 * m + 3)) : ∀ (cs : List Int) (k : Int), grp aj cu cs k m → grp aj cu (cs ++ [m]) k (m + 2) := by
  intro cs
  induction cs with
  | nil => intro k h; have e : k = m := h; subst e; exact ⟨rfl, Or.inr ⟨ha, ha2, hc, rfl⟩⟩
  | cons j r ih =>
    intro k h
    obtain ⟨e, h⟩ := h
    rcases h with ⟨h1, h2⟩ | ⟨h1, h2, h3, h4⟩
    · exact ⟨e, Or.inl ⟨h1, ih _ h2⟩⟩
    · exact ⟨e, Or.inr ⟨h1, h2, h3, ih _ h4⟩⟩
theorem less_wf0 {σ : ST} {p : Int} (hw : WF0 σ) (hp : 0 ≤ p ∧ p < s_np σ) (hl : 1 ≤ s_wa σ (4 * p + 3)) : WF0 (less σ p) := by
  refine ⟨hw.1, hw.2.1, hw.2.2.1, fun q hq => ?_, hw.2.2.2.2.1, hw.2.2.2.2.2⟩
  have h1 := hw.2.2.2.1 q hq
  show 20 ≤ tm_ui (s_wa σ) (4 * p + 3) (s_wa σ (4 * p + 3) - 1) (4 * q + 0) ∧ tm_ui (s_wa σ) (4 * p + 3) (s_wa σ (4 * p + 3) - 1) (4 * q + 0) ≤ 3000 ∧ 10 ≤ tm_ui (s_wa σ) (4 * p + 3) (s_wa σ (4 * p + 3) - 1) (4 * q + 1) ∧ tm_ui (s_wa σ) (4 * p + 3) (s_wa σ (4 * p + 3) - 1) (4 * q + 1) ≤ 400 ∧ 0 ≤ tm_ui (s_wa σ) (4 * p + 3) (s_wa σ (4 * p + 3) - 1) (4 * q + 2) ∧ tm_ui (s_wa σ) (4 * p + 3) (s_wa σ (4 * p + 3) - 1) (4 * q + 2) ≤ 3 ∧ 0 ≤ tm_ui (s_wa σ) (4 * p + 3) (s_wa σ (4 * p + 3) - 1) (4 * q + 3) ∧ tm_ui (s_wa σ) (4 * p + 3) (s_wa σ (4 * p + 3) - 1) (4 * q + 3) ≤ 108 ∧ (s_mj σ q = 0 ∨ s_mj σ q = 1)
  rw [tm_ui_n (show 4 * q + 0 ≠ 4 * p + 3 by omega), tm_ui_n (show 4 * q + 1 ≠ 4 * p + 3 by omega), tm_ui_n (show 4 * q + 2 ≠ 4 * p + 3 by omega)]
  by_cases e : q = p
  · subst e; rw [tm_ui_s]; omega
  · rw [tm_ui_n (by omega)]; exact h1
theorem cutS_wf {σ : ST} {p b pl : Int} (hW : WF σ) (hp : 0 ≤ p ∧ p < s_np σ) (hb : 0 ≤ b ∧ b < s_nb σ) (hl : 1 ≤ s_wa σ (4 * p + 3)) (hP : Poss σ p (s_wa σ (4 * p + 0)) b pl) : WF (cutS σ p b pl) ∧ s_tl (cutS σ p b pl) = s_tl σ - 1 := by
  have hr := wf_room hW hp hl
  have hp9 := wf_p hW.1 p hp
  have h0 := addC_wf (j := 0) hW.1 hp hb (by omega) (Or.inl rfl) (by omega) hP
  have ht : s_tl (cutS σ p b pl) = s_tl σ - 1 := by
    show tsum (tm_ui (s_wa σ) (4 * p + 3) (s_wa σ (4 * p + 3) - 1)) (s_np σ).toNat = tsum (s_wa σ) (s_np σ).toNat - 1
    rw [tsum_ui _ (by omega)]
    omega
  refine ⟨⟨less_wf0 h0 hp hl, ?_⟩, ht⟩
  obtain ⟨cs, hg, hc⟩ := hW.2
  refine ⟨cs ++ [s_nm σ], grp_snoc1 (addC_an (σ := σ) (p := p) (b := b) (pl := pl) (len := s_wa σ (4 * p + 0)) (j := 0)) cs 0 (grp_congr cs 0 _ (fun j j1 j2 => ⟨(addC_a j2).symm, (addC_old (by omega)).symm⟩) hg), ?_⟩
  rw [ht, List.length_append]
  show s_tl σ - 1 + ((cs.length + 1 : Nat) : Int) ≤ 9 * s_np σ
  omega
theorem step_wf {σ σ' : ST} (hW : WF σ) (h : PlanStep σ σ') : WF σ' ∧ s_tl σ' = s_tl σ - 1 := by
  obtain ⟨p, b, pl, ⟨a1, a2⟩, ⟨c1, c2, c3, c4⟩, rfl⟩ := h
  have hP : Poss σ p (s_wa σ (4 * p + 0)) b pl := by
    rcases c2 with c2 | c2
    · omega
    · exact c2.1
  exact cutS_wf hW a1.1 c1 (by have := a1.2.1; omega) hP
theorem tl_nn {σ : ST} (hW : WF σ) : 0 ≤ s_tl σ := (tsum_nn (f := s_wa σ) (s_np σ).toNat (fun q q1 q2 => by have h3 := wf_n hW.1; have := wf_p hW.1 q (by omega); omega)).1

theorem tl_le {σ : ST} (hW : WF σ) : s_tl σ ≤ 108 := by
  obtain ⟨h0, cs, hg, hc⟩ := hW
  have := wf_n h0
  omega

set_option maxHeartbeats 4000000 in
set_option maxRecDepth 100000 in
theorem c_M_roomFrom (γ : tmG) (hst : γ.1.stackTraces = false) (Λ : tmL) (ρ : Nat → Nat) (th sf se : Int) (σ : ST) (hM : RM γ.2.2.1 Λ ρ th sf se σ) (hw : WF0 σ) (b : Int) (hb : 0 ≤ b ∧ b < s_nb σ) (pl : Int) (hpl : -1 ≤ pl ∧ pl ≤ 3010) : tm_Con γ (tm_h2 γ.2.1 γ.2.2.1 γ.2.2.2.1) M_X6_roomFrom 2 0 0 [.ref (ρ 0), .int (I (b)), .int (I (pl))] Λ (fun v w' => Λ = w' ∧ ∃ r, v = some (.int (I r)) ∧ isRF σ b pl (s_nm σ) r ∧ 0 ≤ r ∧ r ≤ 3010) := by
  refine tm_con hst (by decide) (Nat.le_of_ble_eq_true rfl) (fun x hB hR => ?_)
  have hg := hB.1
  subst hg
  have hC : tm_C x cX6_roomFrom RX6 (some FieldType.int) := hB.2.2.2.1
  obtain ⟨hm0, hm1, hm2, hm3, hm4, hm5, hm6, hmd⟩ := id hM
  have hn := wf_n hw
  show tm_V x (tm_H x Λ) 0 0 0 [(0, .ref (ρ 0)), (1, .int (I (b))), (2, .int (I (pl)))] []
  refine tm_iconst hC dX6_roomFrom_0 ?_
  refine tm_istore_n [(3, .int (I (0))), (0, .ref (ρ 0)), (1, .int (I (b))), (2, .int (I (pl)))] hC dX6_roomFrom_1 rfl (by rw [hB.2.1]; exact Nat.le_of_ble_eq_true rfl) rfl ?_
  refine tm_iconst hC dX6_roomFrom_2 ?_
  refine tm_istore [(4, .int (I (0))), (3, .int (I (0))), (0, .ref (ρ 0)), (1, .int (I (b))), (2, .int (I (pl)))] hC dX6_roomFrom_3 (by rw [hB.2.1]; exact Nat.le_of_ble_eq_true rfl) rfl ?_
  have hL_5 : ∀ (fu : Nat) (r : Int) (k : Int), ((0 ≤ k ∧ k ≤ s_nm σ) ∧ isRF σ b pl k r ∧ 0 ≤ r ∧ r ≤ 3010) → ((s_nm σ - k).toNat) < fu → tm_V x (tm_H x Λ) 0 0 5 [(0, .ref (ρ 0)), (1, .int (I (b))), (2, .int (I (pl))), (3, .int (I (r))), (4, .int (I (k)))] [] := by
    intro fu
    induction fu with
    | zero => intro r k hinv hm; exact absurd hm (Nat.not_lt_zero _)
    | succ fu ih_5 =>
      intro r k hinv_5 hm_5
      obtain ⟨hk, hg, hr0⟩ := hinv_5
      refine tm_iload 4 hC dX6_roomFrom_5 rfl ?_
      refine tm_aload_n 0 hC dX6_roomFrom_7 rfl rfl ?_
      refine tm_getf2 hC f_X6_63 hm0 rfl dX6_roomFrom_8 ?_
      refine tm_icmp_ge 56 hC dX6_roomFrom_11 (by decide) (by omega) (fun c_11 => ?_) (fun c_11 => ?_)
      · refine tm_iload_n 3 hC dX6_roomFrom_56 rfl rfl ?_
        exact tm_iret hC hR dX6_roomFrom_57 (⟨rfl, r, rfl, isRF_e (by omega) (by omega) hg, hr0⟩)
      · have hk9 := wf_k hw k (by omega)
        refine tm_aload_n 0 hC dX6_roomFrom_14 rfl rfl ?_
        refine tm_iload 4 hC dX6_roomFrom_15 rfl ?_
        refine tm_iload_n 1 hC dX6_roomFrom_17 rfl rfl ?_
        refine tm_callV (b := 0) (n := 0) (rest := []) hC (c_M_isOn (tm_g x) hst Λ ρ th sf se σ hM hw k (by omega) b (by omega) ) k_X6_66 (by rw [hB.2.2.1]; exact ⟨Nat.le_of_ble_eq_true rfl, Nat.le_of_ble_eq_true rfl⟩) rfl (tm_rec2 hC hm0 rfl) rfl (by decide) dX6_roomFrom_18 (fun v_18 w_18 hp_18 => ?_)
        obtain ⟨rfl, rfl, hb_18⟩ := hp_18
        show tm_V x (tm_H x Λ) 0 0 21 [(0, .ref (ρ 0)), (1, .int (I (b))), (2, .int (I (pl))), (3, .int (I (r))), (4, .int (I (k)))] [.int (I (bi (s_cu σ (4 * k) = b)))]
        refine tm_ifb_eq 50 hC dX6_roomFrom_21 (by decide) (fun c_21 => ?_) (fun c_21 => ?_)
        · refine tm_iinc 4 [(4, .int (I (k + 1))), (0, .ref (ρ 0)), (1, .int (I (b))), (2, .int (I (pl))), (3, .int (I (r)))] hC dX6_roomFrom_50 rfl (by rw [hB.2.1]; exact Nat.le_of_ble_eq_true rfl) rfl ?_
          refine tm_goto 5 hC dX6_roomFrom_53 (by decide) ?_
          refine tm_sub (L' := [(0, .ref (ρ 0)), (1, .int (I (b))), (2, .int (I (pl))), (3, .int (I (r))), (4, .int (I (k + 1)))]) [1, 2, 3, 4, 0] rfl ?_
          exact ih_5  r (k + 1) (⟨by omega, isRF_skip hg (fun e1 _ => c_21 e1), by omega⟩) (by omega)
        · refine tm_aload_n 0 hC dX6_roomFrom_24 rfl rfl ?_
          refine tm_iload 4 hC dX6_roomFrom_25 rfl ?_
          refine tm_callV (b := 0) (n := 0) (rest := []) hC (c_M_to (tm_g x) hst Λ ρ th sf se σ hM hw k (by omega) ) k_X6_73 (by rw [hB.2.2.1]; exact ⟨Nat.le_of_ble_eq_true rfl, Nat.le_of_ble_eq_true rfl⟩) rfl (tm_rec2 hC hm0 rfl) rfl (by decide) dX6_roomFrom_27 (fun v_27 w_27 hp_27 => ?_)
          obtain ⟨rfl, rfl, hb_27⟩ := hp_27
          show tm_V x (tm_H x Λ) 0 0 30 [(0, .ref (ρ 0)), (1, .int (I (b))), (2, .int (I (pl))), (3, .int (I (r))), (4, .int (I (k)))] [.int (I (s_cu σ (4 * k + 2)))]
          refine tm_iload_n 2 hC dX6_roomFrom_30 rfl rfl ?_
          refine tm_icmp_gt 50 hC dX6_roomFrom_31 (by decide) (by omega) (fun c_31 => ?_) (fun c_31 => ?_)
          · refine tm_iinc 4 [(4, .int (I (k + 1))), (0, .ref (ρ 0)), (1, .int (I (b))), (2, .int (I (pl))), (3, .int (I (r)))] hC dX6_roomFrom_50 rfl (by rw [hB.2.1]; exact Nat.le_of_ble_eq_true rfl) rfl ?_
            refine tm_goto 5 hC dX6_roomFrom_53 (by decide) ?_
            refine tm_sub (L' := [(0, .ref (ρ 0)), (1, .int (I (b))), (2, .int (I (pl))), (3, .int (I (r))), (4, .int (I (k + 1)))]) [1, 2, 3, 4, 0] rfl ?_
            exact ih_5  r (k + 1) (⟨by omega, isRF_skip hg (fun _ e2 => by omega), by omega⟩) (by omega)
          · refine tm_iload_n 3 hC dX6_roomFrom_34 rfl rfl ?_
            refine tm_aload_n 0 hC dX6_roomFrom_35 rfl rfl ?_
            refine tm_iload 4 hC dX6_roomFrom_36 rfl ?_
            refine tm_callV (b := 0) (n := 0) (rest := [.int (I (r))]) hC (c_M_to (tm_g x) hst Λ ρ th sf se σ hM hw k (by omega) ) k_X6_73 (by rw [hB.2.2.1]; exact ⟨Nat.le_of_ble_eq_true rfl, Nat.le_of_ble_eq_true rfl⟩) rfl (tm_rec2 hC hm0 rfl) rfl (by simp [Value.category]) dX6_roomFrom_38 (fun v_38 w_38 hp_38 => ?_)
            obtain ⟨rfl, rfl, hb_38⟩ := hp_38
            show tm_V x (tm_H x Λ) 0 0 41 [(0, .ref (ρ 0)), (1, .int (I (b))), (2, .int (I (pl))), (3, .int (I (r))), (4, .int (I (k)))] [.int (I (s_cu σ (4 * k + 2))), .int (I (r))]
            refine tm_aload_n 0 hC dX6_roomFrom_41 rfl rfl ?_
            refine tm_getf2 hC f_X6_23 hm0 rfl dX6_roomFrom_42 ?_
            refine tm_iadd hC dX6_roomFrom_45 ?_
            refine tm_mm hC true x_X6_83 (by omega) (by rw [hB.2.2.1]; exact ⟨Nat.le_of_ble_eq_true rfl, Nat.le_of_ble_eq_true rfl⟩) ((by decide)) dX6_roomFrom_46 ?_
            show tm_V x (tm_H x Λ) 0 0 49 [(0, .ref (ρ 0)), (1, .int (I (b))), (2, .int (I (pl))), (3, .int (I (r))), (4, .int (I (k)))] [.int (I (max r ((s_cu σ (4 * k + 2)) + (s_sw σ))))]
            refine tm_istore_n [(3, .int (I (max r ((s_cu σ (4 * k + 2)) + (s_sw σ))))), (0, .ref (ρ 0)), (1, .int (I (b))), (2, .int (I (pl))), (4, .int (I (k)))] hC dX6_roomFrom_49 rfl (by rw [hB.2.1]; exact Nat.le_of_ble_eq_true rfl) rfl ?_
            refine tm_iinc 4 [(4, .int (I (k + 1))), (3, .int (I (max r ((s_cu σ (4 * k + 2)) + (s_sw σ))))), (0, .ref (ρ 0)), (1, .int (I (b))), (2, .int (I (pl)))] hC dX6_roomFrom_50 rfl (by rw [hB.2.1]; exact Nat.le_of_ble_eq_true rfl) rfl ?_
            refine tm_goto 5 hC dX6_roomFrom_53 (by decide) ?_
            refine tm_sub (L' := [(0, .ref (ρ 0)), (1, .int (I (b))), (2, .int (I (pl))), (3, .int (I (max r ((s_cu σ (4 * k + 2)) + (s_sw σ))))), (4, .int (I (k + 1)))]) [2, 3, 4, 1, 0] rfl ?_
            exact ih_5  (max r ((s_cu σ (4 * k + 2)) + (s_sw σ))) (k + 1) (⟨by omega, isRF_take (by omega) hg c_21 (by omega), by omega⟩) (by omega)
  refine tm_sub (L' := [(0, .ref (ρ 0)), (1, .int (I (b))), (2, .int (I (pl))), (3, .int (I (0))), (4, .int (I (0)))]) [2, 3, 4, 1, 0] rfl ?_
  exact hL_5 _ 0 0 (⟨by omega, ⟨by omega, fun j hj => by omega, Or.inl rfl⟩, by omega⟩) (Nat.lt_succ_self _)

set_option maxHeartbeats 4000000 in
set_option maxRecDepth 100000 in
theorem c_M_roomTo (γ : tmG) (hst : γ.1.stackTraces = false) (Λ : tmL) (ρ : Nat → Nat) (th sf se : Int) (σ : ST) (hM : RM γ.2.2.1 Λ ρ th sf se σ) (hw : WF0 σ) (b : Int) (hb : 0 ≤ b ∧ b < s_nb σ) (pl : Int) (hpl : -1 ≤ pl ∧ pl ≤ 3010) : tm_Con γ (tm_h2 γ.2.1 γ.2.2.1 γ.2.2.2.1) M_X6_roomTo 2 0 0 [.ref (ρ 0), .int (I (b)), .int (I (pl))] Λ (fun v w' => Λ = w' ∧ ∃ r, v = some (.int (I r)) ∧ isRT σ b pl (s_nm σ) r ∧ -10 ≤ r ∧ r ≤ 3000) := by
  refine tm_con hst (by decide) (Nat.le_of_ble_eq_true rfl) (fun x hB hR => ?_)
  have hg := hB.1
  subst hg
  have hC : tm_C x cX6_roomTo RX6 (some FieldType.int) := hB.2.2.2.1
  obtain ⟨hm0, hm1, hm2, hm3, hm4, hm5, hm6, hmd⟩ := id hM
  have hn := wf_n hw
  show tm_V x (tm_H x Λ) 0 0 0 [(0, .ref (ρ 0)), (1, .int (I (b))), (2, .int (I (pl)))] []
  refine tm_aload_n 0 hC dX6_roomTo_0 rfl rfl ?_
  refine tm_iload_n 1 hC dX6_roomTo_1 rfl rfl ?_
  refine tm_callV (b := 0) (n := 0) (rest := []) hC (c_M_length (tm_g x) hst Λ ρ th sf se σ hM hw b (by omega) ) k_X6_57 (by rw [hB.2.2.1]; exact ⟨Nat.le_of_ble_eq_true rfl, Nat.le_of_ble_eq_true rfl⟩) rfl (tm_rec2 hC hm0 rfl) rfl (by decide) dX6_roomTo_2 (fun v_2 w_2 hp_2 => ?_)
  obtain ⟨rfl, rfl, hb_2⟩ := hp_2
  show tm_V x (tm_H x Λ) 0 0 5 [(0, .ref (ρ 0)), (1, .int (I (b))), (2, .int (I (pl)))] [.int (I (s_wo σ (3 * b)))]
  refine tm_istore_n [(3, .int (I (s_wo σ (3 * b)))), (0, .ref (ρ 0)), (1, .int (I (b))), (2, .int (I (pl)))] hC dX6_roomTo_5 rfl (by rw [hB.2.1]; exact Nat.le_of_ble_eq_true rfl) rfl ?_
  refine tm_iconst hC dX6_roomTo_6 ?_
  refine tm_istore [(4, .int (I (0))), (3, .int (I (s_wo σ (3 * b)))), (0, .ref (ρ 0)), (1, .int (I (b))), (2, .int (I (pl)))] hC dX6_roomTo_7 (by rw [hB.2.1]; exact Nat.le_of_ble_eq_true rfl) rfl ?_
  have hL_9 : ∀ (fu : Nat) (r : Int) (k : Int), ((0 ≤ k ∧ k ≤ s_nm σ) ∧ isRT σ b pl k r ∧ -10 ≤ r ∧ r ≤ 3000) → ((s_nm σ - k).toNat) < fu → tm_V x (tm_H x Λ) 0 0 9 [(0, .ref (ρ 0)), (1, .int (I (b))), (2, .int (I (pl))), (3, .int (I (r))), (4, .int (I (k)))] [] := by
    intro fu
    induction fu with
    | zero => intro r k hinv hm; exact absurd hm (Nat.not_lt_zero _)
    | succ fu ih_9 =>
      intro r k hinv_9 hm_9
      obtain ⟨hk, hg, hr0⟩ := hinv_9
      refine tm_iload 4 hC dX6_roomTo_9 rfl ?_
      refine tm_aload_n 0 hC dX6_roomTo_11 rfl rfl ?_
      refine tm_getf2 hC f_X6_63 hm0 rfl dX6_roomTo_12 ?_
      refine tm_icmp_ge 60 hC dX6_roomTo_15 (by decide) (by omega) (fun c_15 => ?_) (fun c_15 => ?_)
      · refine tm_iload_n 3 hC dX6_roomTo_60 rfl rfl ?_
        exact tm_iret hC hR dX6_roomTo_61 (⟨rfl, r, rfl, isRT_e (by omega) (by omega) hg, hr0⟩)
      · have hk9 := wf_k hw k (by omega)
        refine tm_aload_n 0 hC dX6_roomTo_18 rfl rfl ?_
        refine tm_iload 4 hC dX6_roomTo_19 rfl ?_
        refine tm_iload_n 1 hC dX6_roomTo_21 rfl rfl ?_
        refine tm_callV (b := 0) (n := 0) (rest := []) hC (c_M_isOn (tm_g x) hst Λ ρ th sf se σ hM hw k (by omega) b (by omega) ) k_X6_66 (by rw [hB.2.2.1]; exact ⟨Nat.le_of_ble_eq_true rfl, Nat.le_of_ble_eq_true rfl⟩) rfl (tm_rec2 hC hm0 rfl) rfl (by decide) dX6_roomTo_22 (fun v_22 w_22 hp_22 => ?_)
        obtain ⟨rfl, rfl, hb_22⟩ := hp_22
        show tm_V x (tm_H x Λ) 0 0 25 [(0, .ref (ρ 0)), (1, .int (I (b))), (2, .int (I (pl))), (3, .int (I (r))), (4, .int (I (k)))] [.int (I (bi (s_cu σ (4 * k) = b)))]
        refine tm_ifb_eq 54 hC dX6_roomTo_25 (by decide) (fun c_25 => ?_) (fun c_25 => ?_)
        · refine tm_iinc 4 [(4, .int (I (k + 1))), (0, .ref (ρ 0)), (1, .int (I (b))), (2, .int (I (pl))), (3, .int (I (r)))] hC dX6_roomTo_54 rfl (by rw [hB.2.1]; exact Nat.le_of_ble_eq_true rfl) rfl ?_
          refine tm_goto 9 hC dX6_roomTo_57 (by decide) ?_
          refine tm_sub (L' := [(0, .ref (ρ 0)), (1, .int (I (b))), (2, .int (I (pl))), (3, .int (I (r))), (4, .int (I (k + 1)))]) [1, 2, 3, 4, 0] rfl ?_
          exact ih_9  r (k + 1) (⟨by omega, isRT_skip hg (fun e1 _ => c_25 e1), by omega⟩) (by omega)
        · refine tm_aload_n 0 hC dX6_roomTo_28 rfl rfl ?_
          refine tm_iload 4 hC dX6_roomTo_29 rfl ?_
          refine tm_callV (b := 0) (n := 0) (rest := []) hC (c_M_from (tm_g x) hst Λ ρ th sf se σ hM hw k (by omega) ) k_X6_70 (by rw [hB.2.2.1]; exact ⟨Nat.le_of_ble_eq_true rfl, Nat.le_of_ble_eq_true rfl⟩) rfl (tm_rec2 hC hm0 rfl) rfl (by decide) dX6_roomTo_31 (fun v_31 w_31 hp_31 => ?_)
          obtain ⟨rfl, rfl, hb_31⟩ := hp_31
          show tm_V x (tm_H x Λ) 0 0 34 [(0, .ref (ρ 0)), (1, .int (I (b))), (2, .int (I (pl))), (3, .int (I (r))), (4, .int (I (k)))] [.int (I (s_cu σ (4 * k + 1)))]
          refine tm_iload_n 2 hC dX6_roomTo_34 rfl rfl ?_
          refine tm_icmp_le 54 hC dX6_roomTo_35 (by decide) (by omega) (fun c_35 => ?_) (fun c_35 => ?_)
          · refine tm_iinc 4 [(4, .int (I (k + 1))), (0, .ref (ρ 0)), (1, .int (I (b))), (2, .int (I (pl))), (3, .int (I (r)))] hC dX6_roomTo_54 rfl (by rw [hB.2.1]; exact Nat.le_of_ble_eq_true rfl) rfl ?_
            refine tm_goto 9 hC dX6_roomTo_57 (by decide) ?_
            refine tm_sub (L' := [(0, .ref (ρ 0)), (1, .int (I (b))), (2, .int (I (pl))), (3, .int (I (r))), (4, .int (I (k + 1)))]) [1, 2, 3, 4, 0] rfl ?_
            exact ih_9  r (k + 1) (⟨by omega, isRT_skip hg (fun _ e2 => by omega), by omega⟩) (by omega)
          · refine tm_iload_n 3 hC dX6_roomTo_38 rfl rfl ?_
            refine tm_aload_n 0 hC dX6_roomTo_39 rfl rfl ?_
            refine tm_iload 4 hC dX6_roomTo_40 rfl ?_
            refine tm_callV (b := 0) (n := 0) (rest := [.int (I (r))]) hC (c_M_from (tm_g x) hst Λ ρ th sf se σ hM hw k (by omega) ) k_X6_70 (by rw [hB.2.2.1]; exact ⟨Nat.le_of_ble_eq_true rfl, Nat.le_of_ble_eq_true rfl⟩) rfl (tm_rec2 hC hm0 rfl) rfl (by simp [Value.category]) dX6_roomTo_42 (fun v_42 w_42 hp_42 => ?_)
            obtain ⟨rfl, rfl, hb_42⟩ := hp_42
            show tm_V x (tm_H x Λ) 0 0 45 [(0, .ref (ρ 0)), (1, .int (I (b))), (2, .int (I (pl))), (3, .int (I (r))), (4, .int (I (k)))] [.int (I (s_cu σ (4 * k + 1))), .int (I (r))]
            refine tm_aload_n 0 hC dX6_roomTo_45 rfl rfl ?_
            refine tm_getf2 hC f_X6_23 hm0 rfl dX6_roomTo_46 ?_
            refine tm_isub hC dX6_roomTo_49 ?_
            refine tm_mm hC false x_X6_91 (by omega) (by rw [hB.2.2.1]; exact ⟨Nat.le_of_ble_eq_true rfl, Nat.le_of_ble_eq_true rfl⟩) ((by decide)) dX6_roomTo_50 ?_
            show tm_V x (tm_H x Λ) 0 0 53 [(0, .ref (ρ 0)), (1, .int (I (b))), (2, .int (I (pl))), (3, .int (I (r))), (4, .int (I (k)))] [.int (I (min r ((s_cu σ (4 * k + 1)) - (s_sw σ))))]
            refine tm_istore_n [(3, .int (I (min r ((s_cu σ (4 * k + 1)) - (s_sw σ))))), (0, .ref (ρ 0)), (1, .int (I (b))), (2, .int (I (pl))), (4, .int (I (k)))] hC dX6_roomTo_53 rfl (by rw [hB.2.1]; exact Nat.le_of_ble_eq_true rfl) rfl ?_
            refine tm_iinc 4 [(4, .int (I (k + 1))), (3, .int (I (min r ((s_cu σ (4 * k + 1)) - (s_sw σ))))), (0, .ref (ρ 0)), (1, .int (I (b))), (2, .int (I (pl)))] hC dX6_roomTo_54 rfl (by rw [hB.2.1]; exact Nat.le_of_ble_eq_true rfl) rfl ?_
            refine tm_goto 9 hC dX6_roomTo_57 (by decide) ?_
            refine tm_sub (L' := [(0, .ref (ρ 0)), (1, .int (I (b))), (2, .int (I (pl))), (3, .int (I (min r ((s_cu σ (4 * k + 1)) - (s_sw σ))))), (4, .int (I (k + 1)))]) [2, 3, 4, 1, 0] rfl ?_
            exact ih_9  (min r ((s_cu σ (4 * k + 1)) - (s_sw σ))) (k + 1) (⟨by omega, isRT_take (by omega) hg c_25 (by omega), by omega⟩) (by omega)
  refine tm_sub (L' := [(0, .ref (ρ 0)), (1, .int (I (b))), (2, .int (I (pl))), (3, .int (I (s_wo σ (3 * b)))), (4, .int (I (0)))]) [2, 3, 4, 1, 0] rfl ?_
  exact hL_9 _ (s_wo σ (3 * b)) 0 (⟨by omega, ⟨by omega, fun j hj => by omega, Or.inl rfl⟩, by omega⟩) (Nat.lt_succ_self _)

set_option maxHeartbeats 4000000 in
set_option maxRecDepth 100000 in
theorem c_M_isAhead (γ : tmG) (hst : γ.1.stackTraces = false) (Λ : tmL) (ρ : Nat → Nat) (th sf se : Int) (σ : ST) (hM : RM γ.2.2.1 Λ ρ th sf se σ) (hw : WF0 σ) (p : Int) (hp : 0 ≤ p ∧ p < s_np σ) (q : Int) (hq : 0 ≤ q ∧ q < s_np σ) : tm_Con γ (tm_h2 γ.2.1 γ.2.2.1 γ.2.2.2.1) M_X6_isAhead 2 0 0 [.ref (ρ 0), .int (I (p)), .int (I (q))] Λ (fun v w' => Λ = w' ∧ v = some (.int (I (bi (s_wa σ (4 * q + 0) < s_wa σ (4 * p + 0) ∨ (s_wa σ (4 * p + 0) = s_wa σ (4 * q + 0) ∧ s_wa σ (4 * p + 2) < s_wa σ (4 * q + 2))))))) := by
  refine tm_con hst (by decide) (Nat.le_of_ble_eq_true rfl) (fun x hB hR => ?_)
  have hg := hB.1
  subst hg
  have hC : tm_C x cX6_isAhead RX6 (some FieldType.boolean) := hB.2.2.2.1
  obtain ⟨hm0, hm1, hm2, hm3, hm4, hm5, hm6, hmd⟩ := id hM
  have hn := wf_n hw
  show tm_V x (tm_H x Λ) 0 0 0 [(0, .ref (ρ 0)), (1, .int (I (p))), (2, .int (I (q)))] []
  refine tm_aload_n 0 hC dX6_isAhead_0 rfl rfl ?_
  refine tm_iload_n 1 hC dX6_isAhead_1 rfl rfl ?_
  refine tm_iconst hC dX6_isAhead_2 ?_
  refine tm_callV (b := 0) (n := 0) (rest := []) hC (c_M_want (tm_g x) hst Λ ρ th sf se σ hM hw p (by omega) 0 (by omega) ) k_X6_79 (by rw [hB.2.2.1]; exact ⟨Nat.le_of_ble_eq_true rfl, Nat.le_of_ble_eq_true rfl⟩) rfl (tm_rec2 hC hm0 rfl) rfl (by decide) dX6_isAhead_3 (fun v_3 w_3 hp_3 => ?_)
  obtain ⟨rfl, rfl, hb_3⟩ := hp_3
  show tm_V x (tm_H x Λ) 0 0 6 [(0, .ref (ρ 0)), (1, .int (I (p))), (2, .int (I (q)))] [.int (I (s_wa σ (4 * p + 0)))]
  refine tm_aload_n 0 hC dX6_isAhead_6 rfl rfl ?_
  refine tm_iload_n 2 hC dX6_isAhead_7 rfl rfl ?_
  refine tm_iconst hC dX6_isAhead_8 ?_
  refine tm_callV (b := 0) (n := 0) (rest := [.int (I (s_wa σ (4 * p + 0)))]) hC (c_M_want (tm_g x) hst Λ ρ th sf se σ hM hw q (by omega) 0 (by omega) ) k_X6_79 (by rw [hB.2.2.1]; exact ⟨Nat.le_of_ble_eq_true rfl, Nat.le_of_ble_eq_true rfl⟩) rfl (tm_rec2 hC hm0 rfl) rfl (by simp [Value.category]) dX6_isAhead_9 (fun v_9 w_9 hp_9 => ?_)
  obtain ⟨rfl, rfl, hb_9⟩ := hp_9
  show tm_V x (tm_H x Λ) 0 0 12 [(0, .ref (ρ 0)), (1, .int (I (p))), (2, .int (I (q)))] [.int (I (s_wa σ (4 * q + 0))), .int (I (s_wa σ (4 * p + 0)))]
  refine tm_icmp_eq 36 hC dX6_isAhead_12 (by decide) (by omega) (fun c_12 => ?_) (fun c_12 => ?_)
  · refine tm_aload_n 0 hC dX6_isAhead_36 rfl rfl ?_
    refine tm_iload_n 1 hC dX6_isAhead_37 rfl rfl ?_
    refine tm_iconst hC dX6_isAhead_38 ?_
    refine tm_callV (b := 0) (n := 0) (rest := []) hC (c_M_want (tm_g x) hst Λ ρ th sf se σ hM hw p (by omega) 2 (by omega) ) k_X6_79 (by rw [hB.2.2.1]; exact ⟨Nat.le_of_ble_eq_true rfl, Nat.le_of_ble_eq_true rfl⟩) rfl (tm_rec2 hC hm0 rfl) rfl (by decide) dX6_isAhead_39 (fun v_39 w_39 hp_39 => ?_)
    obtain ⟨rfl, rfl, hb_39⟩ := hp_39
    show tm_V x (tm_H x Λ) 0 0 42 [(0, .ref (ρ 0)), (1, .int (I (p))), (2, .int (I (q)))] [.int (I (s_wa σ (4 * p + 2)))]
    refine tm_aload_n 0 hC dX6_isAhead_42 rfl rfl ?_
    refine tm_iload_n 2 hC dX6_isAhead_43 rfl rfl ?_
    refine tm_iconst hC dX6_isAhead_44 ?_
    refine tm_callV (b := 0) (n := 0) (rest := [.int (I (s_wa σ (4 * p + 2)))]) hC (c_M_want (tm_g x) hst Λ ρ th sf se σ hM hw q (by omega) 2 (by omega) ) k_X6_79 (by rw [hB.2.2.1]; exact ⟨Nat.le_of_ble_eq_true rfl, Nat.le_of_ble_eq_true rfl⟩) rfl (tm_rec2 hC hm0 rfl) rfl (by simp [Value.category]) dX6_isAhead_45 (fun v_45 w_45 hp_45 => ?_)
    obtain ⟨rfl, rfl, hb_45⟩ := hp_45
    show tm_V x (tm_H x Λ) 0 0 48 [(0, .ref (ρ 0)), (1, .int (I (p))), (2, .int (I (q)))] [.int (I (s_wa σ (4 * q + 2))), .int (I (s_wa σ (4 * p + 2)))]
    refine tm_icmp_ge 55 hC dX6_isAhead_48 (by decide) (by omega) (fun c_48 => ?_) (fun c_48 => ?_)
    · refine tm_iconst hC dX6_isAhead_55 ?_
      exact tm_zret hC hR dX6_isAhead_56 (by omega) (⟨rfl, by rw [bi_f (by omega)]⟩)
    · refine tm_iconst hC dX6_isAhead_51 ?_
      refine tm_goto 56 hC dX6_isAhead_52 (by decide) ?_
      exact tm_zret hC hR dX6_isAhead_56 (by omega) (⟨rfl, by rw [bi_t (by omega)]⟩)
  · refine tm_aload_n 0 hC dX6_isAhead_15 rfl rfl ?_
    refine tm_iload_n 1 hC dX6_isAhead_16 rfl rfl ?_
    refine tm_iconst hC dX6_isAhead_17 ?_
    refine tm_callV (b := 0) (n := 0) (rest := []) hC (c_M_want (tm_g x) hst Λ ρ th sf se σ hM hw p (by omega) 0 (by omega) ) k_X6_79 (by rw [hB.2.2.1]; exact ⟨Nat.le_of_ble_eq_true rfl, Nat.le_of_ble_eq_true rfl⟩) rfl (tm_rec2 hC hm0 rfl) rfl (by decide) dX6_isAhead_18 (fun v_18 w_18 hp_18 => ?_)
    obtain ⟨rfl, rfl, hb_18⟩ := hp_18
    show tm_V x (tm_H x Λ) 0 0 21 [(0, .ref (ρ 0)), (1, .int (I (p))), (2, .int (I (q)))] [.int (I (s_wa σ (4 * p + 0)))]
    refine tm_aload_n 0 hC dX6_isAhead_21 rfl rfl ?_
    refine tm_iload_n 2 hC dX6_isAhead_22 rfl rfl ?_
    refine tm_iconst hC dX6_isAhead_23 ?_
    refine tm_callV (b := 0) (n := 0) (rest := [.int (I (s_wa σ (4 * p + 0)))]) hC (c_M_want (tm_g x) hst Λ ρ th sf se σ hM hw q (by omega) 0 (by omega) ) k_X6_79 (by rw [hB.2.2.1]; exact ⟨Nat.le_of_ble_eq_true rfl, Nat.le_of_ble_eq_true rfl⟩) rfl (tm_rec2 hC hm0 rfl) rfl (by simp [Value.category]) dX6_isAhead_24 (fun v_24 w_24 hp_24 => ?_)
    obtain ⟨rfl, rfl, hb_24⟩ := hp_24
    show tm_V x (tm_H x Λ) 0 0 27 [(0, .ref (ρ 0)), (1, .int (I (p))), (2, .int (I (q)))] [.int (I (s_wa σ (4 * q + 0))), .int (I (s_wa σ (4 * p + 0)))]
    refine tm_icmp_le 34 hC dX6_isAhead_27 (by decide) (by omega) (fun c_27 => ?_) (fun c_27 => ?_)
    · refine tm_iconst hC dX6_isAhead_34 ?_
      exact tm_zret hC hR dX6_isAhead_35 (by omega) (⟨rfl, by rw [bi_f (by omega)]⟩)
    · refine tm_iconst hC dX6_isAhead_30 ?_
      refine tm_goto 35 hC dX6_isAhead_31 (by decide) ?_
      exact tm_zret hC hR dX6_isAhead_35 (by omega) (⟨rfl, by rw [bi_t (by omega)]⟩)

/-- the best of the parts ahead of n -/
def bestN (σ : ST) (n best : Int) : Prop := (best = -1 ∧ ∀ q, q < n → ¬ canP σ q) ∨ ((0 ≤ best ∧ best < n) ∧ canP σ best ∧ ∀ q, q < n → canP σ q → q = best ∨ prec σ best q)
theorem bestN_no {σ : ST} {n best : Int} (h : bestN σ n best) (hn : ¬ canP σ n) : bestN σ (n + 1) best := by
  rcases h with ⟨h1, h2⟩ | ⟨h1, h2, h3⟩
  · refine Or.inl ⟨h1, fun q hq => ?_⟩
    by_cases e : q = n
    · rw [e]; exact hn
    · exact h2 q (by omega)
  · refine Or.inr ⟨by omega, h2, fun q hq hc => ?_⟩
    by_cases e : q = n
    · rw [e] at hc; exact absurd hc hn
    · exact h3 q (by omega) hc
theorem bestN_first {σ : ST} {n : Int} (h : bestN σ n (-1)) (h0 : 0 ≤ n) (hn : canP σ n) : bestN σ (n + 1) n := by
  rcases h with ⟨h1, h2⟩ | ⟨h1, h2, h3⟩
  · refine Or.inr ⟨by omega, hn, fun q hq hc => ?_⟩
    by_cases e : q = n
    · exact Or.inl e
    · exact absurd hc (h2 q (by omega))
  · omega
theorem bestN_new {σ : ST} {n best : Int} (h : bestN σ n best) (hb : ¬ best = -1) (hn : canP σ n) (ha : s_wa σ (4 * best + 0) < s_wa σ (4 * n + 0) ∨ (s_wa σ (4 * n + 0) = s_wa σ (4 * best + 0) ∧ s_wa σ (4 * n + 2) < s_wa σ (4 * best + 2))) : bestN σ (n + 1) n := by
  rcases h with ⟨h1, h2⟩ | ⟨h1, h2, h3⟩
  · omega
  · refine Or.inr ⟨by omega, hn, fun q hq hc => ?_⟩
    by_cases e : q = n
    · exact Or.inl e
    · rcases h3 q (by omega) hc with e | e
      · subst e; exact Or.inr (by unfold prec; omega)
      · exact Or.inr (by unfold prec at e ⊢; omega)
theorem bestN_old {σ : ST} {n best : Int} (h : bestN σ n best) (hb : ¬ best = -1) (ha : ¬ (s_wa σ (4 * best + 0) < s_wa σ (4 * n + 0) ∨ (s_wa σ (4 * n + 0) = s_wa σ (4 * best + 0) ∧ s_wa σ (4 * n + 2) < s_wa σ (4 * best + 2)))) : bestN σ (n + 1) best := by
  rcases h with ⟨h1, h2⟩ | ⟨h1, h2, h3⟩
  · omega
  · refine Or.inr ⟨by omega, h2, fun q hq hc => ?_⟩
    by_cases e : q = n
    · subst e; exact Or.inr (by unfold prec; omega)
    · exact h3 q (by omega) hc
/-- the tightest of the boards ahead of n -/
def onN (σ : ST) (p n on least : Int) : Prop := (on = -1 ∧ ∀ b pl, 0 ≤ b ∧ b < n → isEarl σ p b pl → pl = -1) ∨ ((0 ≤ on ∧ on < n) ∧ (∃ pl, isEarl σ p on pl ∧ 0 ≤ pl ∧ roomR σ on pl least) ∧ ∀ b pl r, 0 ≤ b ∧ b < n → isEarl σ p b pl → 0 ≤ pl → roomR σ b pl r → least < r ∨ (least = r ∧ on ≤ b))
theorem isEarl_nn {σ : ST} {p b r : Int} (h : isEarl σ p b r) (hr : r ≠ -1) : 0 ≤ r := by
  rcases h with h | h
  · omega
  · exact h.1.1
theorem onN_no {σ : ST} {p n on least : Int} (h : onN σ p n on least) (he : isEarl σ p n (-1)) : onN σ p (n + 1) on least := by
  rcases h with ⟨h1, h2⟩ | ⟨h1, h2, h3⟩
  · refine Or.inl ⟨h1, fun b pl hb hc => ?_⟩
    by_cases e : b = n
    · subst e; exact isEarl_u hc he
    · exact h2 b pl (by omega) hc
  · refine Or.inr ⟨by omega, h2, fun b pl r hb hc hp hr => ?_⟩
    by_cases e : b = n
    · subst e; have := isEarl_u hc he; omega
    · exact h3 b pl r (by omega) hc hp hr
theorem onN_new {σ : ST} {p n on least pl r : Int} (h : onN σ p n on least) (h0 : 0 ≤ n) (he : isEarl σ p n pl) (hp : 0 ≤ pl) (hr : roomR σ n pl r) (hn : on = -1 ∨ r < least) : onN σ p (n + 1) n r := by
  refine Or.inr ⟨by omega, ⟨pl, he, hp, hr⟩, fun b pl' r' hb hc hp' hr' => ?_⟩
  by_cases e : b = n
  · subst e
    have e2 := isEarl_u hc he
    subst e2
    have e3 := roomR_u hr hr'
    omega
  · rcases h with ⟨h1, h2⟩ | ⟨h1, h2, h3⟩
    · have := h2 b pl' (by omega) hc; omega
    · have := h3 b pl' r' (by omega) hc hp' hr'; omega
theorem onN_old {σ : ST} {p n on least pl r : Int} (h : onN σ p n on least) (he : isEarl σ p n pl) (hp : 0 ≤ pl) (hr : roomR σ n pl r) (hn : ¬ on = -1) (hl : least ≤ r) : onN σ p (n + 1) on least := by
  rcases h with ⟨h1, h2⟩ | ⟨h1, h2, h3⟩
  · omega
  · refine Or.inr ⟨by omega, h2, fun b pl' r' hb hc hp' hr' => ?_⟩
    by_cases e : b = n
    · subst e
      have e2 := isEarl_u hc he
      subst e2
      have e3 := roomR_u hr hr'
      omega
    · exact h3 b pl' r' (by omega) hc hp' hr'
theorem onN_best {σ : ST} {p n on least : Int} (h : onN σ p n on least) (h1 : s_nb σ ≤ n) (h2 : n ≤ s_nb σ) (hc : canP σ p) (hE : ∀ b, 0 ≤ b ∧ b < s_nb σ → ∃ r, isEarl σ p b r) : ∃ pl, (0 ≤ on ∧ on < s_nb σ) ∧ isEarl σ p on pl ∧ 0 ≤ pl ∧ bestB σ p on pl := by
  have e : n = s_nb σ := by omega
  subst e
  rcases h with ⟨g1, g2⟩ | ⟨g1, ⟨pl, g2, g3, g4⟩, g5⟩
  · obtain ⟨-, -, b, q, hb, hq⟩ := hc
    obtain ⟨r, hr⟩ := hE b hb
    have := g2 b r hb hr
    rcases hr with hr | hr
    · exact absurd hq (hr.2 q)
    · have := hr.1.1; omega
  · exact ⟨pl, g1, g2, g3, g1, g2, g3, least, g4, g5⟩
theorem isEarl_ex (σ : ST) (p b : Int) : ∃ r, isEarl σ p b r := by
  by_cases h : ∃ q, 0 ≤ q ∧ Poss σ p (s_wa σ (4 * p + 0)) b q
  · obtain ⟨r, r1, r2, r3⟩ := pk_leastI (fun q => Poss σ p (s_wa σ (4 * p + 0)) b q) 0 h
    refine ⟨r, Or.inr ⟨r2, fun q hq z => ?_⟩⟩
    exact r3 q z.1 hq z
  · exact ⟨-1, Or.inl ⟨rfl, fun q z => h ⟨q, z.1, z⟩⟩⟩

theorem canP_of {σ : ST} {p b r : Int} (hp : 0 ≤ p ∧ p < s_np σ) (hl : 0 < s_wa σ (4 * p + 3)) (hb : 0 ≤ b ∧ b < s_nb σ) (he : isEarl σ p b r) (hr : ¬ r = -1) : canP σ p := by
  rcases he with he | he
  · exact absurd he.1 hr
  · exact ⟨hp, hl, b, r, hb, he.1⟩
theorem canP_not {σ : ST} {p b : Int} (hb : s_nb σ ≤ b) (h : 0 < s_wa σ (4 * p + 3) → ∀ j, 0 ≤ j ∧ j < b → isEarl σ p j (-1)) : ¬ canP σ p := by
  rintro ⟨h1, h2, j, q, h3, h4⟩
  rcases h h2 j (by omega) with h5 | h5
  · exact h5.2 q h4
  · have := h5.1.1; omega

set_option maxHeartbeats 4000000 in
set_option maxRecDepth 100000 in
theorem c_M_planOne (γ : tmG) (hst : γ.1.stackTraces = false) (Λ : tmL) (ρ : Nat → Nat) (th sf se : Int) (σ : ST) (hM : RM γ.2.2.1 Λ ρ th sf se σ) (hw : WF0 σ) (hW : WF σ) : tm_Con γ (tm_h2 γ.2.1 γ.2.2.1 γ.2.2.2.1) M_X6_planOne 4 0 0 [.ref (ρ 0)] Λ (fun v w' => ∃ σ', RM γ.2.2.1 w' ρ th sf se σ' ∧ ((PlanStep σ σ' ∧ v = some (.int (I 1))) ∨ ((∀ p, ¬ canP σ p) ∧ σ = σ' ∧ v = some (.int (I 0))))) := by
  refine tm_con hst (by decide) (Nat.le_of_ble_eq_true rfl) (fun x hB hR => ?_)
  have hg := hB.1
  subst hg
  have hC : tm_C x cX6_planOne RX6 (some FieldType.boolean) := hB.2.2.2.1
  obtain ⟨hm0, hm1, hm2, hm3, hm4, hm5, hm6, hmd⟩ := id hM
  have hn := wf_n hw
  show tm_V x (tm_H x Λ) 0 0 0 [(0, .ref (ρ 0))] []
  refine tm_iconst hC dX6_planOne_0 ?_
  refine tm_istore_n [(1, .int (I ((-1)))), (0, .ref (ρ 0))] hC dX6_planOne_1 rfl (by rw [hB.2.1]; exact Nat.le_of_ble_eq_true rfl) rfl ?_
  refine tm_iconst hC dX6_planOne_2 ?_
  refine tm_istore_n [(2, .int (I (0))), (1, .int (I ((-1)))), (0, .ref (ρ 0))] hC dX6_planOne_3 rfl (by rw [hB.2.1]; exact Nat.le_of_ble_eq_true rfl) rfl ?_
  have hL_4 : ∀ (fu : Nat) (best : Int) (pt : Int), ((0 ≤ pt ∧ pt ≤ s_np σ) ∧ bestN σ pt best ∧ -1 ≤ best ∧ best < s_np σ + 1 ∧ best < pt + 1) → ((s_np σ - pt).toNat) < fu → tm_V x (tm_H x Λ) 0 0 4 [(0, .ref (ρ 0)), (1, .int (I (best))), (2, .int (I (pt)))] [] := by
    intro fu
    induction fu with
    | zero => intro best pt hinv hm; exact absurd hm (Nat.not_lt_zero _)
    | succ fu ih_4 =>
      intro best pt hinv_4 hm_4
      obtain ⟨hpt, hbn, hbb⟩ := hinv_4
      refine tm_iload_n 2 hC dX6_planOne_4 rfl rfl ?_
      refine tm_aload_n 0 hC dX6_planOne_5 rfl rfl ?_
      refine tm_getf2 hC f_X6_46 hm0 rfl dX6_planOne_6 ?_
      refine tm_icmp_ge 88 hC dX6_planOne_9 (by decide) (by omega) (fun c_9 => ?_) (fun c_9 => ?_)
      · refine tm_iload_n 1 hC dX6_planOne_88 rfl rfl ?_
        refine tm_iconst hC dX6_planOne_89 ?_
        refine tm_icmp_ne 95 hC dX6_planOne_90 (by decide) (by omega) (fun c_90 => ?_) (fun c_90 => ?_)
        · have hbc : canP σ best := by rcases hbn with h | h; omega; exact h.2.1
          have hbe : 0 ≤ best ∧ best < s_np σ := hbc.1
          have hbl := hbc.2.1
          have hp8 := wf_p hw best hbe
          refine tm_iconst hC dX6_planOne_95 ?_
          refine tm_istore_n [(2, .int (I ((-1)))), (0, .ref (ρ 0)), (1, .int (I (best)))] hC dX6_planOne_96 rfl (by rw [hB.2.1]; exact Nat.le_of_ble_eq_true rfl) rfl ?_
          refine tm_iconst hC dX6_planOne_97 ?_
          refine tm_istore_n [(3, .int (I (0))), (2, .int (I ((-1)))), (0, .ref (ρ 0)), (1, .int (I (best)))] hC dX6_planOne_98 rfl (by rw [hB.2.1]; exact Nat.le_of_ble_eq_true rfl) rfl ?_
          refine tm_iconst hC dX6_planOne_99 ?_
          refine tm_istore [(4, .int (I (0))), (3, .int (I (0))), (2, .int (I ((-1)))), (0, .ref (ρ 0)), (1, .int (I (best)))] hC dX6_planOne_100 (by rw [hB.2.1]; exact Nat.le_of_ble_eq_true rfl) rfl ?_
          have hL_102 : ∀ (fu : Nat) (on : Int) (lst : Int) (b : Int), ((0 ≤ b ∧ b ≤ s_nb σ) ∧ onN σ best b on lst ∧ (-1 ≤ on ∧ on < s_nb σ + 1) ∧ -20000 ≤ lst ∧ lst ≤ 20000) → ((s_nb σ - b).toNat) < fu → tm_V x (tm_H x Λ) 0 0 102 [(0, .ref (ρ 0)), (1, .int (I (best))), (2, .int (I (on))), (3, .int (I (lst))), (4, .int (I (b)))] [] := by
            intro fu
            induction fu with
            | zero => intro on lst b hinv hm; exact absurd hm (Nat.not_lt_zero _)
            | succ fu ih_102 =>
              intro on lst b hinv_102 hm_102
              obtain ⟨hb102, hon, honb, hlst⟩ := hinv_102
              refine tm_iload 4 hC dX6_planOne_102 rfl ?_
              refine tm_aload_n 0 hC dX6_planOne_104 rfl rfl ?_
              refine tm_getf2 hC f_X6_39 hm0 rfl dX6_planOne_105 ?_
              refine tm_icmp_ge 174 hC dX6_planOne_108 (by decide) (by omega) (fun c_108 => ?_) (fun c_108 => ?_)
              · obtain ⟨pl8, hob, hoe, hop, hbB⟩ := onN_best hon (by omega) (by omega) hbc (fun b hb => isEarl_ex σ best b)
                have hrr := wf_room hW hbe (by omega)
                refine tm_aload_n 0 hC dX6_planOne_174 rfl rfl ?_
                refine tm_iload_n 1 hC dX6_planOne_175 rfl rfl ?_
                refine tm_iload_n 2 hC dX6_planOne_176 rfl rfl ?_
                refine tm_aload_n 0 hC dX6_planOne_177 rfl rfl ?_
                refine tm_iload_n 1 hC dX6_planOne_178 rfl rfl ?_
                refine tm_iload_n 2 hC dX6_planOne_179 rfl rfl ?_
                refine tm_callV (b := 0) (n := 0) (rest := [.int (I (on)), .int (I (best)), .ref (ρ 0)]) hC (c_M_earliestOn (tm_g x) hst Λ ρ th sf se σ hM hw best (by omega) on (by omega)) k_X6_121 (by rw [hB.2.2.1]; exact ⟨Nat.le_of_ble_eq_true rfl, Nat.le_of_ble_eq_true rfl⟩) rfl (tm_rec2 hC hm0 rfl) rfl (by simp [Value.category]) dX6_planOne_180 (fun v_180 w_180 hp_180 => ?_)
                obtain ⟨rfl, r_180, rfl, he_180, heb_180⟩ := hp_180
                show tm_V x (tm_H x Λ) 0 0 183 [(0, .ref (ρ 0)), (1, .int (I (best))), (2, .int (I (on))), (3, .int (I (lst))), (4, .int (I (b)))] [.int (I (r_180)), .int (I (on)), .int (I (best)), .ref (ρ 0)]
                have e180 : r_180 = pl8 := isEarl_u he_180 hoe
                have hPb : Poss σ best (s_wa σ (4 * best + 0)) on r_180 := by rcases he_180 with h | h; omega; exact h.1
                have hb8 := wf_b hw on hob
                have hPb2 := hPb.2.1
                refine tm_aload_n 0 hC dX6_planOne_183 rfl rfl ?_
                refine tm_iload_n 1 hC dX6_planOne_184 rfl rfl ?_
                refine tm_iconst hC dX6_planOne_185 ?_
                refine tm_callV (b := 0) (n := 0) (rest := [.int (I (r_180)), .int (I (on)), .int (I (best)), .ref (ρ 0)]) hC (c_M_want (tm_g x) hst Λ ρ th sf se σ hM hw best (by omega) 0 (by omega) ) k_X6_79 (by rw [hB.2.2.1]; exact ⟨Nat.le_of_ble_eq_true rfl, Nat.le_of_ble_eq_true rfl⟩) rfl (tm_rec2 hC hm0 rfl) rfl (by simp [Value.category]) dX6_planOne_186 (fun v_186 w_186 hp_186 => ?_)
                obtain ⟨rfl, rfl, hb_186⟩ := hp_186
                show tm_V x (tm_H x Λ) 0 0 189 [(0, .ref (ρ 0)), (1, .int (I (best))), (2, .int (I (on))), (3, .int (I (lst))), (4, .int (I (b)))] [.int (I (s_wa σ (4 * best + 0))), .int (I (r_180)), .int (I (on)), .int (I (best)), .ref (ρ 0)]
                refine tm_iconst hC dX6_planOne_189 ?_
                have hwf_190 : WF0 (addC σ best on r_180 (s_wa σ (4 * best + 0)) 0) := addC_wf hw (by omega) (by omega) (by omega) (by omega) (by omega) hPb
                refine tm_callV (b := 0) (n := 0) (rest := []) hC (c_M_add (tm_g x) hst Λ ρ th sf se σ hM hw best (by omega) on (by omega) r_180 (s_wa σ (4 * best + 0)) 0 (by omega)) k_X6_124 (by rw [hB.2.2.1]; exact ⟨Nat.le_of_ble_eq_true rfl, Nat.le_of_ble_eq_true rfl⟩) rfl (tm_rec2 hC hm0 rfl) rfl (by decide) dX6_planOne_190 (fun v_190 w_190 hp_190 => ?_)
                obtain ⟨ha_190, rfl⟩ := hp_190
                obtain ⟨hm0_190, hm1_190, hm2_190, hm3_190, hm4_190, hm5_190, hm6_190, -⟩ := id ha_190
                have en_190 : s_nm (addC σ best on r_180 (s_wa σ (4 * best + 0)) 0) = s_nm σ + 1 ∧ s_np (addC σ best on r_180 (s_wa σ (4 * best + 0)) 0) = s_np σ ∧ s_nb (addC σ best on r_180 (s_wa σ (4 * best + 0)) 0) = s_nb σ ∧ s_wa (addC σ best on r_180 (s_wa σ (4 * best + 0)) 0) = s_wa σ ∧ s_wo (addC σ best on r_180 (s_wa σ (4 * best + 0)) 0) = s_wo σ := ⟨by rfl, rfl, rfl, rfl, rfl⟩
                show tm_V x (tm_H x w_190) 0 0 193 [(0, .ref (ρ 0)), (1, .int (I (best))), (2, .int (I (on))), (3, .int (I (lst))), (4, .int (I (b)))] []
                refine tm_aload_n 0 hC dX6_planOne_193 rfl rfl ?_
                refine tm_iload_n 1 hC dX6_planOne_194 rfl rfl ?_
                refine tm_callV (b := 0) (n := 0) (rest := []) hC (c_M_lessLeft (tm_g x) hst w_190 ρ th sf se (addC σ best on r_180 (s_wa σ (4 * best + 0)) 0) ha_190 hwf_190 best (by omega) (by rw [en_190.2.2.2.1]; omega)) k_X6_128 (by rw [hB.2.2.1]; exact ⟨Nat.le_of_ble_eq_true rfl, Nat.le_of_ble_eq_true rfl⟩) rfl (tm_rec2 hC hm0_190 rfl) rfl (by decide) dX6_planOne_195 (fun v_195 w_195 hp_195 => ?_)
                obtain ⟨hl_195, rfl⟩ := hp_195
                obtain ⟨hm0_195, hm1_195, hm2_195, hm3_195, hm4_195, hm5_195, hm6_195, -⟩ := id hl_195
                show tm_V x (tm_H x w_195) 0 0 198 [(0, .ref (ρ 0)), (1, .int (I (best))), (2, .int (I (on))), (3, .int (I (lst))), (4, .int (I (b)))] [.int (I (s_wa (addC σ best on r_180 (s_wa σ (4 * best + 0)) 0) (4 * best + 3) - 1))]
                refine tm_if_lt 205 hC dX6_planOne_198 (by decide) (by rw [en_190.2.2.2.1]; omega) (fun c_198 => ?_) (fun c_198 => ?_)
                · exact ((by rw [en_190.2.2.2.1] at c_198; omega) : False).elim
                · refine tm_iconst hC dX6_planOne_201 ?_
                  refine tm_goto 206 hC dX6_planOne_202 (by decide) ?_
                  exact tm_zret hC hR dX6_planOne_206 (by omega) (⟨_, hl_195, Or.inl ⟨⟨best, on, pl8, ⟨hbc, fun q hq => by rcases hbn with h | h; omega; exact h.2.2 q (by have := hq.1; omega) hq⟩, hbB, by rw [← e180]; rfl⟩, rfl⟩⟩)
              · refine tm_aload_n 0 hC dX6_planOne_111 rfl rfl ?_
                refine tm_iload_n 1 hC dX6_planOne_112 rfl rfl ?_
                refine tm_iload 4 hC dX6_planOne_113 rfl ?_
                refine tm_callV (b := 0) (n := 0) (rest := []) hC (c_M_earliestOn (tm_g x) hst Λ ρ th sf se σ hM hw best (by omega) b (by omega)) k_X6_121 (by rw [hB.2.2.1]; exact ⟨Nat.le_of_ble_eq_true rfl, Nat.le_of_ble_eq_true rfl⟩) rfl (tm_rec2 hC hm0 rfl) rfl (by decide) dX6_planOne_115 (fun v_115 w_115 hp_115 => ?_)
                obtain ⟨rfl, r_115, rfl, he_115, heb_115⟩ := hp_115
                show tm_V x (tm_H x Λ) 0 0 118 [(0, .ref (ρ 0)), (1, .int (I (best))), (2, .int (I (on))), (3, .int (I (lst))), (4, .int (I (b)))] [.int (I (r_115))]
                refine tm_istore [(5, .int (I (r_115))), (0, .ref (ρ 0)), (1, .int (I (best))), (2, .int (I (on))), (3, .int (I (lst))), (4, .int (I (b)))] hC dX6_planOne_118 (by rw [hB.2.1]; exact Nat.le_of_ble_eq_true rfl) rfl ?_
                refine tm_iload 0 hC dX6_planOne_120 rfl ?_
                refine tm_iconst hC dX6_planOne_122 ?_
                refine tm_icmp_ne 129 hC dX6_planOne_123 (by decide) (by omega) (fun c_123 => ?_) (fun c_123 => ?_)
                · have hpl0 := isEarl_nn he_115 c_123
                  refine tm_aload_n 1 hC dX6_planOne_129 rfl rfl ?_
                  refine tm_iload 5 hC dX6_planOne_130 rfl ?_
                  refine tm_iload 0 hC dX6_planOne_132 rfl ?_
                  refine tm_callV (b := 0) (n := 0) (rest := []) hC (c_M_roomTo (tm_g x) hst Λ ρ th sf se σ hM hw b (by omega) r_115 (by omega)) k_X6_134 (by rw [hB.2.2.1]; exact ⟨Nat.le_of_ble_eq_true rfl, Nat.le_of_ble_eq_true rfl⟩) rfl (tm_rec2 hC hm0 rfl) rfl (by decide) dX6_planOne_134 (fun v_134 w_134 hp_134 => ?_)
                  obtain ⟨rfl, rt_134, rfl, hrt_134, hrtb_134⟩ := hp_134
                  show tm_V x (tm_H x Λ) 0 0 137 [(5, .int (I (r_115))), (0, .ref (ρ 0)), (1, .int (I (best))), (2, .int (I (on))), (3, .int (I (lst))), (4, .int (I (b)))] [.int (I (rt_134))]
                  refine tm_aload_n 1 hC dX6_planOne_137 rfl rfl ?_
                  refine tm_iload 5 hC dX6_planOne_138 rfl ?_
                  refine tm_iload 0 hC dX6_planOne_140 rfl ?_
                  refine tm_callV (b := 0) (n := 0) (rest := [.int (I (rt_134))]) hC (c_M_roomFrom (tm_g x) hst Λ ρ th sf se σ hM hw b (by omega) r_115 (by omega)) k_X6_137 (by rw [hB.2.2.1]; exact ⟨Nat.le_of_ble_eq_true rfl, Nat.le_of_ble_eq_true rfl⟩) rfl (tm_rec2 hC hm0 rfl) rfl (by simp [Value.category]) dX6_planOne_142 (fun v_142 w_142 hp_142 => ?_)
                  obtain ⟨rfl, rf_142, rfl, hrf_142, hrfb_142⟩ := hp_142
                  show tm_V x (tm_H x Λ) 0 0 145 [(5, .int (I (r_115))), (0, .ref (ρ 0)), (1, .int (I (best))), (2, .int (I (on))), (3, .int (I (lst))), (4, .int (I (b)))] [.int (I (rf_142)), .int (I (rt_134))]
                  refine tm_isub hC dX6_planOne_145 ?_
                  have hrm : roomR σ b r_115 (rt_134 - rf_142) := ⟨rf_142, rt_134, hrf_142, hrt_134, rfl⟩
                  refine tm_istore [(6, .int (I (rt_134 - rf_142))), (5, .int (I (r_115))), (0, .ref (ρ 0)), (1, .int (I (best))), (2, .int (I (on))), (3, .int (I (lst))), (4, .int (I (b)))] hC dX6_planOne_146 (by rw [hB.2.1]; exact Nat.le_of_ble_eq_true rfl) rfl ?_
                  refine tm_iload_n 4 hC dX6_planOne_148 rfl rfl ?_
                  refine tm_iconst hC dX6_planOne_149 ?_
                  refine tm_icmp_eq 162 hC dX6_planOne_150 (by decide) (by omega) (fun c_150 => ?_) (fun c_150 => ?_)
                  · refine tm_iload 6 hC dX6_planOne_162 rfl ?_
                    refine tm_istore_n [(2, .int (I (b))), (6, .int (I (rt_134 - rf_142))), (5, .int (I (r_115))), (0, .ref (ρ 0)), (1, .int (I (best))), (3, .int (I (lst))), (4, .int (I (b)))] hC dX6_planOne_164 rfl (by rw [hB.2.1]; exact Nat.le_of_ble_eq_true rfl) rfl ?_
                    refine tm_iload 1 hC dX6_planOne_165 rfl ?_
                    refine tm_istore_n [(3, .int (I (rt_134 - rf_142))), (2, .int (I (b))), (6, .int (I (rt_134 - rf_142))), (5, .int (I (r_115))), (0, .ref (ρ 0)), (1, .int (I (best))), (4, .int (I (b)))] hC dX6_planOne_167 rfl (by rw [hB.2.1]; exact Nat.le_of_ble_eq_true rfl) rfl ?_
                    refine tm_iinc 6 [(4, .int (I (b + 1))), (3, .int (I (rt_134 - rf_142))), (2, .int (I (b))), (6, .int (I (rt_134 - rf_142))), (5, .int (I (r_115))), (0, .ref (ρ 0)), (1, .int (I (best)))] hC dX6_planOne_168 rfl (by rw [hB.2.1]; exact Nat.le_of_ble_eq_true rfl) rfl ?_
                    refine tm_goto 102 hC dX6_planOne_171 (by decide) ?_
                    refine tm_sub (L' := [(0, .ref (ρ 0)), (1, .int (I (best))), (2, .int (I (b))), (3, .int (I (rt_134 - rf_142))), (4, .int (I (b + 1)))]) [5, 6, 2, 1, 0] rfl ?_
                    exact ih_102  b (rt_134 - rf_142) (b + 1) (⟨by omega, onN_new hon (by omega) he_115 hpl0 hrm (Or.inl c_150), by omega, by omega⟩) (by omega)
                  · refine tm_iload 0 hC dX6_planOne_153 rfl ?_
                    refine tm_iload_n 5 hC dX6_planOne_155 rfl rfl ?_
                    refine tm_icmp_lt 162 hC dX6_planOne_156 (by decide) (by omega) (fun c_156 => ?_) (fun c_156 => ?_)
                    · refine tm_iload 6 hC dX6_planOne_162 rfl ?_
                      refine tm_istore_n [(2, .int (I (b))), (6, .int (I (rt_134 - rf_142))), (5, .int (I (r_115))), (0, .ref (ρ 0)), (1, .int (I (best))), (3, .int (I (lst))), (4, .int (I (b)))] hC dX6_planOne_164 rfl (by rw [hB.2.1]; exact Nat.le_of_ble_eq_true rfl) rfl ?_
                      refine tm_iload 1 hC dX6_planOne_165 rfl ?_
                      refine tm_istore_n [(3, .int (I (rt_134 - rf_142))), (2, .int (I (b))), (6, .int (I (rt_134 - rf_142))), (5, .int (I (r_115))), (0, .ref (ρ 0)), (1, .int (I (best))), (4, .int (I (b)))] hC dX6_planOne_167 rfl (by rw [hB.2.1]; exact Nat.le_of_ble_eq_true rfl) rfl ?_
                      refine tm_iinc 6 [(4, .int (I (b + 1))), (3, .int (I (rt_134 - rf_142))), (2, .int (I (b))), (6, .int (I (rt_134 - rf_142))), (5, .int (I (r_115))), (0, .ref (ρ 0)), (1, .int (I (best)))] hC dX6_planOne_168 rfl (by rw [hB.2.1]; exact Nat.le_of_ble_eq_true rfl) rfl ?_
                      refine tm_goto 102 hC dX6_planOne_171 (by decide) ?_
                      refine tm_sub (L' := [(0, .ref (ρ 0)), (1, .int (I (best))), (2, .int (I (b))), (3, .int (I (rt_134 - rf_142))), (4, .int (I (b + 1)))]) [5, 6, 2, 1, 0] rfl ?_
                      exact ih_102  b (rt_134 - rf_142) (b + 1) (⟨by omega, onN_new hon (by omega) he_115 hpl0 hrm (Or.inr c_156), by omega, by omega⟩) (by omega)
                    · refine tm_goto 168 hC dX6_planOne_159 (by decide) ?_
                      refine tm_iinc 6 [(4, .int (I (b + 1))), (6, .int (I (rt_134 - rf_142))), (5, .int (I (r_115))), (0, .ref (ρ 0)), (1, .int (I (best))), (2, .int (I (on))), (3, .int (I (lst)))] hC dX6_planOne_168 rfl (by rw [hB.2.1]; exact Nat.le_of_ble_eq_true rfl) rfl ?_
                      refine tm_goto 102 hC dX6_planOne_171 (by decide) ?_
                      refine tm_sub (L' := [(0, .ref (ρ 0)), (1, .int (I (best))), (2, .int (I (on))), (3, .int (I (lst))), (4, .int (I (b + 1)))]) [3, 4, 5, 6, 0] rfl ?_
                      exact ih_102  on lst (b + 1) (⟨by omega, onN_old hon he_115 hpl0 hrm c_150 (by omega), by omega, by omega⟩) (by omega)
                · refine tm_goto 168 hC dX6_planOne_126 (by decide) ?_
                  refine tm_iinc 5 [(4, .int (I (b + 1))), (5, .int (I (r_115))), (0, .ref (ρ 0)), (1, .int (I (best))), (2, .int (I (on))), (3, .int (I (lst)))] hC dX6_planOne_168 rfl (by rw [hB.2.1]; exact Nat.le_of_ble_eq_true rfl) rfl ?_
                  refine tm_goto 102 hC dX6_planOne_171 (by decide) ?_
                  refine tm_sub (L' := [(0, .ref (ρ 0)), (1, .int (I (best))), (2, .int (I (on))), (3, .int (I (lst))), (4, .int (I (b + 1)))]) [2, 3, 4, 5, 0] rfl ?_
                  exact ih_102  on lst (b + 1) (⟨by omega, onN_no hon (c_123 ▸ he_115), by omega, by omega⟩) (by omega)
          refine tm_sub (L' := [(0, .ref (ρ 0)), (1, .int (I (best))), (2, .int (I ((-1)))), (3, .int (I (0))), (4, .int (I (0)))]) [3, 4, 2, 1, 0] rfl ?_
          exact hL_102 _ (-1) 0 0 (⟨by omega, Or.inl ⟨rfl, fun b pl hb => by omega⟩, by omega, by omega⟩) (Nat.lt_succ_self _)
        · refine tm_iconst hC dX6_planOne_93 ?_
          exact tm_zret hC hR dX6_planOne_94 (by omega) (⟨σ, hM, Or.inr ⟨fun p z => by rcases hbn with h | h; exact h.2 p (by have := z.1; omega) z; omega, rfl, rfl⟩⟩)
      · have hp9 := wf_p hw pt (by omega)
        refine tm_iconst hC dX6_planOne_12 ?_
        refine tm_istore_n [(3, .int (I (0))), (0, .ref (ρ 0)), (1, .int (I (best))), (2, .int (I (pt)))] hC dX6_planOne_13 rfl (by rw [hB.2.1]; exact Nat.le_of_ble_eq_true rfl) rfl ?_
        refine tm_iconst hC dX6_planOne_14 ?_
        refine tm_istore [(4, .int (I (0))), (3, .int (I (0))), (0, .ref (ρ 0)), (1, .int (I (best))), (2, .int (I (pt)))] hC dX6_planOne_15 (by rw [hB.2.1]; exact Nat.le_of_ble_eq_true rfl) rfl ?_
        have hL_17 : ∀ (fu : Nat) (cn : Int) (b : Int), ((0 ≤ b ∧ b ≤ s_nb σ) ∧ ((cn = 0 ∧ (0 < s_wa σ (4 * pt + 3) → ∀ j, 0 ≤ j ∧ j < b → isEarl σ pt j (-1))) ∨ (cn = 1 ∧ canP σ pt))) → ((s_nb σ - b).toNat) < fu → tm_V x (tm_H x Λ) 0 0 17 [(0, .ref (ρ 0)), (1, .int (I (best))), (2, .int (I (pt))), (3, .int (I (cn))), (4, .int (I (b)))] [] := by
          intro fu
          induction fu with
          | zero => intro cn b hinv hm; exact absurd hm (Nat.not_lt_zero _)
          | succ fu ih_17 =>
            intro cn b hinv_17 hm_17
            obtain ⟨hb17, hcn⟩ := hinv_17
            have hcn2 : cn = 0 ∨ cn = 1 := by rcases hcn with h | h; exact Or.inl h.1; exact Or.inr h.1
            refine tm_iload 4 hC dX6_planOne_17 rfl ?_
            refine tm_aload_n 0 hC dX6_planOne_19 rfl rfl ?_
            refine tm_getf2 hC f_X6_39 hm0 rfl dX6_planOne_20 ?_
            refine tm_icmp_ge 62 hC dX6_planOne_23 (by decide) (by omega) (fun c_23 => ?_) (fun c_23 => ?_)
            · have hcf : (cn = 0 ∧ ¬ canP σ pt) ∨ (cn = 1 ∧ canP σ pt) := by
                rcases hcn with h | h
                · exact Or.inl ⟨h.1, canP_not (by omega) h.2⟩
                · exact Or.inr h
              refine tm_iload_n 3 hC dX6_planOne_62 rfl rfl ?_
              refine tm_if_eq 82 hC dX6_planOne_63 (by decide) (by omega) (fun c_63 => ?_) (fun c_63 => ?_)
              · refine tm_iinc 2 [(2, .int (I (pt + 1))), (0, .ref (ρ 0)), (1, .int (I (best))), (3, .int (I (cn))), (4, .int (I (b)))] hC dX6_planOne_82 rfl (by rw [hB.2.1]; exact Nat.le_of_ble_eq_true rfl) rfl ?_
                refine tm_goto 4 hC dX6_planOne_85 (by decide) ?_
                refine tm_sub (L' := [(0, .ref (ρ 0)), (1, .int (I (best))), (2, .int (I (pt + 1)))]) [1, 2, 0] rfl ?_
                exact ih_4  best (pt + 1) (⟨by omega, bestN_no hbn (by rcases hcf with h | h; exact h.2; omega), by omega⟩) (by omega)
              · have hcp : canP σ pt := by rcases hcf with h | h; omega; exact h.2
                refine tm_iload_n 1 hC dX6_planOne_66 rfl rfl ?_
                refine tm_iconst hC dX6_planOne_67 ?_
                refine tm_icmp_eq 80 hC dX6_planOne_68 (by decide) (by omega) (fun c_68 => ?_) (fun c_68 => ?_)
                · refine tm_iload_n 2 hC dX6_planOne_80 rfl rfl ?_
                  refine tm_istore_n [(1, .int (I (pt))), (0, .ref (ρ 0)), (2, .int (I (pt))), (3, .int (I (cn))), (4, .int (I (b)))] hC dX6_planOne_81 rfl (by rw [hB.2.1]; exact Nat.le_of_ble_eq_true rfl) rfl ?_
                  refine tm_iinc 2 [(2, .int (I (pt + 1))), (1, .int (I (pt))), (0, .ref (ρ 0)), (3, .int (I (cn))), (4, .int (I (b)))] hC dX6_planOne_82 rfl (by rw [hB.2.1]; exact Nat.le_of_ble_eq_true rfl) rfl ?_
                  refine tm_goto 4 hC dX6_planOne_85 (by decide) ?_
                  refine tm_sub (L' := [(0, .ref (ρ 0)), (1, .int (I (pt))), (2, .int (I (pt + 1)))]) [2, 1, 0] rfl ?_
                  exact ih_4  pt (pt + 1) (⟨by omega, bestN_first (c_68 ▸ hbn) (by omega) hcp, by omega⟩) (by omega)
                · refine tm_aload_n 0 hC dX6_planOne_71 rfl rfl ?_
                  refine tm_iload_n 2 hC dX6_planOne_72 rfl rfl ?_
                  refine tm_iload_n 1 hC dX6_planOne_73 rfl rfl ?_
                  refine tm_callV (b := 0) (n := 0) (rest := []) hC (c_M_isAhead (tm_g x) hst Λ ρ th sf se σ hM hw pt (by omega) best (by omega)) k_X6_131 (by rw [hB.2.2.1]; exact ⟨Nat.le_of_ble_eq_true rfl, Nat.le_of_ble_eq_true rfl⟩) rfl (tm_rec2 hC hm0 rfl) rfl (by decide) dX6_planOne_74 (fun v_74 w_74 hp_74 => ?_)
                  obtain ⟨rfl, rfl⟩ := hp_74
                  show tm_V x (tm_H x Λ) 0 0 77 [(0, .ref (ρ 0)), (1, .int (I (best))), (2, .int (I (pt))), (3, .int (I (cn))), (4, .int (I (b)))] [.int (I (bi (s_wa σ (4 * best + 0) < s_wa σ (4 * pt + 0) ∨ (s_wa σ (4 * pt + 0) = s_wa σ (4 * best + 0) ∧ s_wa σ (4 * pt + 2) < s_wa σ (4 * best + 2)))))]
                  refine tm_ifb_eq 82 hC dX6_planOne_77 (by decide) (fun c_77 => ?_) (fun c_77 => ?_)
                  · refine tm_iinc 2 [(2, .int (I (pt + 1))), (0, .ref (ρ 0)), (1, .int (I (best))), (3, .int (I (cn))), (4, .int (I (b)))] hC dX6_planOne_82 rfl (by rw [hB.2.1]; exact Nat.le_of_ble_eq_true rfl) rfl ?_
                    refine tm_goto 4 hC dX6_planOne_85 (by decide) ?_
                    refine tm_sub (L' := [(0, .ref (ρ 0)), (1, .int (I (best))), (2, .int (I (pt + 1)))]) [1, 2, 0] rfl ?_
                    exact ih_4  best (pt + 1) (⟨by omega, bestN_old hbn c_68 c_77, by omega⟩) (by omega)
                  · refine tm_iload_n 2 hC dX6_planOne_80 rfl rfl ?_
                    refine tm_istore_n [(1, .int (I (pt))), (0, .ref (ρ 0)), (2, .int (I (pt))), (3, .int (I (cn))), (4, .int (I (b)))] hC dX6_planOne_81 rfl (by rw [hB.2.1]; exact Nat.le_of_ble_eq_true rfl) rfl ?_
                    refine tm_iinc 2 [(2, .int (I (pt + 1))), (1, .int (I (pt))), (0, .ref (ρ 0)), (3, .int (I (cn))), (4, .int (I (b)))] hC dX6_planOne_82 rfl (by rw [hB.2.1]; exact Nat.le_of_ble_eq_true rfl) rfl ?_
                    refine tm_goto 4 hC dX6_planOne_85 (by decide) ?_
                    refine tm_sub (L' := [(0, .ref (ρ 0)), (1, .int (I (pt))), (2, .int (I (pt + 1)))]) [2, 1, 0] rfl ?_
                    exact ih_4  pt (pt + 1) (⟨by omega, bestN_new hbn c_68 hcp c_77, by omega⟩) (by omega)
            · refine tm_aload_n 0 hC dX6_planOne_26 rfl rfl ?_
              refine tm_iload_n 2 hC dX6_planOne_27 rfl rfl ?_
              refine tm_iconst hC dX6_planOne_28 ?_
              refine tm_callV (b := 0) (n := 0) (rest := []) hC (c_M_want (tm_g x) hst Λ ρ th sf se σ hM hw pt (by omega) 3 (by omega) ) k_X6_79 (by rw [hB.2.2.1]; exact ⟨Nat.le_of_ble_eq_true rfl, Nat.le_of_ble_eq_true rfl⟩) rfl (tm_rec2 hC hm0 rfl) rfl (by decide) dX6_planOne_29 (fun v_29 w_29 hp_29 => ?_)
              obtain ⟨rfl, rfl, hb_29⟩ := hp_29
              show tm_V x (tm_H x Λ) 0 0 32 [(0, .ref (ρ 0)), (1, .int (I (best))), (2, .int (I (pt))), (3, .int (I (cn))), (4, .int (I (b)))] [.int (I (s_wa σ (4 * pt + 3)))]
              refine tm_if_le 62 hC dX6_planOne_32 (by decide) (by omega) (fun c_32 => ?_) (fun c_32 => ?_)
              · have hcf : (cn = 0 ∧ ¬ canP σ pt) ∨ (cn = 1 ∧ canP σ pt) := by
                  rcases hcn with h | h
                  · exact Or.inl ⟨h.1, fun z => by have := z.2.1; omega⟩
                  · exact Or.inr h
                refine tm_iload_n 3 hC dX6_planOne_62 rfl rfl ?_
                refine tm_if_eq 82 hC dX6_planOne_63 (by decide) (by omega) (fun c_63 => ?_) (fun c_63 => ?_)
                · refine tm_iinc 2 [(2, .int (I (pt + 1))), (0, .ref (ρ 0)), (1, .int (I (best))), (3, .int (I (cn))), (4, .int (I (b)))] hC dX6_planOne_82 rfl (by rw [hB.2.1]; exact Nat.le_of_ble_eq_true rfl) rfl ?_
                  refine tm_goto 4 hC dX6_planOne_85 (by decide) ?_
                  refine tm_sub (L' := [(0, .ref (ρ 0)), (1, .int (I (best))), (2, .int (I (pt + 1)))]) [1, 2, 0] rfl ?_
                  exact ih_4  best (pt + 1) (⟨by omega, bestN_no hbn (by rcases hcf with h | h; exact h.2; omega), by omega⟩) (by omega)
                · have hcp : canP σ pt := by rcases hcf with h | h; omega; exact h.2
                  refine tm_iload_n 1 hC dX6_planOne_66 rfl rfl ?_
                  refine tm_iconst hC dX6_planOne_67 ?_
                  refine tm_icmp_eq 80 hC dX6_planOne_68 (by decide) (by omega) (fun c_68 => ?_) (fun c_68 => ?_)
                  · refine tm_iload_n 2 hC dX6_planOne_80 rfl rfl ?_
                    refine tm_istore_n [(1, .int (I (pt))), (0, .ref (ρ 0)), (2, .int (I (pt))), (3, .int (I (cn))), (4, .int (I (b)))] hC dX6_planOne_81 rfl (by rw [hB.2.1]; exact Nat.le_of_ble_eq_true rfl) rfl ?_
                    refine tm_iinc 2 [(2, .int (I (pt + 1))), (1, .int (I (pt))), (0, .ref (ρ 0)), (3, .int (I (cn))), (4, .int (I (b)))] hC dX6_planOne_82 rfl (by rw [hB.2.1]; exact Nat.le_of_ble_eq_true rfl) rfl ?_
                    refine tm_goto 4 hC dX6_planOne_85 (by decide) ?_
                    refine tm_sub (L' := [(0, .ref (ρ 0)), (1, .int (I (pt))), (2, .int (I (pt + 1)))]) [2, 1, 0] rfl ?_
                    exact ih_4  pt (pt + 1) (⟨by omega, bestN_first (c_68 ▸ hbn) (by omega) hcp, by omega⟩) (by omega)
                  · refine tm_aload_n 0 hC dX6_planOne_71 rfl rfl ?_
                    refine tm_iload_n 2 hC dX6_planOne_72 rfl rfl ?_
                    refine tm_iload_n 1 hC dX6_planOne_73 rfl rfl ?_
                    refine tm_callV (b := 0) (n := 0) (rest := []) hC (c_M_isAhead (tm_g x) hst Λ ρ th sf se σ hM hw pt (by omega) best (by omega)) k_X6_131 (by rw [hB.2.2.1]; exact ⟨Nat.le_of_ble_eq_true rfl, Nat.le_of_ble_eq_true rfl⟩) rfl (tm_rec2 hC hm0 rfl) rfl (by decide) dX6_planOne_74 (fun v_74 w_74 hp_74 => ?_)
                    obtain ⟨rfl, rfl⟩ := hp_74
                    show tm_V x (tm_H x Λ) 0 0 77 [(0, .ref (ρ 0)), (1, .int (I (best))), (2, .int (I (pt))), (3, .int (I (cn))), (4, .int (I (b)))] [.int (I (bi (s_wa σ (4 * best + 0) < s_wa σ (4 * pt + 0) ∨ (s_wa σ (4 * pt + 0) = s_wa σ (4 * best + 0) ∧ s_wa σ (4 * pt + 2) < s_wa σ (4 * best + 2)))))]
                    refine tm_ifb_eq 82 hC dX6_planOne_77 (by decide) (fun c_77 => ?_) (fun c_77 => ?_)
                    · refine tm_iinc 2 [(2, .int (I (pt + 1))), (0, .ref (ρ 0)), (1, .int (I (best))), (3, .int (I (cn))), (4, .int (I (b)))] hC dX6_planOne_82 rfl (by rw [hB.2.1]; exact Nat.le_of_ble_eq_true rfl) rfl ?_
                      refine tm_goto 4 hC dX6_planOne_85 (by decide) ?_
                      refine tm_sub (L' := [(0, .ref (ρ 0)), (1, .int (I (best))), (2, .int (I (pt + 1)))]) [1, 2, 0] rfl ?_
                      exact ih_4  best (pt + 1) (⟨by omega, bestN_old hbn c_68 c_77, by omega⟩) (by omega)
                    · refine tm_iload_n 2 hC dX6_planOne_80 rfl rfl ?_
                      refine tm_istore_n [(1, .int (I (pt))), (0, .ref (ρ 0)), (2, .int (I (pt))), (3, .int (I (cn))), (4, .int (I (b)))] hC dX6_planOne_81 rfl (by rw [hB.2.1]; exact Nat.le_of_ble_eq_true rfl) rfl ?_
                      refine tm_iinc 2 [(2, .int (I (pt + 1))), (1, .int (I (pt))), (0, .ref (ρ 0)), (3, .int (I (cn))), (4, .int (I (b)))] hC dX6_planOne_82 rfl (by rw [hB.2.1]; exact Nat.le_of_ble_eq_true rfl) rfl ?_
                      refine tm_goto 4 hC dX6_planOne_85 (by decide) ?_
                      refine tm_sub (L' := [(0, .ref (ρ 0)), (1, .int (I (pt))), (2, .int (I (pt + 1)))]) [2, 1, 0] rfl ?_
                      exact ih_4  pt (pt + 1) (⟨by omega, bestN_new hbn c_68 hcp c_77, by omega⟩) (by omega)
              · refine tm_iload_n 3 hC dX6_planOne_35 rfl rfl ?_
                refine tm_if_ne 62 hC dX6_planOne_36 (by decide) (by omega) (fun c_36 => ?_) (fun c_36 => ?_)
                · have hcf : (cn = 0 ∧ ¬ canP σ pt) ∨ (cn = 1 ∧ canP σ pt) := by
                    rcases hcn with h | h
                    · omega
                    · exact Or.inr h
                  refine tm_iload_n 3 hC dX6_planOne_62 rfl rfl ?_
                  refine tm_if_eq 82 hC dX6_planOne_63 (by decide) (by omega) (fun c_63 => ?_) (fun c_63 => ?_)
                  · refine tm_iinc 2 [(2, .int (I (pt + 1))), (0, .ref (ρ 0)), (1, .int (I (best))), (3, .int (I (cn))), (4, .int (I (b)))] hC dX6_planOne_82 rfl (by rw [hB.2.1]; exact Nat.le_of_ble_eq_true rfl) rfl ?_
                    refine tm_goto 4 hC dX6_planOne_85 (by decide) ?_
                    refine tm_sub (L' := [(0, .ref (ρ 0)), (1, .int (I (best))), (2, .int (I (pt + 1)))]) [1, 2, 0] rfl ?_
                    exact ih_4  best (pt + 1) (⟨by omega, bestN_no hbn (by rcases hcf with h | h; exact h.2; omega), by omega⟩) (by omega)
                  · have hcp : canP σ pt := by rcases hcf with h | h; omega; exact h.2
                    refine tm_iload_n 1 hC dX6_planOne_66 rfl rfl ?_
                    refine tm_iconst hC dX6_planOne_67 ?_
                    refine tm_icmp_eq 80 hC dX6_planOne_68 (by decide) (by omega) (fun c_68 => ?_) (fun c_68 => ?_)
                    · refine tm_iload_n 2 hC dX6_planOne_80 rfl rfl ?_
                      refine tm_istore_n [(1, .int (I (pt))), (0, .ref (ρ 0)), (2, .int (I (pt))), (3, .int (I (cn))), (4, .int (I (b)))] hC dX6_planOne_81 rfl (by rw [hB.2.1]; exact Nat.le_of_ble_eq_true rfl) rfl ?_
                      refine tm_iinc 2 [(2, .int (I (pt + 1))), (1, .int (I (pt))), (0, .ref (ρ 0)), (3, .int (I (cn))), (4, .int (I (b)))] hC dX6_planOne_82 rfl (by rw [hB.2.1]; exact Nat.le_of_ble_eq_true rfl) rfl ?_
                      refine tm_goto 4 hC dX6_planOne_85 (by decide) ?_
                      refine tm_sub (L' := [(0, .ref (ρ 0)), (1, .int (I (pt))), (2, .int (I (pt + 1)))]) [2, 1, 0] rfl ?_
                      exact ih_4  pt (pt + 1) (⟨by omega, bestN_first (c_68 ▸ hbn) (by omega) hcp, by omega⟩) (by omega)
                    · refine tm_aload_n 0 hC dX6_planOne_71 rfl rfl ?_
                      refine tm_iload_n 2 hC dX6_planOne_72 rfl rfl ?_
                      refine tm_iload_n 1 hC dX6_planOne_73 rfl rfl ?_
                      refine tm_callV (b := 0) (n := 0) (rest := []) hC (c_M_isAhead (tm_g x) hst Λ ρ th sf se σ hM hw pt (by omega) best (by omega)) k_X6_131 (by rw [hB.2.2.1]; exact ⟨Nat.le_of_ble_eq_true rfl, Nat.le_of_ble_eq_true rfl⟩) rfl (tm_rec2 hC hm0 rfl) rfl (by decide) dX6_planOne_74 (fun v_74 w_74 hp_74 => ?_)
                      obtain ⟨rfl, rfl⟩ := hp_74
                      show tm_V x (tm_H x Λ) 0 0 77 [(0, .ref (ρ 0)), (1, .int (I (best))), (2, .int (I (pt))), (3, .int (I (cn))), (4, .int (I (b)))] [.int (I (bi (s_wa σ (4 * best + 0) < s_wa σ (4 * pt + 0) ∨ (s_wa σ (4 * pt + 0) = s_wa σ (4 * best + 0) ∧ s_wa σ (4 * pt + 2) < s_wa σ (4 * best + 2)))))]
                      refine tm_ifb_eq 82 hC dX6_planOne_77 (by decide) (fun c_77 => ?_) (fun c_77 => ?_)
                      · refine tm_iinc 2 [(2, .int (I (pt + 1))), (0, .ref (ρ 0)), (1, .int (I (best))), (3, .int (I (cn))), (4, .int (I (b)))] hC dX6_planOne_82 rfl (by rw [hB.2.1]; exact Nat.le_of_ble_eq_true rfl) rfl ?_
                        refine tm_goto 4 hC dX6_planOne_85 (by decide) ?_
                        refine tm_sub (L' := [(0, .ref (ρ 0)), (1, .int (I (best))), (2, .int (I (pt + 1)))]) [1, 2, 0] rfl ?_
                        exact ih_4  best (pt + 1) (⟨by omega, bestN_old hbn c_68 c_77, by omega⟩) (by omega)
                      · refine tm_iload_n 2 hC dX6_planOne_80 rfl rfl ?_
                        refine tm_istore_n [(1, .int (I (pt))), (0, .ref (ρ 0)), (2, .int (I (pt))), (3, .int (I (cn))), (4, .int (I (b)))] hC dX6_planOne_81 rfl (by rw [hB.2.1]; exact Nat.le_of_ble_eq_true rfl) rfl ?_
                        refine tm_iinc 2 [(2, .int (I (pt + 1))), (1, .int (I (pt))), (0, .ref (ρ 0)), (3, .int (I (cn))), (4, .int (I (b)))] hC dX6_planOne_82 rfl (by rw [hB.2.1]; exact Nat.le_of_ble_eq_true rfl) rfl ?_
                        refine tm_goto 4 hC dX6_planOne_85 (by decide) ?_
                        refine tm_sub (L' := [(0, .ref (ρ 0)), (1, .int (I (pt))), (2, .int (I (pt + 1)))]) [2, 1, 0] rfl ?_
                        exact ih_4  pt (pt + 1) (⟨by omega, bestN_new hbn c_68 hcp c_77, by omega⟩) (by omega)
                · refine tm_aload_n 0 hC dX6_planOne_39 rfl rfl ?_
                  refine tm_iload_n 2 hC dX6_planOne_40 rfl rfl ?_
                  refine tm_iload 4 hC dX6_planOne_41 rfl ?_
                  refine tm_callV (b := 0) (n := 0) (rest := []) hC (c_M_earliestOn (tm_g x) hst Λ ρ th sf se σ hM hw pt (by omega) b (by omega)) k_X6_121 (by rw [hB.2.2.1]; exact ⟨Nat.le_of_ble_eq_true rfl, Nat.le_of_ble_eq_true rfl⟩) rfl (tm_rec2 hC hm0 rfl) rfl (by decide) dX6_planOne_43 (fun v_43 w_43 hp_43 => ?_)
                  obtain ⟨rfl, r_43, rfl, he_43, heb_43⟩ := hp_43
                  show tm_V x (tm_H x Λ) 0 0 46 [(0, .ref (ρ 0)), (1, .int (I (best))), (2, .int (I (pt))), (3, .int (I (cn))), (4, .int (I (b)))] [.int (I (r_43))]
                  refine tm_iconst hC dX6_planOne_46 ?_
                  refine tm_icmp_eq 54 hC dX6_planOne_47 (by decide) (by omega) (fun c_47 => ?_) (fun c_47 => ?_)
                  · refine tm_iconst hC dX6_planOne_54 ?_
                    refine tm_istore_n [(3, .int (I (0))), (0, .ref (ρ 0)), (1, .int (I (best))), (2, .int (I (pt))), (4, .int (I (b)))] hC dX6_planOne_55 rfl (by rw [hB.2.1]; exact Nat.le_of_ble_eq_true rfl) rfl ?_
                    refine tm_iinc 4 [(4, .int (I (b + 1))), (3, .int (I (0))), (0, .ref (ρ 0)), (1, .int (I (best))), (2, .int (I (pt)))] hC dX6_planOne_56 rfl (by rw [hB.2.1]; exact Nat.le_of_ble_eq_true rfl) rfl ?_
                    refine tm_goto 17 hC dX6_planOne_59 (by decide) ?_
                    refine tm_sub (L' := [(0, .ref (ρ 0)), (1, .int (I (best))), (2, .int (I (pt))), (3, .int (I (0))), (4, .int (I (b + 1)))]) [2, 3, 4, 1, 0] rfl ?_
                    exact ih_17  0 (b + 1) (⟨by omega, Or.inl ⟨rfl, fun hl j hj => by rcases hcn with h | h; exact (if e : j = b then by rw [e]; exact c_47 ▸ he_43 else h.2 hl j (by omega)); omega⟩⟩) (by omega)
                  · refine tm_iconst hC dX6_planOne_50 ?_
                    refine tm_goto 55 hC dX6_planOne_51 (by decide) ?_
                    refine tm_istore_n [(3, .int (I (1))), (0, .ref (ρ 0)), (1, .int (I (best))), (2, .int (I (pt))), (4, .int (I (b)))] hC dX6_planOne_55 rfl (by rw [hB.2.1]; exact Nat.le_of_ble_eq_true rfl) rfl ?_
                    refine tm_iinc 4 [(4, .int (I (b + 1))), (3, .int (I (1))), (0, .ref (ρ 0)), (1, .int (I (best))), (2, .int (I (pt)))] hC dX6_planOne_56 rfl (by rw [hB.2.1]; exact Nat.le_of_ble_eq_true rfl) rfl ?_
                    refine tm_goto 17 hC dX6_planOne_59 (by decide) ?_
                    refine tm_sub (L' := [(0, .ref (ρ 0)), (1, .int (I (best))), (2, .int (I (pt))), (3, .int (I (1))), (4, .int (I (b + 1)))]) [2, 3, 4, 1, 0] rfl ?_
                    exact ih_17  1 (b + 1) (⟨by omega, Or.inr ⟨rfl, canP_of (by omega) (by omega) (by omega) he_43 (by omega)⟩⟩) (by omega)
        refine tm_sub (L' := [(0, .ref (ρ 0)), (1, .int (I (best))), (2, .int (I (pt))), (3, .int (I (0))), (4, .int (I (0)))]) [2, 3, 4, 1, 0] rfl ?_
        exact hL_17 _ 0 0 (⟨by omega, Or.inl ⟨rfl, fun _ j hj => by omega⟩⟩) (Nat.lt_succ_self _)
  refine tm_sub (L' := [(0, .ref (ρ 0)), (1, .int (I ((-1)))), (2, .int (I (0)))]) [2, 1, 0] rfl ?_
  exact hL_4 _ (-1) 0 (⟨by omega, Or.inl ⟨rfl, fun q hq z => by have := z.1.1; omega⟩, by omega⟩) (Nat.lt_succ_self _)

set_option maxHeartbeats 4000000 in
set_option maxRecDepth 100000 in
theorem c_M_plan (γ : tmG) (hst : γ.1.stackTraces = false) (Λ : tmL) (ρ : Nat → Nat) (th sf se : Int) (σ : ST) (hM : RM γ.2.2.1 Λ ρ th sf se σ) (hw : WF0 σ) (hW : WF σ) : tm_Con γ (tm_h2 γ.2.1 γ.2.2.1 γ.2.2.2.1) M_X6_plan 5 0 0 [.ref (ρ 0)] Λ (fun v w' => ∃ r σ', RM γ.2.2.1 w' ρ 0 sf se σ' ∧ v = some (.int (I (r : Nat))) ∧ PlanN r σ σ' ∧ r ≤ 108) := by
  refine tm_con hst (by decide) (Nat.le_of_ble_eq_true rfl) (fun x hB hR => ?_)
  have hg := hB.1
  subst hg
  have hC : tm_C x cX6_plan RX6 (some FieldType.int) := hB.2.2.2.1
  obtain ⟨hm0, hm1, hm2, hm3, hm4, hm5, hm6, hmd⟩ := id hM
  have hn := wf_n hw
  show tm_V x (tm_H x Λ) 0 0 0 [(0, .ref (ρ 0))] []
  refine tm_aload_n 0 hC dX6_plan_0 rfl rfl ?_
  refine tm_iconst hC dX6_plan_1 ?_
  refine tm_putf2 hC f_X6_36 hm0 (tt_7_0 _) (Nat.le_of_ble_eq_true rfl) dX6_plan_2 ?_
  obtain ⟨w1, hw2⟩ : ∃ z, z = tm_u2 Λ (ρ 0) (.inr (7, [.int (I (0)), .int (I (s_nb σ)), .ref (ρ 1), .int (I (s_nd σ)), .ref (ρ 2), .int (I (s_np σ)), .ref (ρ 3), .ref (ρ 4), .int (I (s_sw σ)), .int (I (s_jt σ)), .int (I (s_nm σ)), .ref (ρ 5), .ref (ρ 6), .int (I (sf)), .int (I (se))])) := ⟨_, rfl⟩
  show tm_V x (tm_H x (tm_u2 Λ (ρ 0) (.inr (7, [.int (I (0)), .int (I (s_nb σ)), .ref (ρ 1), .int (I (s_nd σ)), .ref (ρ 2), .int (I (s_np σ)), .ref (ρ 3), .ref (ρ 4), .int (I (s_sw σ)), .int (I (s_jt σ)), .int (I (s_nm σ)), .ref (ρ 5), .ref (ρ 6), .int (I (sf)), .int (I (se))])))) 0 0 5 [(0, .ref (ρ 0))] []
  rw [← hw2]
  have hw1_ρ_0 : w1 (ρ 0) = some (.inl (.inr (7, [.int (I (0)), .int (I (s_nb σ)), .ref (ρ 1), .int (I (s_nd σ)), .ref (ρ 2), .int (I (s_np σ)), .ref (ρ 3), .ref (ρ 4), .int (I (s_sw σ)), .int (I (s_jt σ)), .int (I (s_nm σ)), .ref (ρ 5), .ref (ρ 6), .int (I (sf)), .int (I (se))]))) := by rw [hw2]; first | done | exact tm_u2_s
  have hw1_ρ_1 := (show w1 (ρ 1) = _ by rw [hw2]; exact tm_u2_n (fun z => absurd (hm0.symm.trans (z ▸ hm1)) (by intro q; cases q))).trans hm1
  have hw1_ρ_2 := (show w1 (ρ 2) = _ by rw [hw2]; exact tm_u2_n (fun z => absurd (hm0.symm.trans (z ▸ hm2)) (by intro q; cases q))).trans hm2
  have hw1_ρ_3 := (show w1 (ρ 3) = _ by rw [hw2]; exact tm_u2_n (fun z => absurd (hm0.symm.trans (z ▸ hm3)) (by intro q; cases q))).trans hm3
  have hw1_ρ_4 := (show w1 (ρ 4) = _ by rw [hw2]; exact tm_u2_n (fun z => absurd (hm0.symm.trans (z ▸ hm4)) (by intro q; cases q))).trans hm4
  have hw1_ρ_5 := (show w1 (ρ 5) = _ by rw [hw2]; exact tm_u2_n (fun z => absurd (hm0.symm.trans (z ▸ hm5)) (by intro q; cases q))).trans hm5
  have hw1_ρ_6 := (show w1 (ρ 6) = _ by rw [hw2]; exact tm_u2_n (fun z => absurd (hm0.symm.trans (z ▸ hm6)) (by intro q; cases q))).trans hm6
  have hM_w1 : RM (tm_T x) w1 ρ 0 sf se σ := ⟨hw1_ρ_0, hw1_ρ_1, hw1_ρ_2, hw1_ρ_3, hw1_ρ_4, hw1_ρ_5, hw1_ρ_6, hmd⟩
  refine tm_iconst hC dX6_plan_5 ?_
  refine tm_istore_n [(1, .int (I (0))), (0, .ref (ρ 0))] hC dX6_plan_6 rfl (by rw [hB.2.1]; exact Nat.le_of_ble_eq_true rfl) rfl ?_
  have hL_7 : ∀ (fu : Nat) (W : tmL) (sgq : ST) (n1 : Nat), (RM (tm_T x) W ρ 0 sf se sgq ∧ WF sgq ∧ (∀ m s2, PlanN m sgq s2 → PlanN (n1 + m) σ s2) ∧ (n1 : Int) + s_tl sgq = s_tl σ) → ((s_tl sgq).toNat + 1) < fu → tm_V x (tm_H x W) 0 0 7 [(0, .ref (ρ 0)), (1, .int (I ((n1 : Int))))] [] := by
    intro fu
    induction fu with
    | zero => intro W sgq n1 hinv hm; exact absurd hm (Nat.not_lt_zero _)
    | succ fu ih_7 =>
      intro W sgq n1 hinv_7 hm_7
      obtain ⟨hMW, hWp, hpn, htl⟩ := hinv_7
      have htn := tl_nn hWp
      obtain ⟨hm0_W, hm1_W, hm2_W, hm3_W, hm4_W, hm5_W, hm6_W, -⟩ := id hMW
      skip
      refine tm_aload_n 0 hC dX6_plan_7 rfl rfl ?_
      refine tm_callV (b := 0) (n := 0) (rest := []) hC (c_M_planOne (tm_g x) hst W ρ 0 sf se sgq hMW hWp.1 hWp) k_X6_140 (by rw [hB.2.2.1]; exact ⟨Nat.le_of_ble_eq_true rfl, Nat.le_of_ble_eq_true rfl⟩) rfl (tm_rec2 hC hm0_W rfl) rfl (by decide) dX6_plan_8 (fun v_8 w_8 hp_8 => ?_)
      obtain ⟨sp, hMp, hsp⟩ := hp_8
      rcases hsp with ⟨hst8, rfl⟩ | ⟨hno8, rfl, rfl⟩
      · obtain ⟨hm0_p, hm1_p, hm2_p, hm3_p, hm4_p, hm5_p, hm6_p, -⟩ := id hMp
        show tm_V x (tm_H x w_8) 0 0 11 [(0, .ref (ρ 0)), (1, .int (I ((n1 : Int))))] [.int (I (1))]
        refine tm_if_eq 20 hC dX6_plan_11 (by decide) (by omega) (fun c => absurd c (by omega)) (fun _ => ?_)
        refine tm_iinc 1 [(1, .int (I ((n1 : Int) + 1))), (0, .ref (ρ 0))] hC dX6_plan_14 rfl (by rw [hB.2.1]; exact Nat.le_of_ble_eq_true rfl) rfl ?_
        refine tm_goto 7 hC dX6_plan_17 (by decide) ?_
        refine tm_sub (L' := [(0, .ref (ρ 0)), (1, .int (I ((n1 : Int) + 1)))]) [1, 0] rfl ?_
        exact ih_7  w_8 sp (n1 + 1) (⟨hMp, (step_wf hWp hst8).1, fun m s2 h => by have := hpn (m + 1) s2 ⟨sp, hst8, h⟩; rw [show n1 + 1 + m = n1 + (m + 1) by omega]; exact this, by have := (step_wf hWp hst8).2; omega⟩) (by have h1 := (step_wf hWp hst8).2; have h2 := tl_nn (step_wf hWp hst8).1; omega)
      · obtain ⟨hm0_p, hm1_p, hm2_p, hm3_p, hm4_p, hm5_p, hm6_p, -⟩ := id hMp
        show tm_V x (tm_H x w_8) 0 0 11 [(0, .ref (ρ 0)), (1, .int (I ((n1 : Int))))] [.int (I (0))]
        refine tm_if_eq 20 hC dX6_plan_11 (by decide) (by omega) (fun _ => ?_) (fun c => absurd (by omega) c)
        refine tm_iload_n 1 hC dX6_plan_20 rfl rfl ?_
        exact tm_iret hC hR dX6_plan_21 (⟨n1, _, hMp, rfl, by have := hpn 0 sgq ⟨rfl, hno8⟩; exact this, by have := tl_le hW; omega⟩)
  refine tm_sub (L' := [(0, .ref (ρ 0)), (1, .int (I (0)))]) [1, 0] rfl ?_
  exact hL_7 _ w1 σ 0 (⟨hM_w1, hW, fun m s2 h => by rw [Nat.zero_add]; exact h, by omega⟩) (Nat.lt_succ_self _)
