/-! Every call keeps the state in order. -/
theorem addB_wf {σ : ST} {l w g : Int} (hW : WF σ) (h : okB l w g) (hn : s_nb σ ≠ 10) : WF (addB σ l w g) := by
  have w1 := wf_n hW.1
  have h9 := okB_i.mp h
  obtain ⟨⟨h1, h2, h3, h4, h5, h6⟩, hg⟩ := hW
  obtain ⟨e1, e2, e3⟩ := ui3n (f := s_wo σ) (n := s_nb σ) (a := l) (b := w) (c := g)
  refine ⟨⟨?_, fun b hb => ?_, fun d hd => ?_, h4, fun k hk => ?_, h6⟩, hg⟩
  · show 0 ≤ s_nb σ + 1 ∧ s_nb σ + 1 ≤ 10 ∧ 0 ≤ s_nd σ ∧ s_nd σ ≤ 24 ∧ 0 ≤ s_np σ ∧ s_np σ ≤ 12 ∧ 0 ≤ s_sw σ ∧ s_sw σ ≤ 10 ∧ 0 ≤ s_jt σ ∧ s_jt σ ≤ 50 ∧ 0 ≤ s_nm σ ∧ s_nm σ ≤ 216
    omega
  · have hb : 0 ≤ b ∧ b < s_nb σ + 1 := hb
    show 100 ≤ tm_ui (tm_ui (tm_ui (s_wo σ) (3 * s_nb σ) l) (3 * s_nb σ + 1) w) (3 * s_nb σ + 2) g (3 * b) ∧ tm_ui (tm_ui (tm_ui (s_wo σ) (3 * s_nb σ) l) (3 * s_nb σ + 1) w) (3 * s_nb σ + 2) g (3 * b) ≤ 3000 ∧ 10 ≤ tm_ui (tm_ui (tm_ui (s_wo σ) (3 * s_nb σ) l) (3 * s_nb σ + 1) w) (3 * s_nb σ + 2) g (3 * b + 1) ∧ tm_ui (tm_ui (tm_ui (s_wo σ) (3 * s_nb σ) l) (3 * s_nb σ + 1) w) (3 * s_nb σ + 2) g (3 * b + 1) ≤ 400 ∧ 0 ≤ tm_ui (tm_ui (tm_ui (s_wo σ) (3 * s_nb σ) l) (3 * s_nb σ + 1) w) (3 * s_nb σ + 2) g (3 * b + 2) ∧ tm_ui (tm_ui (tm_ui (s_wo σ) (3 * s_nb σ) l) (3 * s_nb σ + 1) w) (3 * s_nb σ + 2) g (3 * b + 2) ≤ 3
    by_cases e : b = s_nb σ
    · subst e; rw [e1, e2, e3]; omega
    · rw [ui3 (by omega), ui3 (by omega), ui3 (by omega)]; exact h2 b (by omega)
  · have g1 := h3 d hd
    show 0 ≤ s_fl σ (4 * d) ∧ s_fl σ (4 * d) < s_nb σ + 1 ∧ 0 ≤ s_fl σ (4 * d + 1) ∧ s_fl σ (4 * d + 1) < s_fl σ (4 * d + 2) ∧ s_fl σ (4 * d + 2) ≤ tm_ui (tm_ui (tm_ui (s_wo σ) (3 * s_nb σ) l) (3 * s_nb σ + 1) w) (3 * s_nb σ + 2) g (3 * s_fl σ (4 * d)) ∧ 1 ≤ s_fl σ (4 * d + 3) ∧ s_fl σ (4 * d + 3) ≤ 3
    rw [ui3 (by omega)]
    omega
  · have g1 := h5 k hk
    show 0 ≤ s_cu σ (4 * k) ∧ s_cu σ (4 * k) < s_nb σ + 1 ∧ 0 ≤ s_cu σ (4 * k + 1) ∧ s_cu σ (4 * k + 1) < s_cu σ (4 * k + 2) ∧ s_cu σ (4 * k + 2) ≤ tm_ui (tm_ui (tm_ui (s_wo σ) (3 * s_nb σ) l) (3 * s_nb σ + 1) w) (3 * s_nb σ + 2) g (3 * s_cu σ (4 * k)) ∧ 0 ≤ s_cu σ (4 * k + 3) ∧ s_cu σ (4 * k + 3) < s_np σ ∧ (s_aj σ k = 0 ∨ s_aj σ k = 1)
    rw [ui3 (by omega)]
    omega
theorem addD_wf {σ : ST} {b f t g : Int} (hW : WF σ) (hb : 0 ≤ b ∧ b < s_nb σ) (h : okD σ b f t g) (hn : s_nd σ ≠ 24) : WF (addD σ b f t g) := by
  have w1 := wf_n hW.1
  have h9 := okD_i.mp h
  obtain ⟨⟨h1, h2, h3, h4, h5, h6⟩, hg⟩ := hW
  obtain ⟨e1, e2, e3, e4⟩ := ui4n (f := s_fl σ) (n := s_nd σ) (a := b) (b := f) (c := t) (d := g)
  refine ⟨⟨?_, h2, fun d hd => ?_, h4, h5, h6⟩, hg⟩
  · show 0 ≤ s_nb σ ∧ s_nb σ ≤ 10 ∧ 0 ≤ s_nd σ + 1 ∧ s_nd σ + 1 ≤ 24 ∧ 0 ≤ s_np σ ∧ s_np σ ≤ 12 ∧ 0 ≤ s_sw σ ∧ s_sw σ ≤ 10 ∧ 0 ≤ s_jt σ ∧ s_jt σ ≤ 50 ∧ 0 ≤ s_nm σ ∧ s_nm σ ≤ 216
    omega
  · have hd : 0 ≤ d ∧ d < s_nd σ + 1 := hd
    have no : ∀ k, k < 4 * s_nd σ → s_fl (addD σ b f t g) k = s_fl σ k := fun k hk => ui4 hk
    have m1 : s_fl (addD σ b f t g) (4 * s_nd σ) = b := e1
    have m2 : s_fl (addD σ b f t g) (4 * s_nd σ + 1) = f := e2
    have m3 : s_fl (addD σ b f t g) (4 * s_nd σ + 2) = t := e3
    have m4 : s_fl (addD σ b f t g) (4 * s_nd σ + 3) = g := e4
    show 0 ≤ s_fl (addD σ b f t g) (4 * d) ∧ s_fl (addD σ b f t g) (4 * d) < s_nb σ ∧ 0 ≤ s_fl (addD σ b f t g) (4 * d + 1) ∧ s_fl (addD σ b f t g) (4 * d + 1) < s_fl (addD σ b f t g) (4 * d + 2) ∧ s_fl (addD σ b f t g) (4 * d + 2) ≤ s_wo σ (3 * s_fl (addD σ b f t g) (4 * d)) ∧ 1 ≤ s_fl (addD σ b f t g) (4 * d + 3) ∧ s_fl (addD σ b f t g) (4 * d + 3) ≤ 3
    by_cases e : d = s_nd σ
    · subst e; rw [m1, m2, m3, m4]; omega
    · rw [no _ (by omega), no _ (by omega), no _ (by omega), no _ (by omega)]; exact h3 d (by omega)
theorem addP_wf {σ : ST} {l w g c j : Int} (hW : WF σ) (h : okP l w g c) (hj : j = 0 ∨ j = 1) (hn : s_np σ ≠ 12) : WF (addP σ l w g c j) ∧ s_tl (addP σ l w g c j) = s_tl σ + c := by
  have w1 := wf_n hW.1
  have h9 := okP_i.mp h
  obtain ⟨⟨h1, h2, h3, h4, h5, h6⟩, cs, hg, hc⟩ := hW
  obtain ⟨e1, e2, e3, e4⟩ := ui4n (f := s_wa σ) (n := s_np σ) (a := l) (b := w) (c := g) (d := c)
  have no : ∀ k, k < 4 * s_np σ → s_wa (addP σ l w g c j) k = s_wa σ k := fun k hk => ui4 hk
  have m1 : s_wa (addP σ l w g c j) (4 * s_np σ + 0) = l := by rw [Int.add_zero]; exact e1
  have m2 : s_wa (addP σ l w g c j) (4 * s_np σ + 1) = w := e2
  have m3 : s_wa (addP σ l w g c j) (4 * s_np σ + 2) = g := e3
  have m4 : s_wa (addP σ l w g c j) (4 * s_np σ + 3) = c := e4
  have ht : s_tl (addP σ l w g c j) = s_tl σ + c := by
    show tsum (s_wa (addP σ l w g c j)) (s_np σ + 1).toNat = tsum (s_wa σ) (s_np σ).toNat + c
    rw [show (s_np σ + 1).toNat = (s_np σ).toNat + 1 by omega]
    show tsum (s_wa (addP σ l w g c j)) (s_np σ).toNat + s_wa (addP σ l w g c j) (4 * (((s_np σ).toNat : Nat) : Int) + 3) = _
    rw [tsum_congr (g := s_wa σ) _ (fun p p1 p2 => no _ (by omega)), show (((s_np σ).toNat : Nat) : Int) = s_np σ by omega, m4]
  refine ⟨⟨⟨?_, h2, h3, fun p hp => ?_, fun k hk => ?_, h6⟩, cs, hg, ?_⟩, ht⟩
  · show 0 ≤ s_nb σ ∧ s_nb σ ≤ 10 ∧ 0 ≤ s_nd σ ∧ s_nd σ ≤ 24 ∧ 0 ≤ s_np σ + 1 ∧ s_np σ + 1 ≤ 12 ∧ 0 ≤ s_sw σ ∧ s_sw σ ≤ 10 ∧ 0 ≤ s_jt σ ∧ s_jt σ ≤ 50 ∧ 0 ≤ s_nm σ ∧ s_nm σ ≤ 216
    omega
  · have hp : 0 ≤ p ∧ p < s_np σ + 1 := hp
    by_cases e : p = s_np σ
    · subst e
      rw [m1, m2, m3, m4]
      have mj : s_mj (addP σ l w g c j) (s_np σ) = j := tm_ui_s
      rw [mj]
      omega
    · have mj : s_mj (addP σ l w g c j) p = s_mj σ p := tm_ui_n e
      rw [no _ (by omega), no _ (by omega), no _ (by omega), no _ (by omega), mj]
      exact h4 p (by omega)
  · have g1 := h5 k hk
    show 0 ≤ s_cu σ (4 * k) ∧ s_cu σ (4 * k) < s_nb σ ∧ 0 ≤ s_cu σ (4 * k + 1) ∧ s_cu σ (4 * k + 1) < s_cu σ (4 * k + 2) ∧ s_cu σ (4 * k + 2) ≤ s_wo σ (3 * s_cu σ (4 * k)) ∧ 0 ≤ s_cu σ (4 * k + 3) ∧ s_cu σ (4 * k + 3) < s_np σ + 1 ∧ (s_aj σ k = 0 ∨ s_aj σ k = 1)
    omega
  · rw [ht]
    show _ ≤ 9 * (s_np σ + 1)
    omega
theorem setSw_wf {σ : ST} {w : Int} (hW : WF σ) (h : 0 ≤ w ∧ w ≤ 10) (hn : ¬ 0 < s_nm σ) : WF (setSw σ w) := by
  have w1 := wf_n hW.1
  obtain ⟨⟨h1, h2, h3, h4, h5, h6⟩, hg⟩ := hW
  refine ⟨⟨?_, h2, h3, h4, h5, fun i j h0 hij hj => ?_⟩, hg⟩
  · show 0 ≤ s_nb σ ∧ s_nb σ ≤ 10 ∧ 0 ≤ s_nd σ ∧ s_nd σ ≤ 24 ∧ 0 ≤ s_np σ ∧ s_np σ ≤ 12 ∧ 0 ≤ w ∧ w ≤ 10 ∧ 0 ≤ s_jt σ ∧ s_jt σ ≤ 50 ∧ 0 ≤ s_nm σ ∧ s_nm σ ≤ 216
    omega
  · have hj : j < s_nm σ := hj
    omega
theorem setJt_wf {σ : ST} {w : Int} (hW : WF σ) (h : 0 ≤ w ∧ w ≤ 50) : WF (setJt σ w) := by
  have w1 := wf_n hW.1
  obtain ⟨⟨h1, h2, h3, h4, h5, h6⟩, hg⟩ := hW
  refine ⟨⟨?_, h2, h3, h4, h5, h6⟩, hg⟩
  show 0 ≤ s_nb σ ∧ s_nb σ ≤ 10 ∧ 0 ≤ s_nd σ ∧ s_nd σ ≤ 24 ∧ 0 ≤ s_np σ ∧ s_np σ ≤ 12 ∧ 0 ≤ s_sw σ ∧ s_sw σ ≤ 10 ∧ 0 ≤ w ∧ w ≤ 50 ∧ 0 ≤ s_nm σ ∧ s_nm σ ≤ 216
  omega
theorem wa_set {σ : ST} {p v : Int} (hw : WF0 σ) (hv : 0 ≤ v ∧ v ≤ 108) : WF0 (setL σ p v) := by
  refine ⟨hw.1, hw.2.1, hw.2.2.1, fun q hq => ?_, hw.2.2.2.2.1, hw.2.2.2.2.2⟩
  have h1 := hw.2.2.2.1 q hq
  rw [setL_n (by omega), setL_n (by omega), setL_n (by omega)]
  have h2 : s_wa (setL σ p v) (4 * q + 3) = tm_ui (s_wa σ) (4 * p + 3) v (4 * q + 3) := rfl
  rw [h2]
  by_cases e : q = p
  · subst e
    rw [tm_ui_s]
    have h3 : s_mj (setL σ q v) q = s_mj σ q := rfl
    rw [h3]
    omega
  · rw [tm_ui_n (by omega)]
    exact h1
/-- what is there of the last cut or joining -/
theorem undo_at {σ : ST} (hW : WF σ) (hn : s_nm σ ≠ 0) : ∃ cs j, grp (s_aj σ) (s_cu σ) (cs ++ [j]) 0 (s_nm σ) ∧ grp (s_aj σ) (s_cu σ) cs 0 j ∧ (0 ≤ j ∧ j < s_nm σ) ∧ s_nm σ - (if s_aj σ (s_nm σ - 1) = 0 then 1 else 2) = j ∧ s_cu σ (4 * (s_nm σ - 1) + 3) = s_cu σ (4 * j + 3) ∧ s_tl σ + (cs.length : Int) + 1 ≤ 9 * s_np σ := by
  obtain ⟨h0, cs, hg, hc⟩ := hW
  have hne : cs ≠ [] := by
    intro z
    subst z
    have : (0 : Int) = s_nm σ := hg
    omega
  obtain ⟨cs', j, e, g1, g2⟩ := grp_last cs 0 _ hg hne
  have g3 := grp_le _ _ _ g1
  subst e
  rw [List.length_append, List.length_singleton] at hc
  refine ⟨cs', j, hg, g1, ?_, ?_, ?_, by omega⟩
  · rcases g2 with ⟨a1, a2⟩ | ⟨a1, a2, a3, a4⟩ <;> omega
  · rcases g2 with ⟨a1, a2⟩ | ⟨a1, a2, a3, a4⟩
    · rw [show s_nm σ - 1 = j by omega, if_pos a1]; omega
    · rw [show s_nm σ - 1 = j + 1 by omega, if_neg (by omega)]; omega
  · rcases g2 with ⟨a1, a2⟩ | ⟨a1, a2, a3, a4⟩
    · rw [show s_nm σ - 1 = j by omega]
    · rw [show s_nm σ - 1 = j + 1 by omega]; exact a3
theorem undo_wf {σ σ' : ST} {r : Int} (hW : WF σ) (h : Sp_undo σ 0 σ' r) : WF σ' ∧ s_tl σ' = s_tl σ + 1 := by
  rcases h with ⟨-, h, -⟩ | ⟨hn, -, hr, hs⟩
  · omega
  · obtain ⟨cs, j, g0, g1, g2, g3, g4, g5⟩ := undo_at hW hn
    have hk := wf_k hW.1 j g2
    have hn9 := wf_n hW.1
    rw [g3] at hs
    rw [g4] at hr
    have hp : 0 ≤ r ∧ r < s_np σ := by omega
    have ht := (tsum_nn (f := s_wa σ) (s_np σ).toNat (fun q q1 q2 => by have := wf_p hW.1 q (by omega); omega)).2 r hp.1 (by omega)
    have hp9 := wf_p hW.1 r hp
    have et : s_tl σ = tsum (s_wa σ) (s_np σ).toNat := rfl
    have hT : s_tl σ' = s_tl σ + 1 := by
      rw [hs]
      show tsum (tm_ui (s_wa σ) (4 * r + 3) (s_wa σ (4 * r + 3) + 1)) (s_np σ).toNat = tsum (s_wa σ) (s_np σ).toNat + 1
      rw [tsum_ui _ (by omega)]
      omega
    refine ⟨⟨?_, cs, ?_, ?_⟩, hT⟩
    · rw [hs]
      exact wa_set (σ := setNm σ j) (setNm_wf0 hW.1 (by omega)) (show 0 ≤ s_wa σ (4 * r + 3) + 1 ∧ s_wa σ (4 * r + 3) + 1 ≤ 108 by omega)
    · rw [hs]; exact g1
    · rw [hT]
      have e : s_np σ' = s_np σ := by rw [hs]; rfl
      rw [e]
      omega
/-- both pieces of a joined part, the second one beside the first -/
theorem join_poss {σ : ST} {p a pa ln b pb l2 : Int} (hn : 0 ≤ s_nm σ) : Poss (addC σ p a pa ln 1) p l2 b pb ↔ (Poss σ p l2 b pb ∧ (a = b → pb + l2 + s_sw σ ≤ pa ∨ pa + ln + s_sw σ ≤ pb)) := by
  obtain ⟨n1, n2, n3, n4⟩ := addC_n (σ := σ) (p := p) (b := a) (pl := pa) (len := ln) (j := 1)
  constructor
  · rintro ⟨h1, h2, h3, h4, h5, h6⟩
    refine ⟨⟨h1, h2, h3, h4, h5, fun k hk e1 e2 => ?_⟩, fun e => ?_⟩
    · have h7 := h6 k (show 0 ≤ k ∧ k < s_nm σ + 1 by omega)
      rw [addC_old (by omega), addC_old (by omega), addC_old (by omega)] at h7
      exact h7 e1 e2
    · have h7 := h6 (s_nm σ) (show 0 ≤ s_nm σ ∧ s_nm σ < s_nm σ + 1 by omega)
      rw [n1, n2, n3] at h7
      have h8 : pa < pb + l2 + s_sw σ → pa + ln + s_sw σ ≤ pb := h7 e
      omega
  · rintro ⟨⟨h1, h2, h3, h4, h5, h6⟩, h7⟩
    refine ⟨h1, h2, h3, h4, h5, fun k hk e1 e2 => ?_⟩
    have hk : 0 ≤ k ∧ k < s_nm σ + 1 := hk
    by_cases e : k = s_nm σ
    · subst e
      rw [n1] at e1
      rw [n2] at e2
      rw [n3]
      have e2 : pa < pb + l2 + s_sw σ := e2
      have := h7 e1
      show pa + ln + s_sw σ ≤ pb
      omega
    · rw [addC_old (by omega)] at e1
      rw [addC_old (by omega)] at e2
      rw [addC_old (by omega)]
      exact h6 k (by omega) e1 e2
theorem join_grp {σ : ST} {p a pa ln b pb l2 : Int} {cs : List Int} (hg : grp (s_aj σ) (s_cu σ) cs 0 (s_nm σ)) (h0 : 0 ≤ s_nm σ) : grp (s_aj (addC (addC σ p a pa ln 1) p b pb l2 1)) (s_cu (addC (addC σ p a pa ln 1) p b pb l2 1)) (cs ++ [s_nm σ]) 0 (s_nm σ + 1 + 1) := by
  obtain ⟨n1, n2, n3, n4⟩ := addC_n (σ := σ) (p := p) (b := a) (pl := pa) (len := ln) (j := 1)
  obtain ⟨m1, m2, m3, m4⟩ := addC_n (σ := addC σ p a pa ln 1) (p := p) (b := b) (pl := pb) (len := l2) (j := 1)
  have e : s_nm (addC σ p a pa ln 1) = s_nm σ + 1 := rfl
  rw [e] at m1 m2 m3 m4
  have a1 : s_aj (addC (addC σ p a pa ln 1) p b pb l2 1) (s_nm σ) = 1 := (addC_a (by rw [e]; omega)).trans addC_an
  have a2 : s_aj (addC (addC σ p a pa ln 1) p b pb l2 1) (s_nm σ + 1) = 1 := addC_an (σ := addC σ p a pa ln 1)
  rw [show s_nm σ + 1 + 1 = s_nm σ + 2 by omega]
  refine grp_snoc2 a1 a2 ?_ cs 0 (grp_congr cs 0 _ (fun z z1 z2 => ⟨?_, ?_⟩) hg)
  · rw [m4, addC_old (by rw [e]; omega), n4]
  · rw [addC_a (by rw [e]; omega), addC_a z2]
  · rw [addC_old (by rw [e]; omega), addC_old (by omega)]
theorem join_wf {σ : ST} {p a pa ln b pb l2 : Int} (hW : WF σ) (hp : 0 ≤ p ∧ p < s_np σ) (ha : 0 ≤ a ∧ a < s_nb σ) (hb : 0 ≤ b ∧ b < s_nb σ) (hl : 1 ≤ s_wa σ (4 * p + 3)) (h1 : 1 ≤ ln) (h2 : 1 ≤ l2) (hP : Poss σ p ln a pa) (hQ : Poss (addC σ p a pa ln 1) p l2 b pb) : WF (less (addC (addC σ p a pa ln 1) p b pb l2 1) p) ∧ s_tl (less (addC (addC σ p a pa ln 1) p b pb l2 1) p) = s_tl σ - 1 := by
  have hr := wf_room hW hp hl
  have hn9 := wf_n hW.1
  have hp9 := wf_p hW.1 p hp
  have w1 := addC_wf (j := 1) hW.1 hp ha h1 (Or.inr rfl) (by omega) hP
  have w2 := addC_wf (σ := addC σ p a pa ln 1) (j := 1) w1 hp hb h2 (Or.inr rfl) (show s_nm σ + 1 < 216 by omega) hQ
  have ht : s_tl (less (addC (addC σ p a pa ln 1) p b pb l2 1) p) = s_tl σ - 1 := by
    show tsum (tm_ui (s_wa σ) (4 * p + 3) (s_wa σ (4 * p + 3) - 1)) (s_np σ).toNat = tsum (s_wa σ) (s_np σ).toNat - 1
    rw [tsum_ui _ (by omega)]
    omega
  refine ⟨⟨less_wf0 w2 hp hl, ?_⟩, ht⟩
  obtain ⟨cs, hg, hc⟩ := hW.2
  refine ⟨cs ++ [s_nm σ], join_grp hg (by omega), ?_⟩
  rw [ht, List.length_append]
  show s_tl σ - 1 + ((cs.length + 1 : Nat) : Int) ≤ 9 * s_np σ
  omega
/-- what lies behind the last piece doesn't matter -/
theorem RC_eqv {T : ClassId × ClassId × ClassId × ClassId} {Λ : tmL} {κ : KP} {σ τ : ST} (h : RC T Λ κ σ) (hw : WF0 σ) (he : Eqv σ τ) : RC T Λ κ τ ∧ (grp (s_aj σ) (s_cu σ) (k_cs κ) 0 (s_nm σ) → grp (s_aj τ) (s_cu τ) (k_cs κ) 0 (s_nm τ)) := by
  have hn := wf_n hw
  have hw1 := Eqv_wf he hw
  obtain ⟨⟨e1, e2, e3, e4, e5, e6⟩, f1, f2, f3, f4, f5, f6⟩ := he
  obtain ⟨h1, h2, h7, h8, h9, h10, ⟨⟨m, hm1, hm2⟩, hc2, hc3⟩, h12, h13⟩ := h
  have hgc : ∀ m, m ≤ s_nm σ → grp (s_aj σ) (s_cu σ) (k_cs κ) 0 m → grp (s_aj τ) (s_cu τ) (k_cs κ) 0 m := fun m hm hg => grp_congr _ _ _ (fun z z1 z2 => ⟨f6 z (by omega), f5 _ (by omega)⟩) hg
  refine ⟨⟨by rw [← e2, ← e4, ← e5]; exact h1, by rw [← e1, ← e3]; exact h2, fun b hb => ?_, fun p hp => ?_, fun d hd => ?_, fun k hk => ?_, ⟨⟨m, by rw [← e6]; exact hm1, hgc m hm1 hm2⟩, hc2, fun i j c hi hc => ?_⟩, ?_, ?_⟩, fun hg => by rw [← e6]; exact hgc _ (Int.le_refl _) hg⟩
  · rw [← e1] at hb
    obtain ⟨g1, g2, g3, g4, g5⟩ := h7 b hb
    have hmm := Srt_mm hw g4
    refine ⟨by show _ = (some (.inl (.inr (1, [.int (I (s_wo τ (3 * b))), .int (I (s_wo τ (3 * b + 1))), .int (I (s_wo τ (3 * b + 2))), .ref (k_bd κ b), .ref (k_bp κ b)]))) : Option (va_E ⊕ List Nat)); rw [← f1]; exact g1, g2, g3, ?_, ?_⟩
    · refine Srt_mk hw1 _ 0 (fun k => ?_) ?_
      · rw [hmm k, ← e6]
        constructor
        · rintro ⟨y1, y2, y3⟩; exact ⟨y1, by rw [← f5 _ (by omega)]; exact y2, by rw [← f5 _ (by omega)]; exact y3⟩
        · rintro ⟨y1, y2, y3⟩; exact ⟨y1, by rw [f5 _ (by omega)]; exact y2, by rw [f5 _ (by omega)]; exact y3⟩
      · have hpw := Srt_pw hw g4
        rw [List.pairwise_iff_getElem] at hpw ⊢
        intro a d ha hd had
        have y1 := ((hmm _).mp (List.getElem_mem ha)).1
        have y2 := ((hmm _).mp (List.getElem_mem hd)).1
        rw [← f5 _ (by omega), ← f5 _ (by omega)]
        exact hpw a d ha hd had
    · obtain ⟨y1, y2, y3⟩ := g5
      exact ⟨by rw [← e2, ← f2]; exact y1, by rw [← e2]; exact y2, by rw [← f2]; exact y3⟩
  · rw [← e3] at hp
    show _ = (some (.inl (.inr (4, [.int (I p), .int (I (s_wa τ (4 * p + 0))), .int (I (s_wa τ (4 * p + 1))), .int (I (s_wa τ (4 * p + 2))), .int (I (s_mj τ p)), .int (I (s_wa τ (4 * p + 3)))]))) : Option (va_E ⊕ List Nat))
    rw [← f3, ← f4]
    exact h8 p hp
  · rw [← e2] at hd
    show _ = (some (.inl (.inr (3, [.int (I (s_fl τ (4 * d + 1))), .int (I (s_fl τ (4 * d + 2))), .int (I (s_fl τ (4 * d + 3)))]))) : Option (va_E ⊕ List Nat))
    rw [← f2]
    exact h9 d hd
  · rw [← e6] at hk
    show _ = (some (.inl (.inr (5, [.ref (k_pa κ (s_cu τ (4 * k + 3))), .ref (k_bo κ (s_cu τ (4 * k))), .int (I (s_cu τ (4 * k + 1))), .int (I (s_cu τ (4 * k + 2))), .int (I (s_aj τ k))]))) : Option (va_E ⊕ List Nat))
    rw [← f5 _ (by omega), ← f5 _ (by omega), ← f5 _ (by omega), ← f5 _ (by omega), ← f6 _ (by omega)]
    exact h10 k hk
  · have g := grp_mem _ _ _ hm2 i j hi
    show _ = (some (.inl (.inr (2, [.ref (k_pa κ (s_cu τ (4 * j + 3))), .ref (k_pc κ j), if s_aj τ j = 0 then .null else .ref (k_pc κ (j + 1))]))) : Option (va_E ⊕ List Nat))
    rw [← f5 _ (by omega), ← f6 _ (by omega)]
    exact hc3 i j c hi hc
  · obtain ⟨y1, y2, y3⟩ := h12
    refine ⟨by rw [← e3]; exact y1, by rw [← e3]; exact y2, fun i j p q hij hi hj => ?_⟩
    have := y3 i j p q hij hi hj
    unfold prec at this ⊢
    rw [← f3]
    exact this
  · obtain ⟨y1, y2, y3, y4, y5⟩ := h13
    exact ⟨y1, by rw [← e1]; exact y2, by rw [← e1]; exact y3, by rw [← e3]; exact y4, by rw [← e6]; exact y5⟩
/-! Planning, part by part. -/
def RunP (p : Int) : Nat → ST → ST → Prop
  | 0, σ, σ' => σ = σ' ∧ ¬ canP σ p
  | n + 1, σ, σ' => canP σ p ∧ ∃ b pl, bestB σ p b pl ∧ RunP p n (cutS σ p b pl) σ'
theorem isRF_ex (σ : ST) (b pl : Int) : ∀ n : Nat, ∃ r, isRF σ b pl n r := by
  intro n
  induction n with
  | zero => exact ⟨0, Int.le_refl _, fun k hk => by omega, Or.inl rfl⟩
  | succ n ih =>
    obtain ⟨r, h⟩ := ih
    by_cases e : s_cu σ (4 * (n : Int)) = b ∧ s_cu σ (4 * (n : Int) + 2) ≤ pl
    · exact ⟨_, isRF_take (by omega) h e.1 e.2⟩
    · exact ⟨r, isRF_skip h (fun z1 z2 => e ⟨z1, z2⟩)⟩
theorem isRT_ex (σ : ST) (b pl : Int) : ∀ n : Nat, ∃ r, isRT σ b pl n r := by
  intro n
  induction n with
  | zero => exact ⟨s_wo σ (3 * b), Int.le_refl _, fun k hk => by omega, Or.inl rfl⟩
  | succ n ih =>
    obtain ⟨r, h⟩ := ih
    by_cases e : s_cu σ (4 * (n : Int)) = b ∧ pl < s_cu σ (4 * (n : Int) + 1)
    · exact ⟨_, isRT_take (by omega) h e.1 e.2⟩
    · exact ⟨r, isRT_skip h (fun z1 z2 => e ⟨z1, z2⟩)⟩
theorem roomR_ex {σ : ST} (hn : 0 ≤ s_nm σ) (b pl : Int) : ∃ r, roomR σ b pl r := by
  obtain ⟨f, hf⟩ := isRF_ex σ b pl (s_nm σ).toNat
  obtain ⟨t, ht⟩ := isRT_ex σ b pl (s_nm σ).toNat
  rw [show (((s_nm σ).toNat : Nat) : Int) = s_nm σ by omega] at hf ht
  exact ⟨_, f, t, hf, ht, rfl⟩
theorem bestB_ex {σ : ST} (hw : WF0 σ) {p : Int} (hc : canP σ p) : ∃ b pl, bestB σ p b pl := by
  have hn := wf_n hw
  have key : ∀ n : Nat, (n : Int) ≤ s_nb σ → ∃ on least, onN σ p n on least := by
    intro n
    induction n with
    | zero => intro _; exact ⟨-1, 0, Or.inl ⟨rfl, fun b pl hb => by omega⟩⟩
    | succ n ih =>
      intro hl
      obtain ⟨on, least, h⟩ := ih (by omega)
      obtain ⟨pl, he⟩ := isEarl_ex σ p n
      by_cases hp : pl = -1
      · exact ⟨on, least, onN_no h (hp ▸ he)⟩
      · have hp0 := isEarl_nn he hp
        obtain ⟨r, hr⟩ := roomR_ex (σ := σ) (by omega) n pl
        by_cases ho : on = -1 ∨ r < least
        · exact ⟨n, r, onN_new h (by omega) he hp0 hr ho⟩
        · exact ⟨on, least, onN_old h he hp0 hr (by omega) (by omega)⟩
  obtain ⟨on, least, h⟩ := key (s_nb σ).toNat (by omega)
  obtain ⟨pl, h1, h2, h3, h4⟩ := onN_best h (by omega) (by omega) hc (fun b hb => isEarl_ex σ p b)
  exact ⟨on, pl, h4⟩
theorem bestP_ex {σ : ST} {p : Int} (hc : canP σ p) : ∃ q, bestP σ q := by
  have key : ∀ n : Nat, ∃ best, bestN σ n best := by
    intro n
    induction n with
    | zero => exact ⟨-1, Or.inl ⟨rfl, fun q hq z => by have := z.1; omega⟩⟩
    | succ n ih =>
      obtain ⟨best, h⟩ := ih
      by_cases hcn : canP σ n
      · by_cases hb : best = -1
        · subst hb; exact ⟨n, bestN_first h (by omega) hcn⟩
        · by_cases ha : s_wa σ (4 * best + 0) < s_wa σ (4 * (n : Int) + 0) ∨ (s_wa σ (4 * (n : Int) + 0) = s_wa σ (4 * best + 0) ∧ s_wa σ (4 * (n : Int) + 2) < s_wa σ (4 * best + 2))
          · exact ⟨n, bestN_new h hb hcn ha⟩
          · exact ⟨best, bestN_old h hb ha⟩
      · exact ⟨best, bestN_no h hcn⟩
  have hp := hc.1
  obtain ⟨best, h⟩ := key (s_np σ).toNat
  rcases h with ⟨h1, h2⟩ | ⟨h1, h2, h3⟩
  · exact absurd hc (h2 p (by omega))
  · exact ⟨best, h2, fun q hq => h3 q (by have := hq.1; omega) hq⟩
theorem bestB_P {σ : ST} {p b pl : Int} (h : bestB σ p b pl) : (0 ≤ b ∧ b < s_nb σ) ∧ 0 ≤ pl ∧ Poss σ p (s_wa σ (4 * p + 0)) b pl := by
  obtain ⟨h1, h2, h3, h4⟩ := h
  refine ⟨h1, h3, ?_⟩
  rcases h2 with h2 | h2
  · omega
  · exact h2.1
theorem bestB_u {σ : ST} {p b pl b' pl' : Int} (h : bestB σ p b pl) (h' : bestB σ p b' pl') : b = b' ∧ pl = pl' := by
  obtain ⟨c1, c2, c3, r, c4, c5⟩ := h
  obtain ⟨c1', c2', c3', r', c4', c5'⟩ := h'
  have g1 := c5 b' pl' r' c1' c2' c3' c4'
  have g2 := c5' b pl r c1 c2 c3 c4
  have e : b = b' := by omega
  subst e
  exact ⟨rfl, isEarl_u c2 c2'⟩
theorem RunP_ex {p : Int} : ∀ (k : Nat) {σ : ST}, WF σ → s_tl σ ≤ k → ∃ n s, RunP p n σ s := by
  intro k
  induction k with
  | zero =>
    intro σ hW hk
    refine ⟨0, σ, rfl, fun hc => ?_⟩
    have h1 := wf_room hW hc.1 (by have := hc.2.1; omega)
    omega
  | succ k ih =>
    intro σ hW hk
    by_cases hc : canP σ p
    · obtain ⟨b, pl, hb⟩ := bestB_ex hW.1 hc
      obtain ⟨hb1, hb2, hP⟩ := bestB_P hb
      obtain ⟨w1, w2⟩ := cutS_wf hW hc.1 hb1 (by have := hc.2.1; omega) hP
      obtain ⟨n, s, h⟩ := ih w1 (by omega)
      exact ⟨n + 1, s, hc, b, pl, hb, h⟩
    · exact ⟨0, σ, rfl, hc⟩
theorem PlanN_ex : ∀ (k : Nat) {σ : ST}, WF σ → s_tl σ ≤ k → ∃ n s, PlanN n σ s := by
  intro k
  induction k with
  | zero =>
    intro σ hW hk
    refine ⟨0, σ, rfl, fun p hc => ?_⟩
    have h1 := wf_room hW hc.1 (by have := hc.2.1; omega)
    omega
  | succ k ih =>
    intro σ hW hk
    by_cases hc : ∃ p, canP σ p
    · obtain ⟨p, hc⟩ := hc
      obtain ⟨q, hq⟩ := bestP_ex hc
      obtain ⟨b, pl, hb⟩ := bestB_ex hW.1 hq.1
      have hs : PlanStep σ (cutS σ q b pl) := ⟨q, b, pl, hq, hb, rfl⟩
      obtain ⟨w1, w2⟩ := step_wf hW hs
      obtain ⟨n, s, h⟩ := ih w1 (by omega)
      exact ⟨n + 1, s, _, hs, h⟩
    · exact ⟨0, σ, rfl, fun p z => hc ⟨p, z⟩⟩
theorem PlanN_wf : ∀ (n : Nat) {σ s : ST}, WF σ → PlanN n σ s → WF s ∧ s_tl s = s_tl σ - n := by
  intro n
  induction n with
  | zero => intro σ s hW h; rw [← h.1]; exact ⟨hW, by omega⟩
  | succ n ih =>
    intro σ s hW h
    obtain ⟨s1, h1, h2⟩ := h
    obtain ⟨w1, w2⟩ := step_wf hW h1
    obtain ⟨w3, w4⟩ := ih w1 h2
    exact ⟨w3, by omega⟩
/-- the parts that stand ahead in the planning order can't be cut -/
def Bst (σ : ST) (p : Int) : Prop := ∀ q, canP σ q → q = p ∨ prec σ p q
theorem Bst_cut {σ : ST} (hw : WF0 σ) {p q b pl : Int} (h : Bst σ p) : Bst (cutS σ q b pl) p := by
  intro r hr
  rcases h r (canP_mono hw hr) with e | e
  · exact Or.inl e
  · exact Or.inr (prec_cut.mpr e)
/-- the cuts of one part, out of the whole plan -/
theorem RunP_N {p : Int} : ∀ (n m : Nat) {σ s s' : ST}, WF σ → Bst σ p → RunP p n σ s → PlanN m σ s' → ∃ k, m = n + k ∧ PlanN k s s' ∧ WF s ∧ (∀ q, canP s q → canP σ q) ∧ (∀ q r, prec s q r ↔ prec σ q r) ∧ s_np s = s_np σ := by
  intro n
  induction n with
  | zero =>
    intro m σ s s' hW _ h1 h2
    rw [← h1.1]
    exact ⟨m, by omega, h2, hW, fun q h => h, fun q r => Iff.rfl, rfl⟩
  | succ n ih =>
    intro m σ s s' hW hB h1 h2
    obtain ⟨hc, b, pl, hb, h3⟩ := h1
    cases m with
    | zero => exact absurd hc (h2.2 p)
    | succ m =>
      obtain ⟨s1, hs1, h4⟩ := h2
      have hs : PlanStep σ (cutS σ p b pl) := ⟨p, b, pl, ⟨hc, hB⟩, hb, rfl⟩
      have e := PlanStep_u hs hs1
      subst e
      obtain ⟨k, k1, k2, k3, k4, k5, k6⟩ := ih m (step_wf hW hs).1 (Bst_cut hW.1 hB) h3 h4
      exact ⟨k, by omega, k2, k3, fun q h => canP_mono hW.1 (k4 q h), fun q r => (k5 q r).trans prec_cut, k6⟩
theorem RunP_no {p : Int} : ∀ (n : Nat) {σ s : ST}, RunP p n σ s → ¬ canP s p := by
  intro n
  induction n with
  | zero => intro σ s h; rw [← h.1]; exact h.2
  | succ n ih => intro σ s h; obtain ⟨-, b, pl, -, h2⟩ := h; exact ih h2
theorem RunP_end {p : Int} {n : Nat} {σ s : ST} (h : RunP p n σ s) (hc : ¬ canP σ p) : n = 0 ∧ σ = s := by
  cases n with
  | zero => exact ⟨rfl, h.1⟩
  | succ n => exact absurd h.1 hc
theorem RunP_go {p : Int} {n : Nat} {σ s : ST} (h : RunP p n σ s) (hc : canP σ p) {b pl : Int} (hb : bestB σ p b pl) : ∃ m, n = m + 1 ∧ RunP p m (cutS σ p b pl) s := by
  cases n with
  | zero => exact absurd hc h.2
  | succ n =>
    obtain ⟨-, b', pl', hb', h2⟩ := h
    obtain ⟨e1, e2⟩ := bestB_u hb hb'
    subst e1 e2
    exact ⟨n, rfl, h2⟩
theorem PlanN_end {n : Nat} {σ s : ST} (h : PlanN n σ s) (hc : ∀ p, ¬ canP σ p) : n = 0 ∧ σ = s := by
  cases n with
  | zero => exact ⟨rfl, h.1⟩
  | succ n =>
    obtain ⟨s1, ⟨p, b, pl, hb, -⟩, -⟩ := h
    exact absurd hb.1 (hc p)
