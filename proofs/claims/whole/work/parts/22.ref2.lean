/-- a place whose grade is not greater -/
def gdP (σ : ST) (b g pl : Int) : Prop := s_wo σ (3 * b + 2) ≤ g ∧ ∀ d, 0 ≤ d ∧ d < s_nd σ → s_fl σ (4 * d) = b → s_fl σ (4 * d + 1) ≤ pl → pl < s_fl σ (4 * d + 2) → s_fl σ (4 * d + 3) ≤ g
theorem gdP_gr {σ : ST} {b g pl r : Int} (h : isGr σ b pl r) : r ≤ g ↔ gdP σ b g pl := by
  obtain ⟨h1, h2, h3⟩ := h
  constructor
  · intro hr
    exact ⟨by omega, fun d hd e1 e2 e3 => by have := h2 d hd e1 e2 e3; omega⟩
  · rintro ⟨g1, g2⟩
    rcases h3 with h3 | ⟨d, hd, e1, e2, e3, e4⟩
    · omega
    · have := g2 d hd e1 e2 e3; omega
theorem gdP_const {σ : ST} {b g pl nx : Int} (h : isNxN σ b pl (s_nd σ) nx) {q : Int} (hq : pl ≤ q ∧ q < nx) : gdP σ b g q ↔ gdP σ b g pl := by
  obtain ⟨h1, h2, h3, -⟩ := h
  constructor
  · rintro ⟨g1, g2⟩
    refine ⟨g1, fun d hd e1 e2 e3 => g2 d hd e1 (by omega) ?_⟩
    have := h3 d hd e1
    omega
  · rintro ⟨g1, g2⟩
    refine ⟨g1, fun d hd e1 e2 e3 => g2 d hd e1 ?_ (by omega)⟩
    have := h3 d hd e1
    omega
/-- the stretches from a place on, in their order -/
def StrP (σ : ST) (b g : Int) : List (Int × Int) → Int → Prop
  | [], fr => ∀ q, fr ≤ q → q < s_wo σ (3 * b) → ¬ gdP σ b g q
  | (a, e) :: ss, fr => fr ≤ a ∧ a < e ∧ e ≤ s_wo σ (3 * b) ∧ (∀ q, fr ≤ q → q < a → ¬ gdP σ b g q) ∧ (∀ q, a ≤ q → q < e → gdP σ b g q) ∧ (e < s_wo σ (3 * b) → ¬ gdP σ b g e) ∧ StrP σ b g ss e
theorem StrP_u {σ : ST} {b g : Int} : ∀ (ss ss' : List (Int × Int)) (fr : Int), StrP σ b g ss fr → StrP σ b g ss' fr → ss = ss' := by
  intro ss
  induction ss with
  | nil =>
    intro ss' fr h h'
    cases ss' with
    | nil => rfl
    | cons p r =>
      obtain ⟨a, e⟩ := p
      obtain ⟨h1, h2, h3, h4, h5, h6, h7⟩ := h'
      exact absurd (h5 a (by omega) h2) (h a h1 (by omega))
  | cons p r ih =>
    obtain ⟨a, e⟩ := p
    intro ss' fr h h'
    obtain ⟨h1, h2, h3, h4, h5, h6, h7⟩ := h
    cases ss' with
    | nil => exact absurd (h5 a (by omega) h2) (h' a h1 (by omega))
    | cons p' r' =>
      obtain ⟨a', e'⟩ := p'
      obtain ⟨g1, g2, g3, g4, g5, g6, g7⟩ := h'
      have ea : a = a' := by
        rcases Int.lt_trichotomy a a' with q | q | q
        · exact absurd (h5 a (by omega) h2) (g4 a h1 q)
        · exact q
        · exact absurd (g5 a' (by omega) g2) (h4 a' g1 q)
      subst ea
      have ee : e = e' := by
        rcases Int.lt_trichotomy e e' with q | q | q
        · exact absurd (g5 e (by omega) q) (h6 (by omega))
        · exact q
        · exact absurd (h5 e' (by omega) q) (g6 (by omega))
      subst ee
      rw [ih r' e h7 g7]
theorem StrP_mono {σ : ST} {b g : Int} {ss : List (Int × Int)} {fr nx : Int} (hn : fr ≤ nx) (h : StrP σ b g ss nx) (hg : ∀ q, fr ≤ q → q < nx → ¬ gdP σ b g q) : StrP σ b g ss fr := by
  cases ss with
  | nil =>
    intro q h1 h2
    by_cases h3 : q < nx
    · exact hg q h1 h3
    · exact h q (by omega) h2
  | cons p r =>
    obtain ⟨a, e⟩ := p
    obtain ⟨h1, h2, h3, h4, h5⟩ := h
    refine ⟨by omega, h2, h3, fun q q1 q2 => ?_, h5⟩
    by_cases h6 : q < nx
    · exact hg q q1 h6
    · exact h4 q (by omega) q2
theorem pk_leastI (P : Int → Prop) (lo : Int) (h : ∃ k, lo ≤ k ∧ P k) : ∃ k, lo ≤ k ∧ P k ∧ ∀ j, lo ≤ j → j < k → ¬ P j := by
  obtain ⟨k, h1, h2⟩ := h
  obtain ⟨n, h3, h4⟩ := pk_least (fun n : Nat => P (lo + n)) ⟨(k - lo).toNat, by rw [show lo + ((k - lo).toNat : Int) = k by omega]; exact h2⟩
  refine ⟨lo + n, by omega, h3, fun j j1 j2 => ?_⟩
  have := h4 (j - lo).toNat (by omega)
  rw [show lo + ((j - lo).toNat : Int) = j by omega] at this
  exact this
theorem StrP_ex {σ : ST} {b g : Int} : ∀ (n : Nat) (fr : Int), s_wo σ (3 * b) - fr ≤ n → ∃ ss, StrP σ b g ss fr := by
  intro n
  induction n with
  | zero => intro fr h; exact ⟨[], fun q h1 h2 => by omega⟩
  | succ n ih =>
    intro fr h
    by_cases hx : ∃ q, fr ≤ q ∧ q < s_wo σ (3 * b) ∧ gdP σ b g q
    · obtain ⟨a, a1, ⟨a2, a3⟩, a4⟩ := pk_leastI (fun q => q < s_wo σ (3 * b) ∧ gdP σ b g q) fr hx
      obtain ⟨e, e1, e2, e3⟩ := pk_leastI (fun q => q = s_wo σ (3 * b) ∨ (q < s_wo σ (3 * b) ∧ ¬ gdP σ b g q)) (a + 1) ⟨s_wo σ (3 * b), by omega, Or.inl rfl⟩
      obtain ⟨ss, hs⟩ := ih e (by omega)
      refine ⟨(a, e) :: ss, a1, by omega, by omega, fun q q1 q2 q3 => a4 q q1 q2 ⟨by omega, q3⟩, fun q q1 q2 => ?_, fun he => ?_, hs⟩
      · by_cases hq : q = a
        · rw [hq]; exact a3
        · exact Classical.byContradiction fun z => e3 q (by omega) q2 (Or.inr ⟨by omega, z⟩)
      · rcases e2 with e2 | e2
        · omega
        · exact e2.2
    · exact ⟨[], fun q h1 h2 h3 => hx ⟨q, h1, h2, h3⟩⟩
def GoI (σ : ST) (b g pl mn ws sf se : Int) : Prop := ∃ pre : List (Int × Int),
  (ws = 0 ∧ pre.length = mn ∧ (∀ ss, StrP σ b g ss pl → StrP σ b g (pre ++ ss) 0) ∧ (pre ≠ [] → pre.getLast? = some (sf, se))) ∨
  (ws = 1 ∧ pre.length + 1 = mn ∧ sf < pl ∧ se = pl ∧ (∀ q, sf ≤ q → q < pl → gdP σ b g q) ∧ ∀ e ss, pl ≤ e → e ≤ s_wo σ (3 * b) → (∀ q, pl ≤ q → q < e → gdP σ b g q) → (e < s_wo σ (3 * b) → ¬ gdP σ b g e) → StrP σ b g ss e → StrP σ b g (pre ++ (sf, e) :: ss) 0)
theorem GoI_0 {σ : ST} {b g sf se : Int} : GoI σ b g 0 0 0 sf se := ⟨[], Or.inl ⟨rfl, rfl, fun ss h => h, fun h => absurd rfl h⟩⟩
theorem GoI_A {σ : ST} {b g pl mn sf se nx : Int} (h : GoI σ b g pl mn 0 sf se) (hx : isNxN σ b pl (s_nd σ) nx) (hg : gdP σ b g pl) : GoI σ b g nx (mn + 1) 1 pl nx := by
  obtain ⟨pre, ⟨-, h2, h3, h4⟩ | ⟨h1, -⟩⟩ := h
  · refine ⟨pre, Or.inr ⟨rfl, by omega, hx.2.1, rfl, fun q q1 q2 => (gdP_const hx ⟨q1, q2⟩).mpr hg, fun e ss e1 e2 e3 e4 e5 => h3 _ ⟨Int.le_refl _, by have := hx.2.1; omega, e2, fun q q1 q2 => by omega, fun q q1 q2 => ?_, e4, e5⟩⟩⟩
    by_cases hq : q < nx
    · exact (gdP_const hx ⟨q1, hq⟩).mpr hg
    · exact e3 q (by omega) q2
  · omega
theorem GoI_B {σ : ST} {b g pl mn sf se nx : Int} (h : GoI σ b g pl mn 1 sf se) (hx : isNxN σ b pl (s_nd σ) nx) (hg : gdP σ b g pl) : GoI σ b g nx mn 1 sf nx := by
  obtain ⟨pre, ⟨h1, -⟩ | ⟨-, h2, h3, h4, h5, h6⟩⟩ := h
  · omega
  · have hn := hx.2.1
    refine ⟨pre, Or.inr ⟨rfl, h2, by omega, rfl, fun q q1 q2 => ?_, fun e ss e1 e2 e3 e4 e5 => h6 e ss (by omega) e2 (fun q q1 q2 => ?_) e4 e5⟩⟩
    · by_cases hq : q < pl
      · exact h5 q q1 hq
      · exact (gdP_const hx ⟨by omega, q2⟩).mpr hg
    · by_cases hq : q < nx
      · exact (gdP_const hx ⟨q1, hq⟩).mpr hg
      · exact e3 q (by omega) q2
theorem GoI_C {σ : ST} {b g pl mn sf se nx : Int} (h : GoI σ b g pl mn 1 sf se) (hx : isNxN σ b pl (s_nd σ) nx) (hl : pl < s_wo σ (3 * b)) (hg : ¬ gdP σ b g pl) : GoI σ b g nx mn 0 sf se := by
  obtain ⟨pre, ⟨h1, -⟩ | ⟨-, h2, h3, h4, h5, h6⟩⟩ := h
  · omega
  · have hn := hx.2.1
    refine ⟨pre ++ [(sf, se)], Or.inl ⟨rfl, by simp; omega, fun ss hs => ?_, fun _ => by simp⟩⟩
    rw [List.append_assoc, List.singleton_append, h4]
    exact h6 pl ss (by omega) (by omega) (fun q q1 q2 => by omega) (fun _ => hg) (StrP_mono (by omega) hs (fun q q1 q2 z => hg ((gdP_const hx ⟨q1, q2⟩).mp z)))
theorem GoI_D {σ : ST} {b g pl mn sf se nx : Int} (h : GoI σ b g pl mn 0 sf se) (hx : isNxN σ b pl (s_nd σ) nx) (hg : ¬ gdP σ b g pl) : GoI σ b g nx mn 0 sf se := by
  obtain ⟨pre, ⟨-, h2, h3, h4⟩ | ⟨h1, -⟩⟩ := h
  · have hn := hx.2.1
    exact ⟨pre, Or.inl ⟨rfl, h2, fun ss hs => h3 ss (StrP_mono (by omega) hs (fun q q1 q2 z => hg ((gdP_const hx ⟨q1, q2⟩).mp z))), h4⟩⟩
  · omega
theorem GoI_CD {σ : ST} {b g pl mn ws sf se nx : Int} (hws : ws = 0 ∨ ws = 1) (h : GoI σ b g pl mn ws sf se) (hx : isNxN σ b pl (s_nd σ) nx) (hl : pl < s_wo σ (3 * b)) (hg : ¬ gdP σ b g pl) : GoI σ b g nx mn 0 sf se := by
  rcases hws with e | e
  · subst e; exact GoI_D h hx hg
  · subst e; exact GoI_C h hx hl hg
/-- what goOver answers -/
def GoR (σ : ST) (b g wn r sf se : Int) : Prop := ∃ ss, StrP σ b g ss 0 ∧ 0 ≤ r ∧ ((r = ss.length ∧ r ≤ wn + 1) ∨ (r = wn + 1 ∧ r < ss.length)) ∧ (1 ≤ r → ss[(r - 1).toNat]? = some (sf, se))
theorem getLast_at {α : Type} {l : List α} {x : α} (h : l.getLast? = some x) : l[l.length - 1]? = some x := by rw [← List.getLast?_eq_getElem?]; exact h
theorem GoI_end {σ : ST} {b g pl mn ws sf se wn : Int} (h : GoI σ b g pl mn ws sf se) (hl : pl = s_wo σ (3 * b)) (hm : mn ≤ wn + 1) : GoR σ b g wn mn sf se := by
  obtain ⟨pre, ⟨-, h2, h3, h4⟩ | ⟨h1, h2, h3, h4, h5, h6⟩⟩ := h
  · refine ⟨pre, by have := h3 [] (fun q q1 q2 => by omega); simpa using this, by omega, Or.inl ⟨h2.symm, hm⟩, fun hr => ?_⟩
    have := getLast_at (h4 (fun z => by rw [z] at h2; simp at h2; omega))
    rw [show (mn - 1).toNat = pre.length - 1 by omega]; exact this
  · refine ⟨pre ++ [(sf, se)], ?_, by omega, Or.inl ⟨by simp; omega, hm⟩, fun hr => ?_⟩
    · rw [h4]; exact h6 pl [] (Int.le_refl _) (by omega) (fun q q1 q2 => by omega) (fun z => by omega) (fun q q1 q2 => by omega)
    · rw [show (mn - 1).toNat = pre.length by omega]; simp
theorem GoI_ret {σ : ST} {b g pl mn sf se wn : Int} (h : GoI σ b g pl mn 0 sf se) (h0 : 0 ≤ wn) (hg : gdP σ b g pl) (hl : pl < s_wo σ (3 * b)) (hm : mn = wn + 1) : GoR σ b g wn mn sf se := by
  obtain ⟨pre, ⟨-, h2, h3, h4⟩ | ⟨h1, -⟩⟩ := h
  · obtain ⟨ss, hs⟩ := StrP_ex (σ := σ) (b := b) (g := g) (s_wo σ (3 * b) - pl).toNat pl (by omega)
    have hne : 1 ≤ ss.length := by
      cases ss with
      | nil => exact absurd hg (hs pl (Int.le_refl _) hl)
      | cons p r => simp
    refine ⟨pre ++ ss, h3 ss hs, by omega, Or.inr ⟨hm, by rw [List.length_append]; omega⟩, fun hr => ?_⟩
    have := getLast_at (h4 (fun z => by rw [z] at h2; simp at h2; omega))
    rw [show (mn - 1).toNat = pre.length - 1 by omega, List.getElem?_append_left (by omega)]; exact this
  · omega

set_option maxHeartbeats 4000000 in
set_option maxRecDepth 100000 in
theorem c_M_goOver (γ : tmG) (hst : γ.1.stackTraces = false) (Λ : tmL) (ρ : Nat → Nat) (th sf se : Int) (σ : ST) (hM : RM γ.2.2.1 Λ ρ th sf se σ) (hw : WF0 σ) (b : Int) (hb : 0 ≤ b ∧ b < s_nb σ) (g wn : Int) (hgw : 0 ≤ g ∧ g ≤ 3 ∧ 0 ≤ wn ∧ wn ≤ 2147483647) : tm_Con γ (tm_h2 γ.2.1 γ.2.2.1 γ.2.2.2.1) M_X6_goOver 3 0 0 [.ref (ρ 0), .int (I (b)), .int (I (g)), .int (I (wn))] Λ (fun v w' => ∃ r sf' se', RM γ.2.2.1 w' ρ th sf' se' σ ∧ v = some (.int (I r)) ∧ GoR σ b g wn r sf' se' ∧ 0 ≤ r ∧ r ≤ 3000 ∧ (1 ≤ r → (0 ≤ sf' ∧ sf' ≤ 3000) ∧ 0 ≤ se' ∧ se' ≤ 3000)) := by
  refine tm_con hst (by decide) (Nat.le_of_ble_eq_true rfl) (fun x hB hR => ?_)
  have hg := hB.1
  subst hg
  have hC : tm_C x cX6_goOver RX6 (some FieldType.int) := hB.2.2.2.1
  obtain ⟨hm0, hm1, hm2, hm3, hm4, hm5, hm6, hmd⟩ := id hM
  have hn := wf_n hw
  have hb9 := wf_b hw b hb
  show tm_V x (tm_H x Λ) 0 0 0 [(0, .ref (ρ 0)), (1, .int (I (b))), (2, .int (I (g))), (3, .int (I (wn)))] []
  refine tm_iconst hC dX6_goOver_0 ?_
  refine tm_istore [(4, .int (I (0))), (0, .ref (ρ 0)), (1, .int (I (b))), (2, .int (I (g))), (3, .int (I (wn)))] hC dX6_goOver_1 (by rw [hB.2.1]; exact Nat.le_of_ble_eq_true rfl) rfl ?_
  refine tm_iconst hC dX6_goOver_3 ?_
  refine tm_istore [(5, .int (I (0))), (4, .int (I (0))), (0, .ref (ρ 0)), (1, .int (I (b))), (2, .int (I (g))), (3, .int (I (wn)))] hC dX6_goOver_4 (by rw [hB.2.1]; exact Nat.le_of_ble_eq_true rfl) rfl ?_
  refine tm_iconst hC dX6_goOver_6 ?_
  refine tm_istore [(6, .int (I (0))), (5, .int (I (0))), (4, .int (I (0))), (0, .ref (ρ 0)), (1, .int (I (b))), (2, .int (I (g))), (3, .int (I (wn)))] hC dX6_goOver_7 (by rw [hB.2.1]; exact Nat.le_of_ble_eq_true rfl) rfl ?_
  have hL_9 : ∀ (fu : Nat) (W : tmL) (sf1 : Int) (se1 : Int) (mn : Int) (ws : Int) (pl : Int), (RM (tm_T x) W ρ th sf1 se1 σ ∧ (0 ≤ pl ∧ pl ≤ s_wo σ (3 * b)) ∧ GoI σ b g pl mn ws sf1 se1 ∧ (0 ≤ mn ∧ mn ≤ pl ∧ mn ≤ wn + 1) ∧ (ws = 0 ∨ ws = 1) ∧ (1 ≤ mn → (0 ≤ sf1 ∧ sf1 ≤ 3000) ∧ 0 ≤ se1 ∧ se1 ≤ 3000)) → ((s_wo σ (3 * b) - pl).toNat) < fu → tm_V x (tm_H x W) 0 0 9 [(0, .ref (ρ 0)), (1, .int (I (b))), (2, .int (I (g))), (3, .int (I (wn))), (4, .int (I (mn))), (5, .int (I (ws))), (6, .int (I (pl)))] [] := by
    intro fu
    induction fu with
    | zero => intro W sf1 se1 mn ws pl hinv hm; exact absurd hm (Nat.not_lt_zero _)
    | succ fu ih_9 =>
      intro W sf1 se1 mn ws pl hinv_9 hm_9
      obtain ⟨hMW, hpl, hgi, hmn, hws, hsf⟩ := hinv_9
      obtain ⟨hm0_W, hm1_W, hm2_W, hm3_W, hm4_W, hm5_W, hm6_W, -⟩ := id hMW
      skip
      refine tm_iload 6 hC dX6_goOver_9 rfl ?_
      refine tm_aload_n 0 hC dX6_goOver_11 rfl rfl ?_
      refine tm_iload_n 1 hC dX6_goOver_12 rfl rfl ?_
      refine tm_callV (b := 0) (n := 0) (rest := [.int (I (pl))]) hC (c_M_length (tm_g x) hst W ρ th sf1 se1 σ hMW hw b (by omega) ) k_X6_57 (by rw [hB.2.2.1]; exact ⟨Nat.le_of_ble_eq_true rfl, Nat.le_of_ble_eq_true rfl⟩) rfl (tm_rec2 hC hm0_W rfl) rfl (by simp [Value.category]) dX6_goOver_13 (fun v_13 w_13 hp_13 => ?_)
      obtain ⟨rfl, rfl, hb_13⟩ := hp_13
      show tm_V x (tm_H x W) 0 0 16 [(0, .ref (ρ 0)), (1, .int (I (b))), (2, .int (I (g))), (3, .int (I (wn))), (4, .int (I (mn))), (5, .int (I (ws))), (6, .int (I (pl)))] [.int (I (s_wo σ (3 * b))), .int (I (pl))]
      refine tm_icmp_ge 97 hC dX6_goOver_16 (by decide) (by omega) (fun c_16 => ?_) (fun c_16 => ?_)
      · refine tm_iload 4 hC dX6_goOver_97 rfl ?_
        exact tm_iret hC hR dX6_goOver_99 (⟨mn, sf1, se1, hMW, rfl, GoI_end hgi (by omega) (by omega), by omega, by omega, hsf⟩)
      · refine tm_aload_n 0 hC dX6_goOver_19 rfl rfl ?_
        refine tm_iload_n 1 hC dX6_goOver_20 rfl rfl ?_
        refine tm_iload 6 hC dX6_goOver_21 rfl ?_
        refine tm_callV (b := 0) (n := 0) (rest := []) hC (c_M_gradeAt (tm_g x) hst W ρ th sf1 se1 σ hMW hw b (by omega) pl (by omega)) k_X6_88 (by rw [hB.2.2.1]; exact ⟨Nat.le_of_ble_eq_true rfl, Nat.le_of_ble_eq_true rfl⟩) rfl (tm_rec2 hC hm0_W rfl) rfl (by decide) dX6_goOver_23 (fun v_23 w_23 hp_23 => ?_)
        obtain ⟨rfl, r_23, rfl, hr_23, hrb_23⟩ := hp_23
        show tm_V x (tm_H x W) 0 0 26 [(0, .ref (ρ 0)), (1, .int (I (b))), (2, .int (I (g))), (3, .int (I (wn))), (4, .int (I (mn))), (5, .int (I (ws))), (6, .int (I (pl)))] [.int (I (r_23))]
        refine tm_iload_n 2 hC dX6_goOver_26 rfl rfl ?_
        refine tm_icmp_gt 34 hC dX6_goOver_27 (by decide) (by omega) (fun c_27 => ?_) (fun c_27 => ?_)
        · have hg9 : ¬ gdP σ b g pl := fun z => absurd ((gdP_gr hr_23).mpr z) (by omega)
          refine tm_iconst hC dX6_goOver_34 ?_
          refine tm_istore [(7, .int (I (0))), (0, .ref (ρ 0)), (1, .int (I (b))), (2, .int (I (g))), (3, .int (I (wn))), (4, .int (I (mn))), (5, .int (I (ws))), (6, .int (I (pl)))] hC dX6_goOver_35 (by rw [hB.2.1]; exact Nat.le_of_ble_eq_true rfl) rfl ?_
          refine tm_iload 0 hC dX6_goOver_37 rfl ?_
          refine tm_if_eq 65 hC dX6_goOver_39 (by decide) (by omega) (fun _ => ?_) (fun c => absurd (by omega) c)
          refine tm_iload 0 hC dX6_goOver_65 rfl ?_
          refine tm_if_eq 81 hC dX6_goOver_67 (by decide) (by omega) (fun _ => ?_) (fun c => absurd (by omega) c)
          refine tm_iload 0 hC dX6_goOver_81 rfl ?_
          refine tm_istore [(5, .int (I (0))), (7, .int (I (0))), (0, .ref (ρ 0)), (1, .int (I (b))), (2, .int (I (g))), (3, .int (I (wn))), (4, .int (I (mn))), (6, .int (I (pl)))] hC dX6_goOver_83 (by rw [hB.2.1]; exact Nat.le_of_ble_eq_true rfl) rfl ?_
          refine tm_aload_n 2 hC dX6_goOver_85 rfl rfl ?_
          refine tm_iload_n 3 hC dX6_goOver_86 rfl rfl ?_
          refine tm_iload 7 hC dX6_goOver_87 rfl ?_
          refine tm_callV (b := 0) (n := 0) (rest := []) hC (c_M_nextChange (tm_g x) hst W ρ th sf1 se1 σ hMW hw b (by omega) pl (by omega)) k_X6_97 (by rw [hB.2.2.1]; exact ⟨Nat.le_of_ble_eq_true rfl, Nat.le_of_ble_eq_true rfl⟩) rfl (tm_rec2 hC hm0_W rfl) rfl (by decide) dX6_goOver_89 (fun v_89 w_89 hp_89 => ?_)
          obtain ⟨rfl, nx_89, rfl, hx_89, hxb_89⟩ := hp_89
          have hxl_89 := hx_89.1
          show tm_V x (tm_H x W) 0 0 92 [(5, .int (I (0))), (7, .int (I (0))), (0, .ref (ρ 0)), (1, .int (I (b))), (2, .int (I (g))), (3, .int (I (wn))), (4, .int (I (mn))), (6, .int (I (pl)))] [.int (I (nx_89))]
          refine tm_istore [(6, .int (I (nx_89))), (5, .int (I (0))), (7, .int (I (0))), (0, .ref (ρ 0)), (1, .int (I (b))), (2, .int (I (g))), (3, .int (I (wn))), (4, .int (I (mn)))] hC dX6_goOver_92 (by rw [hB.2.1]; exact Nat.le_of_ble_eq_true rfl) rfl ?_
          refine tm_goto 9 hC dX6_goOver_94 (by decide) ?_
          refine tm_sub (L' := [(0, .ref (ρ 0)), (1, .int (I (b))), (2, .int (I (g))), (3, .int (I (wn))), (4, .int (I (mn))), (5, .int (I (0))), (6, .int (I (nx_89)))]) [3, 4, 5, 6, 7, 1, 0] rfl ?_
          exact ih_9  W sf1 se1 mn 0 nx_89 (⟨hMW, by omega, GoI_CD hws hgi hx_89 (by omega) hg9, by omega, by omega, by omega⟩) (by omega)
        · have hg9 : gdP σ b g pl := (gdP_gr hr_23).mp (by omega)
          refine tm_iconst hC dX6_goOver_30 ?_
          refine tm_goto 35 hC dX6_goOver_31 (by decide) ?_
          refine tm_istore [(7, .int (I (1))), (0, .ref (ρ 0)), (1, .int (I (b))), (2, .int (I (g))), (3, .int (I (wn))), (4, .int (I (mn))), (5, .int (I (ws))), (6, .int (I (pl)))] hC dX6_goOver_35 (by rw [hB.2.1]; exact Nat.le_of_ble_eq_true rfl) rfl ?_
          refine tm_iload 0 hC dX6_goOver_37 rfl ?_
          refine tm_if_eq 65 hC dX6_goOver_39 (by decide) (by omega) (fun c => absurd c (by omega)) (fun _ => ?_)
          refine tm_iload 6 hC dX6_goOver_42 rfl ?_
          refine tm_if_ne 65 hC dX6_goOver_44 (by decide) (by omega) (fun c_44 => ?_) (fun c_44 => ?_)
          · refine tm_iload 0 hC dX6_goOver_65 rfl ?_
            refine tm_if_eq 81 hC dX6_goOver_67 (by decide) (by omega) (fun c => absurd c (by omega)) (fun _ => ?_)
            refine tm_aload_n 1 hC dX6_goOver_70 rfl rfl ?_
            refine tm_aload_n 1 hC dX6_goOver_71 rfl rfl ?_
            refine tm_iload_n 2 hC dX6_goOver_72 rfl rfl ?_
            refine tm_iload 7 hC dX6_goOver_73 rfl ?_
            refine tm_callV (b := 0) (n := 0) (rest := [.ref (ρ 0)]) hC (c_M_nextChange (tm_g x) hst W ρ th sf1 se1 σ hMW hw b (by omega) pl (by omega)) k_X6_97 (by rw [hB.2.2.1]; exact ⟨Nat.le_of_ble_eq_true rfl, Nat.le_of_ble_eq_true rfl⟩) rfl (tm_rec2 hC hm0_W rfl) rfl (by simp [Value.category]) dX6_goOver_75 (fun v_75 w_75 hp_75 => ?_)
            obtain ⟨rfl, nx_75, rfl, hx_75, hxb_75⟩ := hp_75
            have hxl_75 := hx_75.1
            show tm_V x (tm_H x W) 0 0 78 [(7, .int (I (1))), (0, .ref (ρ 0)), (1, .int (I (b))), (2, .int (I (g))), (3, .int (I (wn))), (4, .int (I (mn))), (5, .int (I (ws))), (6, .int (I (pl)))] [.int (I (nx_75)), .ref (ρ 0)]
            refine tm_putf2 hC f_X6_100 hm0_W (tt_7_14 _) (Nat.le_of_ble_eq_true rfl) dX6_goOver_78 ?_
            obtain ⟨w1, hw2⟩ : ∃ z, z = tm_u2 W (ρ 0) (.inr (7, [.int (I (th)), .int (I (s_nb σ)), .ref (ρ 1), .int (I (s_nd σ)), .ref (ρ 2), .int (I (s_np σ)), .ref (ρ 3), .ref (ρ 4), .int (I (s_sw σ)), .int (I (s_jt σ)), .int (I (s_nm σ)), .ref (ρ 5), .ref (ρ 6), .int (I (sf1)), .int (I (nx_75))])) := ⟨_, rfl⟩
            show tm_V x (tm_H x (tm_u2 W (ρ 0) (.inr (7, [.int (I (th)), .int (I (s_nb σ)), .ref (ρ 1), .int (I (s_nd σ)), .ref (ρ 2), .int (I (s_np σ)), .ref (ρ 3), .ref (ρ 4), .int (I (s_sw σ)), .int (I (s_jt σ)), .int (I (s_nm σ)), .ref (ρ 5), .ref (ρ 6), .int (I (sf1)), .int (I (nx_75))])))) 0 0 81 [(7, .int (I (1))), (0, .ref (ρ 0)), (1, .int (I (b))), (2, .int (I (g))), (3, .int (I (wn))), (4, .int (I (mn))), (5, .int (I (ws))), (6, .int (I (pl)))] []
            rw [← hw2]
            have hw1_ρ_0 : w1 (ρ 0) = some (.inl (.inr (7, [.int (I (th)), .int (I (s_nb σ)), .ref (ρ 1), .int (I (s_nd σ)), .ref (ρ 2), .int (I (s_np σ)), .ref (ρ 3), .ref (ρ 4), .int (I (s_sw σ)), .int (I (s_jt σ)), .int (I (s_nm σ)), .ref (ρ 5), .ref (ρ 6), .int (I (sf1)), .int (I (nx_75))]))) := by rw [hw2]; first | done | exact tm_u2_s
            have hw1_ρ_1 := (show w1 (ρ 1) = _ by rw [hw2]; exact tm_u2_n (fun z => absurd (hm0_W.symm.trans (z ▸ hm1_W)) (by intro q; cases q))).trans hm1_W
            have hw1_ρ_2 := (show w1 (ρ 2) = _ by rw [hw2]; exact tm_u2_n (fun z => absurd (hm0_W.symm.trans (z ▸ hm2_W)) (by intro q; cases q))).trans hm2_W
            have hw1_ρ_3 := (show w1 (ρ 3) = _ by rw [hw2]; exact tm_u2_n (fun z => absurd (hm0_W.symm.trans (z ▸ hm3_W)) (by intro q; cases q))).trans hm3_W
            have hw1_ρ_4 := (show w1 (ρ 4) = _ by rw [hw2]; exact tm_u2_n (fun z => absurd (hm0_W.symm.trans (z ▸ hm4_W)) (by intro q; cases q))).trans hm4_W
            have hw1_ρ_5 := (show w1 (ρ 5) = _ by rw [hw2]; exact tm_u2_n (fun z => absurd (hm0_W.symm.trans (z ▸ hm5_W)) (by intro q; cases q))).trans hm5_W
            have hw1_ρ_6 := (show w1 (ρ 6) = _ by rw [hw2]; exact tm_u2_n (fun z => absurd (hm0_W.symm.trans (z ▸ hm6_W)) (by intro q; cases q))).trans hm6_W
            have hM_w1 : RM (tm_T x) w1 ρ th sf1 nx_75 σ := ⟨hw1_ρ_0, hw1_ρ_1, hw1_ρ_2, hw1_ρ_3, hw1_ρ_4, hw1_ρ_5, hw1_ρ_6, hmd⟩
            refine tm_iload 0 hC dX6_goOver_81 rfl ?_
            refine tm_istore [(5, .int (I (1))), (7, .int (I (1))), (0, .ref (ρ 0)), (1, .int (I (b))), (2, .int (I (g))), (3, .int (I (wn))), (4, .int (I (mn))), (6, .int (I (pl)))] hC dX6_goOver_83 (by rw [hB.2.1]; exact Nat.le_of_ble_eq_true rfl) rfl ?_
            refine tm_aload_n 2 hC dX6_goOver_85 rfl rfl ?_
            refine tm_iload_n 3 hC dX6_goOver_86 rfl rfl ?_
            refine tm_iload 7 hC dX6_goOver_87 rfl ?_
            refine tm_callV (b := 0) (n := 0) (rest := []) hC (c_M_nextChange (tm_g x) hst w1 ρ th sf1 nx_75 σ hM_w1 hw b (by omega) pl (by omega)) k_X6_97 (by rw [hB.2.2.1]; exact ⟨Nat.le_of_ble_eq_true rfl, Nat.le_of_ble_eq_true rfl⟩) rfl (tm_rec2 hC hw1_ρ_0 rfl) rfl (by decide) dX6_goOver_89 (fun v_89 w_89 hp_89 => ?_)
            obtain ⟨rfl, nx_89, rfl, hx_89, hxb_89⟩ := hp_89
            have hxl_89 := hx_89.1
            show tm_V x (tm_H x w1) 0 0 92 [(5, .int (I (1))), (7, .int (I (1))), (0, .ref (ρ 0)), (1, .int (I (b))), (2, .int (I (g))), (3, .int (I (wn))), (4, .int (I (mn))), (6, .int (I (pl)))] [.int (I (nx_89))]
            refine tm_istore [(6, .int (I (nx_89))), (5, .int (I (1))), (7, .int (I (1))), (0, .ref (ρ 0)), (1, .int (I (b))), (2, .int (I (g))), (3, .int (I (wn))), (4, .int (I (mn)))] hC dX6_goOver_92 (by rw [hB.2.1]; exact Nat.le_of_ble_eq_true rfl) rfl ?_
            refine tm_goto 9 hC dX6_goOver_94 (by decide) ?_
            refine tm_sub (L' := [(0, .ref (ρ 0)), (1, .int (I (b))), (2, .int (I (g))), (3, .int (I (wn))), (4, .int (I (mn))), (5, .int (I (1))), (6, .int (I (nx_89)))]) [3, 4, 5, 6, 7, 1, 0] rfl ?_
            exact ih_9  w1 sf1 nx_75 mn 1 nx_89 (⟨hM_w1, by omega, by rw [isNx_u hx_75 hx_89]; exact GoI_B ((show ws = 1 by omega) ▸ hgi) hx_89 hg9, by omega, by omega, by omega⟩) (by omega)
          · refine tm_iload 5 hC dX6_goOver_47 rfl ?_
            refine tm_iload_n 4 hC dX6_goOver_49 rfl rfl ?_
            refine tm_icmp_le 56 hC dX6_goOver_50 (by decide) (by omega) (fun c_50 => ?_) (fun c_50 => ?_)
            · refine tm_iinc 5 [(4, .int (I (mn + 1))), (7, .int (I (1))), (0, .ref (ρ 0)), (1, .int (I (b))), (2, .int (I (g))), (3, .int (I (wn))), (5, .int (I (ws))), (6, .int (I (pl)))] hC dX6_goOver_56 rfl (by rw [hB.2.1]; exact Nat.le_of_ble_eq_true rfl) rfl ?_
              refine tm_aload_n 2 hC dX6_goOver_59 rfl rfl ?_
              refine tm_iload 7 hC dX6_goOver_60 rfl ?_
              refine tm_putf2 hC f_X6_94 hm0_W (tt_7_13 _) (Nat.le_of_ble_eq_true rfl) dX6_goOver_62 ?_
              obtain ⟨w3, hw4⟩ : ∃ z, z = tm_u2 W (ρ 0) (.inr (7, [.int (I (th)), .int (I (s_nb σ)), .ref (ρ 1), .int (I (s_nd σ)), .ref (ρ 2), .int (I (s_np σ)), .ref (ρ 3), .ref (ρ 4), .int (I (s_sw σ)), .int (I (s_jt σ)), .int (I (s_nm σ)), .ref (ρ 5), .ref (ρ 6), .int (I (pl)), .int (I (se1))])) := ⟨_, rfl⟩
              show tm_V x (tm_H x (tm_u2 W (ρ 0) (.inr (7, [.int (I (th)), .int (I (s_nb σ)), .ref (ρ 1), .int (I (s_nd σ)), .ref (ρ 2), .int (I (s_np σ)), .ref (ρ 3), .ref (ρ 4), .int (I (s_sw σ)), .int (I (s_jt σ)), .int (I (s_nm σ)), .ref (ρ 5), .ref (ρ 6), .int (I (pl)), .int (I (se1))])))) 0 0 65 [(4, .int (I (mn + 1))), (7, .int (I (1))), (0, .ref (ρ 0)), (1, .int (I (b))), (2, .int (I (g))), (3, .int (I (wn))), (5, .int (I (ws))), (6, .int (I (pl)))] []
              rw [← hw4]
              have hw3_ρ_0 : w3 (ρ 0) = some (.inl (.inr (7, [.int (I (th)), .int (I (s_nb σ)), .ref (ρ 1), .int (I (s_nd σ)), .ref (ρ 2), .int (I (s_np σ)), .ref (ρ 3), .ref (ρ 4), .int (I (s_sw σ)), .int (I (s_jt σ)), .int (I (s_nm σ)), .ref (ρ 5), .ref (ρ 6), .int (I (pl)), .int (I (se1))]))) := by rw [hw4]; first | done | exact tm_u2_s
              have hw3_ρ_1 := (show w3 (ρ 1) = _ by rw [hw4]; exact tm_u2_n (fun z => absurd (hm0_W.symm.trans (z ▸ hm1_W)) (by intro q; cases q))).trans hm1_W
              have hw3_ρ_2 := (show w3 (ρ 2) = _ by rw [hw4]; exact tm_u2_n (fun z => absurd (hm0_W.symm.trans (z ▸ hm2_W)) (by intro q; cases q))).trans hm2_W
              have hw3_ρ_3 := (show w3 (ρ 3) = _ by rw [hw4]; exact tm_u2_n (fun z => absurd (hm0_W.symm.trans (z ▸ hm3_W)) (by intro q; cases q))).trans hm3_W
              have hw3_ρ_4 := (show w3 (ρ 4) = _ by rw [hw4]; exact tm_u2_n (fun z => absurd (hm0_W.symm.trans (z ▸ hm4_W)) (by intro q; cases q))).trans hm4_W
              have hw3_ρ_5 := (show w3 (ρ 5) = _ by rw [hw4]; exact tm_u2_n (fun z => absurd (hm0_W.symm.trans (z ▸ hm5_W)) (by intro q; cases q))).trans hm5_W
              have hw3_ρ_6 := (show w3 (ρ 6) = _ by rw [hw4]; exact tm_u2_n (fun z => absurd (hm0_W.symm.trans (z ▸ hm6_W)) (by intro q; cases q))).trans hm6_W
              have hM_w3 : RM (tm_T x) w3 ρ th pl se1 σ := ⟨hw3_ρ_0, hw3_ρ_1, hw3_ρ_2, hw3_ρ_3, hw3_ρ_4, hw3_ρ_5, hw3_ρ_6, hmd⟩
              refine tm_iload 1 hC dX6_goOver_65 rfl ?_
              refine tm_if_eq 81 hC dX6_goOver_67 (by decide) (by omega) (fun c => absurd c (by omega)) (fun _ => ?_)
              refine tm_aload_n 2 hC dX6_goOver_70 rfl rfl ?_
              refine tm_aload_n 2 hC dX6_goOver_71 rfl rfl ?_
              refine tm_iload_n 3 hC dX6_goOver_72 rfl rfl ?_
              refine tm_iload 7 hC dX6_goOver_73 rfl ?_
              refine tm_callV (b := 0) (n := 0) (rest := [.ref (ρ 0)]) hC (c_M_nextChange (tm_g x) hst w3 ρ th pl se1 σ hM_w3 hw b (by omega) pl (by omega)) k_X6_97 (by rw [hB.2.2.1]; exact ⟨Nat.le_of_ble_eq_true rfl, Nat.le_of_ble_eq_true rfl⟩) rfl (tm_rec2 hC hw3_ρ_0 rfl) rfl (by simp [Value.category]) dX6_goOver_75 (fun v_75 w_75 hp_75 => ?_)
              obtain ⟨rfl, nx_75, rfl, hx_75, hxb_75⟩ := hp_75
              have hxl_75 := hx_75.1
              show tm_V x (tm_H x w3) 0 0 78 [(4, .int (I (mn + 1))), (7, .int (I (1))), (0, .ref (ρ 0)), (1, .int (I (b))), (2, .int (I (g))), (3, .int (I (wn))), (5, .int (I (ws))), (6, .int (I (pl)))] [.int (I (nx_75)), .ref (ρ 0)]
              refine tm_putf2 hC f_X6_100 hw3_ρ_0 (tt_7_14 _) (Nat.le_of_ble_eq_true rfl) dX6_goOver_78 ?_
              obtain ⟨w5, hw6⟩ : ∃ z, z = tm_u2 w3 (ρ 0) (.inr (7, [.int (I (th)), .int (I (s_nb σ)), .ref (ρ 1), .int (I (s_nd σ)), .ref (ρ 2), .int (I (s_np σ)), .ref (ρ 3), .ref (ρ 4), .int (I (s_sw σ)), .int (I (s_jt σ)), .int (I (s_nm σ)), .ref (ρ 5), .ref (ρ 6), .int (I (pl)), .int (I (nx_75))])) := ⟨_, rfl⟩
              show tm_V x (tm_H x (tm_u2 w3 (ρ 0) (.inr (7, [.int (I (th)), .int (I (s_nb σ)), .ref (ρ 1), .int (I (s_nd σ)), .ref (ρ 2), .int (I (s_np σ)), .ref (ρ 3), .ref (ρ 4), .int (I (s_sw σ)), .int (I (s_jt σ)), .int (I (s_nm σ)), .ref (ρ 5), .ref (ρ 6), .int (I (pl)), .int (I (nx_75))])))) 0 0 81 [(4, .int (I (mn + 1))), (7, .int (I (1))), (0, .ref (ρ 0)), (1, .int (I (b))), (2, .int (I (g))), (3, .int (I (wn))), (5, .int (I (ws))), (6, .int (I (pl)))] []
              rw [← hw6]
              have hw5_ρ_0 : w5 (ρ 0) = some (.inl (.inr (7, [.int (I (th)), .int (I (s_nb σ)), .ref (ρ 1), .int (I (s_nd σ)), .ref (ρ 2), .int (I (s_np σ)), .ref (ρ 3), .ref (ρ 4), .int (I (s_sw σ)), .int (I (s_jt σ)), .int (I (s_nm σ)), .ref (ρ 5), .ref (ρ 6), .int (I (pl)), .int (I (nx_75))]))) := by rw [hw6]; first | done | exact tm_u2_s
              have hw5_ρ_1 := (show w5 (ρ 1) = _ by rw [hw6]; exact tm_u2_n (fun z => absurd (hw3_ρ_0.symm.trans (z ▸ hw3_ρ_1)) (by intro q; cases q))).trans hw3_ρ_1
              have hw5_ρ_2 := (show w5 (ρ 2) = _ by rw [hw6]; exact tm_u2_n (fun z => absurd (hw3_ρ_0.symm.trans (z ▸ hw3_ρ_2)) (by intro q; cases q))).trans hw3_ρ_2
              have hw5_ρ_3 := (show w5 (ρ 3) = _ by rw [hw6]; exact tm_u2_n (fun z => absurd (hw3_ρ_0.symm.trans (z ▸ hw3_ρ_3)) (by intro q; cases q))).trans hw3_ρ_3
              have hw5_ρ_4 := (show w5 (ρ 4) = _ by rw [hw6]; exact tm_u2_n (fun z => absurd (hw3_ρ_0.symm.trans (z ▸ hw3_ρ_4)) (by intro q; cases q))).trans hw3_ρ_4
              have hw5_ρ_5 := (show w5 (ρ 5) = _ by rw [hw6]; exact tm_u2_n (fun z => absurd (hw3_ρ_0.symm.trans (z ▸ hw3_ρ_5)) (by intro q; cases q))).trans hw3_ρ_5
              have hw5_ρ_6 := (show w5 (ρ 6) = _ by rw [hw6]; exact tm_u2_n (fun z => absurd (hw3_ρ_0.symm.trans (z ▸ hw3_ρ_6)) (by intro q; cases q))).trans hw3_ρ_6
              have hM_w5 : RM (tm_T x) w5 ρ th pl nx_75 σ := ⟨hw5_ρ_0, hw5_ρ_1, hw5_ρ_2, hw5_ρ_3, hw5_ρ_4, hw5_ρ_5, hw5_ρ_6, hmd⟩
              refine tm_iload 1 hC dX6_goOver_81 rfl ?_
              refine tm_istore [(5, .int (I (1))), (4, .int (I (mn + 1))), (7, .int (I (1))), (0, .ref (ρ 0)), (1, .int (I (b))), (2, .int (I (g))), (3, .int (I (wn))), (6, .int (I (pl)))] hC dX6_goOver_83 (by rw [hB.2.1]; exact Nat.le_of_ble_eq_true rfl) rfl ?_
              refine tm_aload_n 3 hC dX6_goOver_85 rfl rfl ?_
              refine tm_iload_n 4 hC dX6_goOver_86 rfl rfl ?_
              refine tm_iload 7 hC dX6_goOver_87 rfl ?_
              refine tm_callV (b := 0) (n := 0) (rest := []) hC (c_M_nextChange (tm_g x) hst w5 ρ th pl nx_75 σ hM_w5 hw b (by omega) pl (by omega)) k_X6_97 (by rw [hB.2.2.1]; exact ⟨Nat.le_of_ble_eq_true rfl, Nat.le_of_ble_eq_true rfl⟩) rfl (tm_rec2 hC hw5_ρ_0 rfl) rfl (by decide) dX6_goOver_89 (fun v_89 w_89 hp_89 => ?_)
              obtain ⟨rfl, nx_89, rfl, hx_89, hxb_89⟩ := hp_89
              have hxl_89 := hx_89.1
              show tm_V x (tm_H x w5) 0 0 92 [(5, .int (I (1))), (4, .int (I (mn + 1))), (7, .int (I (1))), (0, .ref (ρ 0)), (1, .int (I (b))), (2, .int (I (g))), (3, .int (I (wn))), (6, .int (I (pl)))] [.int (I (nx_89))]
              refine tm_istore [(6, .int (I (nx_89))), (5, .int (I (1))), (4, .int (I (mn + 1))), (7, .int (I (1))), (0, .ref (ρ 0)), (1, .int (I (b))), (2, .int (I (g))), (3, .int (I (wn)))] hC dX6_goOver_92 (by rw [hB.2.1]; exact Nat.le_of_ble_eq_true rfl) rfl ?_
              refine tm_goto 9 hC dX6_goOver_94 (by decide) ?_
              refine tm_sub (L' := [(0, .ref (ρ 0)), (1, .int (I (b))), (2, .int (I (g))), (3, .int (I (wn))), (4, .int (I (mn + 1))), (5, .int (I (1))), (6, .int (I (nx_89)))]) [4, 5, 6, 7, 2, 1, 0] rfl ?_
              exact ih_9  w5 pl nx_75 (mn + 1) 1 nx_89 (⟨hM_w5, by omega, by rw [isNx_u hx_75 hx_89]; exact GoI_A (c_44 ▸ hgi) hx_89 hg9, by omega, by omega, by omega⟩) (by omega)
            · refine tm_iload 5 hC dX6_goOver_53 rfl ?_
              exact tm_iret hC hR dX6_goOver_55 (⟨mn, sf1, se1, hMW, rfl, GoI_ret (c_44 ▸ hgi) (by omega) hg9 (by omega) (by omega), by omega, by omega, hsf⟩)
  refine tm_sub (L' := [(0, .ref (ρ 0)), (1, .int (I (b))), (2, .int (I (g))), (3, .int (I (wn))), (4, .int (I (0))), (5, .int (I (0))), (6, .int (I (0)))]) [3, 4, 5, 6, 2, 1, 0] rfl ?_
  exact hL_9 _ Λ sf se 0 0 0 (⟨hM, by omega, GoI_0, by omega, Or.inl rfl, fun z => by omega⟩) (Nat.lt_succ_self _)

/-- what stretches answers: k says what is thrown (0: nothing) -/
def Sp_stretches (σ : ST) (b g k r : Int) : Prop := (¬ (0 ≤ b ∧ b < s_nb σ) ∧ k = 1) ∨ ((0 ≤ b ∧ b < s_nb σ) ∧ ¬ (0 ≤ g ∧ g ≤ 3) ∧ k = 2) ∨ ((0 ≤ b ∧ b < s_nb σ) ∧ (0 ≤ g ∧ g ≤ 3) ∧ k = 0 ∧ ∃ ss, StrP σ b g ss 0 ∧ r = ss.length)
def Sp_stretch (σ : ST) (b g n e k r : Int) : Prop := (¬ (0 ≤ b ∧ b < s_nb σ) ∧ k = 1) ∨ ((0 ≤ b ∧ b < s_nb σ) ∧ k = 2 ∧ (¬ (0 ≤ g ∧ g ≤ 3) ∨ n < 0 ∨ ((0 ≤ g ∧ g ≤ 3) ∧ ∃ ss, StrP σ b g ss 0 ∧ (ss.length : Int) ≤ n))) ∨ ((0 ≤ b ∧ b < s_nb σ) ∧ (0 ≤ g ∧ g ≤ 3) ∧ 0 ≤ n ∧ k = 0 ∧ ∃ ss a z, StrP σ b g ss 0 ∧ ss[n.toNat]? = some (a, z) ∧ r = (if e = 0 then a else z))
def Sp_grade (σ : ST) (b pl k r : Int) : Prop := (¬ ((0 ≤ b ∧ b < s_nb σ) ∧ 0 ≤ pl ∧ pl < s_wo σ (3 * b)) ∧ k = 1) ∨ (((0 ≤ b ∧ b < s_nb σ) ∧ 0 ≤ pl ∧ pl < s_wo σ (3 * b)) ∧ k = 0 ∧ isGr σ b pl r)
theorem GoR_len {σ : ST} {b g r sf se : Int} (h : GoR σ b g 3000 r sf se) (hr : r ≤ 3000) : ∃ ss, StrP σ b g ss 0 ∧ r = ss.length := by
  obtain ⟨ss, h1, h2, h3 | h3, h4⟩ := h
  · exact ⟨ss, h1, h3.1⟩
  · omega
theorem GoR_no {σ : ST} {b g n r sf se : Int} (h : GoR σ b g n r sf se) (hr : r ≤ n) : ∃ ss, StrP σ b g ss 0 ∧ (ss.length : Int) ≤ n := by
  obtain ⟨ss, h1, h2, h3 | h3, h4⟩ := h
  · exact ⟨ss, h1, by omega⟩
  · omega
theorem GoR_at {σ : ST} {b g n r sf se : Int} (h : GoR σ b g n r sf se) (h0 : 0 ≤ n) (hr : n < r) : ∃ ss, StrP σ b g ss 0 ∧ ss[n.toNat]? = some (sf, se) := by
  obtain ⟨ss, h1, h2, h3 | h3, h4⟩ := h
  · exact ⟨ss, h1, by rw [show n = r - 1 by omega]; exact h4 (by omega)⟩
  · exact ⟨ss, h1, by rw [show n = r - 1 by omega]; exact h4 (by omega)⟩

set_option maxHeartbeats 4000000 in
set_option maxRecDepth 100000 in
theorem c_M_stretches (γ : tmG) (hst : γ.1.stackTraces = false) (Λ : tmL) (ρ : Nat → Nat) (th sf se : Int) (σ : ST) (hM : RM γ.2.2.1 Λ ρ th sf se σ) (hw : WF0 σ) (b g : Int) (hr : (-2147483648 ≤ b ∧ b ≤ 2147483647) ∧ (-2147483648 ≤ g ∧ g ≤ 2147483647)) : tm_Con γ (tm_h2 γ.2.1 γ.2.2.1 γ.2.2.2.1) M_X6_stretches 4 0 0 [.ref (ρ 0), .int (I (b)), .int (I (g))] Λ (fun v w' => ∃ k sf' se' r, RM γ.2.2.1 w' ρ k sf' se' σ ∧ v = some (.int (I r)) ∧ Sp_stretches σ b g k r) := by
  refine tm_con hst (by decide) (Nat.le_of_ble_eq_true rfl) (fun x hB hR => ?_)
  have hg := hB.1
  subst hg
  have hC : tm_C x cX6_stretches RX6 (some FieldType.int) := hB.2.2.2.1
  obtain ⟨hm0, hm1, hm2, hm3, hm4, hm5, hm6, hmd⟩ := id hM
  have hn := wf_n hw
  show tm_V x (tm_H x Λ) 0 0 0 [(0, .ref (ρ 0)), (1, .int (I (b))), (2, .int (I (g)))] []
  refine tm_aload_n 0 hC dX6_stretches_0 rfl rfl ?_
  refine tm_iconst hC dX6_stretches_1 ?_
  refine tm_putf2 hC f_X6_36 hm0 (tt_7_0 _) (Nat.le_of_ble_eq_true rfl) dX6_stretches_2 ?_
  obtain ⟨w1, hw2⟩ : ∃ z, z = tm_u2 Λ (ρ 0) (.inr (7, [.int (I (0)), .int (I (s_nb σ)), .ref (ρ 1), .int (I (s_nd σ)), .ref (ρ 2), .int (I (s_np σ)), .ref (ρ 3), .ref (ρ 4), .int (I (s_sw σ)), .int (I (s_jt σ)), .int (I (s_nm σ)), .ref (ρ 5), .ref (ρ 6), .int (I (sf)), .int (I (se))])) := ⟨_, rfl⟩
  show tm_V x (tm_H x (tm_u2 Λ (ρ 0) (.inr (7, [.int (I (0)), .int (I (s_nb σ)), .ref (ρ 1), .int (I (s_nd σ)), .ref (ρ 2), .int (I (s_np σ)), .ref (ρ 3), .ref (ρ 4), .int (I (s_sw σ)), .int (I (s_jt σ)), .int (I (s_nm σ)), .ref (ρ 5), .ref (ρ 6), .int (I (sf)), .int (I (se))])))) 0 0 5 [(0, .ref (ρ 0)), (1, .int (I (b))), (2, .int (I (g)))] []
  rw [← hw2]
  have hw1_ρ_0 : w1 (ρ 0) = some (.inl (.inr (7, [.int (I (0)), .int (I (s_nb σ)), .ref (ρ 1), .int (I (s_nd σ)), .ref (ρ 2), .int (I (s_np σ)), .ref (ρ 3), .ref (ρ 4), .int (I (s_sw σ)), .int (I (s_jt σ)), .int (I (s_nm σ)), .ref (ρ 5), .ref (ρ 6), .int (I (sf)), .int (I (se))]))) := by rw [hw2]; first | done | exact tm_u2_s
  have hw1_ρ_1 := (show w1 (ρ 1) = _ by rw [hw2]; exact tm_u2_n (fun z => absurd (hm0.symm.trans (z ▸ hm1)) (by intro q; cases q))).trans hm1
  have hw1_ρ_2 := (show w1 (ρ 2) = _ by rw [hw2]; exact tm_u2_n (fun z => absurd (hm0.symm.trans (z ▸ hm2)) (by intro q; cases q))).trans hm2
  have hw1_ρ_3 := (show w1 (ρ 3) = _ by rw [hw2]; exact tm_u2_n (fun z => absurd (hm0.symm.trans (z ▸ hm3)) (by intro q; cases q))).trans hm3
  have hw1_ρ_4 := (show w1 (ρ 4) = _ by rw [hw2]; exact tm_u2_n (fun z => absurd (hm0.symm.trans (z ▸ hm4)) (by intro q; cases q))).trans hm4
  have hw1_ρ_5 := (show w1 (ρ 5) = _ by rw [hw2]; exact tm_u2_n (fun z => absurd (hm0.symm.trans (z ▸ hm5)) (by intro q; cases q))).trans hm5
  have hw1_ρ_6 := (show w1 (ρ 6) = _ by rw [hw2]; exact tm_u2_n (fun z => absurd (hm0.symm.trans (z ▸ hm6)) (by intro q; cases q))).trans hm6
  have hM_w1 : RM (tm_T x) w1 ρ 0 sf se σ := ⟨hw1_ρ_0, hw1_ρ_1, hw1_ρ_2, hw1_ρ_3, hw1_ρ_4, hw1_ρ_5, hw1_ρ_6, hmd⟩
  refine tm_aload_n 0 hC dX6_stretches_5 rfl rfl ?_
  refine tm_iload_n 1 hC dX6_stretches_6 rfl rfl ?_
  refine tm_callV (b := 0) (n := 0) (rest := []) hC (c_M_isBoard (tm_g x) hst w1 ρ 0 sf se σ hM_w1 hw b (by omega) ) k_X6_53 (by rw [hB.2.2.1]; exact ⟨Nat.le_of_ble_eq_true rfl, Nat.le_of_ble_eq_true rfl⟩) rfl (tm_rec2 hC hw1_ρ_0 rfl) rfl (by decide) dX6_stretches_7 (fun v_7 w_7 hp_7 => ?_)
  obtain ⟨rfl, rfl⟩ := hp_7
  show tm_V x (tm_H x w1) 0 0 10 [(0, .ref (ρ 0)), (1, .int (I (b))), (2, .int (I (g)))] [.int (I (bi (0 ≤ b ∧ b ≤ s_nb σ - 1)))]
  refine tm_ifb_ne 19 hC dX6_stretches_10 (by decide) (fun c_10 => ?_) (fun c_10 => ?_)
  · refine tm_iload_n 2 hC dX6_stretches_19 rfl rfl ?_
    refine tm_iconst hC dX6_stretches_20 ?_
    refine tm_iconst hC dX6_stretches_21 ?_
    refine tm_callS (b := 0) (n := 0) (rest := []) hC (c_M_isIn (tm_g x) hst _ w1 g 0 3 (by omega)) k_X6_42 (by rw [hB.2.2.1]; exact ⟨Nat.le_of_ble_eq_true rfl, Nat.le_of_ble_eq_true rfl⟩) rfl rfl (by decide) dX6_stretches_22 (fun v_22 w_22 hp_22 => ?_)
    obtain ⟨rfl, rfl⟩ := hp_22
    show tm_V x (tm_H x w1) 0 0 25 [(0, .ref (ρ 0)), (1, .int (I (b))), (2, .int (I (g)))] [.int (I (bi (0 ≤ g ∧ g ≤ 3)))]
    refine tm_ifb_eq 40 hC dX6_stretches_25 (by decide) (fun c_25 => ?_) (fun c_25 => ?_)
    · refine tm_aload_n 0 hC dX6_stretches_40 rfl rfl ?_
      refine tm_iconst hC dX6_stretches_41 ?_
      refine tm_callV (b := 0) (n := 0) (rest := []) hC (c_M_fail (tm_g x) hst w1 ρ 0 sf se σ hM_w1 hw 2) k_X6_49 (by rw [hB.2.2.1]; exact ⟨Nat.le_of_ble_eq_true rfl, Nat.le_of_ble_eq_true rfl⟩) rfl (tm_rec2 hC hw1_ρ_0 rfl) rfl (by decide) dX6_stretches_42 (fun v_42 w_42 hp_42 => ?_)
      obtain ⟨hf_42, rfl⟩ := hp_42
      obtain ⟨hm0_42, hm1_42, hm2_42, hm3_42, hm4_42, hm5_42, hm6_42, -⟩ := id hf_42
      show tm_V x (tm_H x w_42) 0 0 45 [(0, .ref (ρ 0)), (1, .int (I (b))), (2, .int (I (g)))] [.int (I (0))]
      exact tm_iret hC hR dX6_stretches_45 (⟨2, sf, se, 0, hf_42, rfl, Or.inr (Or.inl ⟨by omega, by omega, rfl⟩)⟩)
    · refine tm_aload_n 0 hC dX6_stretches_28 rfl rfl ?_
      refine tm_iload_n 1 hC dX6_stretches_29 rfl rfl ?_
      refine tm_iload_n 2 hC dX6_stretches_30 rfl rfl ?_
      refine tm_sipush hC dX6_stretches_31 rfl ?_
      refine tm_callV (b := 0) (n := 0) (rest := []) hC (c_M_goOver (tm_g x) hst w1 ρ 0 sf se σ hM_w1 hw b (by omega) g 3000 (by omega)) k_X6_103 (by rw [hB.2.2.1]; exact ⟨Nat.le_of_ble_eq_true rfl, Nat.le_of_ble_eq_true rfl⟩) rfl (tm_rec2 hC hw1_ρ_0 rfl) rfl (by decide) dX6_stretches_34 (fun v_34 w_34 hp_34 => ?_)
      obtain ⟨r_34, sf_34, se_34, hg_34, rfl, hgr_34, hgb_34, hgb2_34, hgs_34⟩ := hp_34
      obtain ⟨hm0_34, hm1_34, hm2_34, hm3_34, hm4_34, hm5_34, hm6_34, -⟩ := id hg_34
      show tm_V x (tm_H x w_34) 0 0 37 [(0, .ref (ρ 0)), (1, .int (I (b))), (2, .int (I (g)))] [.int (I (r_34))]
      refine tm_goto 45 hC dX6_stretches_37 (by decide) ?_
      exact tm_iret hC hR dX6_stretches_45 (⟨0, sf_34, se_34, r_34, hg_34, rfl, Or.inr (Or.inr ⟨by omega, by omega, rfl, GoR_len hgr_34 (by omega)⟩)⟩)
  · refine tm_aload_n 0 hC dX6_stretches_13 rfl rfl ?_
    refine tm_iconst hC dX6_stretches_14 ?_
    refine tm_callV (b := 0) (n := 0) (rest := []) hC (c_M_fail (tm_g x) hst w1 ρ 0 sf se σ hM_w1 hw 1) k_X6_49 (by rw [hB.2.2.1]; exact ⟨Nat.le_of_ble_eq_true rfl, Nat.le_of_ble_eq_true rfl⟩) rfl (tm_rec2 hC hw1_ρ_0 rfl) rfl (by decide) dX6_stretches_15 (fun v_15 w_15 hp_15 => ?_)
    obtain ⟨hf_15, rfl⟩ := hp_15
    obtain ⟨hm0_15, hm1_15, hm2_15, hm3_15, hm4_15, hm5_15, hm6_15, -⟩ := id hf_15
    show tm_V x (tm_H x w_15) 0 0 18 [(0, .ref (ρ 0)), (1, .int (I (b))), (2, .int (I (g)))] [.int (I (0))]
    exact tm_iret hC hR dX6_stretches_18 (⟨1, sf, se, 0, hf_15, rfl, Or.inl ⟨by omega, rfl⟩⟩)

set_option maxHeartbeats 4000000 in
set_option maxRecDepth 100000 in
theorem c_M_stretch (γ : tmG) (hst : γ.1.stackTraces = false) (Λ : tmL) (ρ : Nat → Nat) (th sf se : Int) (σ : ST) (hM : RM γ.2.2.1 Λ ρ th sf se σ) (hw : WF0 σ) (b g n e : Int) (hr : (-2147483648 ≤ b ∧ b ≤ 2147483647) ∧ (-2147483648 ≤ g ∧ g ≤ 2147483647) ∧ (-2147483648 ≤ n ∧ n ≤ 2147483647) ∧ (e = 0 ∨ e = 1)) : tm_Con γ (tm_h2 γ.2.1 γ.2.2.1 γ.2.2.2.1) M_X6_stretch 4 0 0 [.ref (ρ 0), .int (I (b)), .int (I (g)), .int (I (n)), .int (I (e))] Λ (fun v w' => ∃ k sf' se' r, RM γ.2.2.1 w' ρ k sf' se' σ ∧ v = some (.int (I r)) ∧ Sp_stretch σ b g n e k r) := by
  refine tm_con hst (by decide) (Nat.le_of_ble_eq_true rfl) (fun x hB hR => ?_)
  have hg := hB.1
  subst hg
  have hC : tm_C x cX6_stretch RX6 (some FieldType.int) := hB.2.2.2.1
  obtain ⟨hm0, hm1, hm2, hm3, hm4, hm5, hm6, hmd⟩ := id hM
  have hn := wf_n hw
  show tm_V x (tm_H x Λ) 0 0 0 [(0, .ref (ρ 0)), (1, .int (I (b))), (2, .int (I (g))), (3, .int (I (n))), (4, .int (I (e)))] []
  refine tm_aload_n 0 hC dX6_stretch_0 rfl rfl ?_
  refine tm_iconst hC dX6_stretch_1 ?_
  refine tm_putf2 hC f_X6_36 hm0 (tt_7_0 _) (Nat.le_of_ble_eq_true rfl) dX6_stretch_2 ?_
  obtain ⟨w1, hw2⟩ : ∃ z, z = tm_u2 Λ (ρ 0) (.inr (7, [.int (I (0)), .int (I (s_nb σ)), .ref (ρ 1), .int (I (s_nd σ)), .ref (ρ 2), .int (I (s_np σ)), .ref (ρ 3), .ref (ρ 4), .int (I (s_sw σ)), .int (I (s_jt σ)), .int (I (s_nm σ)), .ref (ρ 5), .ref (ρ 6), .int (I (sf)), .int (I (se))])) := ⟨_, rfl⟩
  show tm_V x (tm_H x (tm_u2 Λ (ρ 0) (.inr (7, [.int (I (0)), .int (I (s_nb σ)), .ref (ρ 1), .int (I (s_nd σ)), .ref (ρ 2), .int (I (s_np σ)), .ref (ρ 3), .ref (ρ 4), .int (I (s_sw σ)), .int (I (s_jt σ)), .int (I (s_nm σ)), .ref (ρ 5), .ref (ρ 6), .int (I (sf)), .int (I (se))])))) 0 0 5 [(0, .ref (ρ 0)), (1, .int (I (b))), (2, .int (I (g))), (3, .int (I (n))), (4, .int (I (e)))] []
  rw [← hw2]
  have hw1_ρ_0 : w1 (ρ 0) = some (.inl (.inr (7, [.int (I (0)), .int (I (s_nb σ)), .ref (ρ 1), .int (I (s_nd σ)), .ref (ρ 2), .int (I (s_np σ)), .ref (ρ 3), .ref (ρ 4), .int (I (s_sw σ)), .int (I (s_jt σ)), .int (I (s_nm σ)), .ref (ρ 5), .ref (ρ 6), .int (I (sf)), .int (I (se))]))) := by rw [hw2]; first | done | exact tm_u2_s
  have hw1_ρ_1 := (show w1 (ρ 1) = _ by rw [hw2]; exact tm_u2_n (fun z => absurd (hm0.symm.trans (z ▸ hm1)) (by intro q; cases q))).trans hm1
  have hw1_ρ_2 := (show w1 (ρ 2) = _ by rw [hw2]; exact tm_u2_n (fun z => absurd (hm0.symm.trans (z ▸ hm2)) (by intro q; cases q))).trans hm2
  have hw1_ρ_3 := (show w1 (ρ 3) = _ by rw [hw2]; exact tm_u2_n (fun z => absurd (hm0.symm.trans (z ▸ hm3)) (by intro q; cases q))).trans hm3
  have hw1_ρ_4 := (show w1 (ρ 4) = _ by rw [hw2]; exact tm_u2_n (fun z => absurd (hm0.symm.trans (z ▸ hm4)) (by intro q; cases q))).trans hm4
  have hw1_ρ_5 := (show w1 (ρ 5) = _ by rw [hw2]; exact tm_u2_n (fun z => absurd (hm0.symm.trans (z ▸ hm5)) (by intro q; cases q))).trans hm5
  have hw1_ρ_6 := (show w1 (ρ 6) = _ by rw [hw2]; exact tm_u2_n (fun z => absurd (hm0.symm.trans (z ▸ hm6)) (by intro q; cases q))).trans hm6
  have hM_w1 : RM (tm_T x) w1 ρ 0 sf se σ := ⟨hw1_ρ_0, hw1_ρ_1, hw1_ρ_2, hw1_ρ_3, hw1_ρ_4, hw1_ρ_5, hw1_ρ_6, hmd⟩
  refine tm_aload_n 0 hC dX6_stretch_5 rfl rfl ?_
  refine tm_iload_n 1 hC dX6_stretch_6 rfl rfl ?_
  refine tm_callV (b := 0) (n := 0) (rest := []) hC (c_M_isBoard (tm_g x) hst w1 ρ 0 sf se σ hM_w1 hw b (by omega) ) k_X6_53 (by rw [hB.2.2.1]; exact ⟨Nat.le_of_ble_eq_true rfl, Nat.le_of_ble_eq_true rfl⟩) rfl (tm_rec2 hC hw1_ρ_0 rfl) rfl (by decide) dX6_stretch_7 (fun v_7 w_7 hp_7 => ?_)
  obtain ⟨rfl, rfl⟩ := hp_7
  show tm_V x (tm_H x w1) 0 0 10 [(0, .ref (ρ 0)), (1, .int (I (b))), (2, .int (I (g))), (3, .int (I (n))), (4, .int (I (e)))] [.int (I (bi (0 ≤ b ∧ b ≤ s_nb σ - 1)))]
  refine tm_ifb_ne 19 hC dX6_stretch_10 (by decide) (fun c_10 => ?_) (fun c_10 => ?_)
  · refine tm_iload_n 2 hC dX6_stretch_19 rfl rfl ?_
    refine tm_iconst hC dX6_stretch_20 ?_
    refine tm_iconst hC dX6_stretch_21 ?_
    refine tm_callS (b := 0) (n := 0) (rest := []) hC (c_M_isIn (tm_g x) hst _ w1 g 0 3 (by omega)) k_X6_42 (by rw [hB.2.2.1]; exact ⟨Nat.le_of_ble_eq_true rfl, Nat.le_of_ble_eq_true rfl⟩) rfl rfl (by decide) dX6_stretch_22 (fun v_22 w_22 hp_22 => ?_)
    obtain ⟨rfl, rfl⟩ := hp_22
    show tm_V x (tm_H x w1) 0 0 25 [(0, .ref (ρ 0)), (1, .int (I (b))), (2, .int (I (g))), (3, .int (I (n))), (4, .int (I (e)))] [.int (I (bi (0 ≤ g ∧ g ≤ 3)))]
    refine tm_ifb_eq 43 hC dX6_stretch_25 (by decide) (fun c_25 => ?_) (fun c_25 => ?_)
    · refine tm_aload_n 0 hC dX6_stretch_43 rfl rfl ?_
      refine tm_iconst hC dX6_stretch_44 ?_
      refine tm_callV (b := 0) (n := 0) (rest := []) hC (c_M_fail (tm_g x) hst w1 ρ 0 sf se σ hM_w1 hw 2) k_X6_49 (by rw [hB.2.2.1]; exact ⟨Nat.le_of_ble_eq_true rfl, Nat.le_of_ble_eq_true rfl⟩) rfl (tm_rec2 hC hw1_ρ_0 rfl) rfl (by decide) dX6_stretch_45 (fun v_45 w_45 hp_45 => ?_)
      obtain ⟨hf_45, rfl⟩ := hp_45
      obtain ⟨hm0_45, hm1_45, hm2_45, hm3_45, hm4_45, hm5_45, hm6_45, -⟩ := id hf_45
      show tm_V x (tm_H x w_45) 0 0 48 [(0, .ref (ρ 0)), (1, .int (I (b))), (2, .int (I (g))), (3, .int (I (n))), (4, .int (I (e)))] [.int (I (0))]
      exact tm_iret hC hR dX6_stretch_48 (⟨2, sf, se, 0, hf_45, rfl, Or.inr (Or.inl ⟨by omega, rfl, by omega⟩)⟩)
    · refine tm_iload_n 3 hC dX6_stretch_28 rfl rfl ?_
      refine tm_if_lt 43 hC dX6_stretch_29 (by decide) (by omega) (fun c_29 => ?_) (fun c_29 => ?_)
      · refine tm_aload_n 0 hC dX6_stretch_43 rfl rfl ?_
        refine tm_iconst hC dX6_stretch_44 ?_
        refine tm_callV (b := 0) (n := 0) (rest := []) hC (c_M_fail (tm_g x) hst w1 ρ 0 sf se σ hM_w1 hw 2) k_X6_49 (by rw [hB.2.2.1]; exact ⟨Nat.le_of_ble_eq_true rfl, Nat.le_of_ble_eq_true rfl⟩) rfl (tm_rec2 hC hw1_ρ_0 rfl) rfl (by decide) dX6_stretch_45 (fun v_45 w_45 hp_45 => ?_)
        obtain ⟨hf_45, rfl⟩ := hp_45
        obtain ⟨hm0_45, hm1_45, hm2_45, hm3_45, hm4_45, hm5_45, hm6_45, -⟩ := id hf_45
        show tm_V x (tm_H x w_45) 0 0 48 [(0, .ref (ρ 0)), (1, .int (I (b))), (2, .int (I (g))), (3, .int (I (n))), (4, .int (I (e)))] [.int (I (0))]
        exact tm_iret hC hR dX6_stretch_48 (⟨2, sf, se, 0, hf_45, rfl, Or.inr (Or.inl ⟨by omega, rfl, by omega⟩)⟩)
      · refine tm_aload_n 0 hC dX6_stretch_32 rfl rfl ?_
        refine tm_iload_n 1 hC dX6_stretch_33 rfl rfl ?_
        refine tm_iload_n 2 hC dX6_stretch_34 rfl rfl ?_
        refine tm_iload_n 3 hC dX6_stretch_35 rfl rfl ?_
        refine tm_callV (b := 0) (n := 0) (rest := []) hC (c_M_goOver (tm_g x) hst w1 ρ 0 sf se σ hM_w1 hw b (by omega) g n (by omega)) k_X6_103 (by rw [hB.2.2.1]; exact ⟨Nat.le_of_ble_eq_true rfl, Nat.le_of_ble_eq_true rfl⟩) rfl (tm_rec2 hC hw1_ρ_0 rfl) rfl (by decide) dX6_stretch_36 (fun v_36 w_36 hp_36 => ?_)
        obtain ⟨r_36, sf_36, se_36, hg_36, rfl, hgr_36, hgb_36, hgb2_36, hgs_36⟩ := hp_36
        obtain ⟨hm0_36, hm1_36, hm2_36, hm3_36, hm4_36, hm5_36, hm6_36, -⟩ := id hg_36
        show tm_V x (tm_H x w_36) 0 0 39 [(0, .ref (ρ 0)), (1, .int (I (b))), (2, .int (I (g))), (3, .int (I (n))), (4, .int (I (e)))] [.int (I (r_36))]
        refine tm_iload_n 3 hC dX6_stretch_39 rfl rfl ?_
        refine tm_icmp_gt 49 hC dX6_stretch_40 (by decide) (by omega) (fun c_40 => ?_) (fun c_40 => ?_)
        · refine tm_iload 4 hC dX6_stretch_49 rfl ?_
          refine tm_if_eq 61 hC dX6_stretch_51 (by decide) (by omega) (fun c_51 => ?_) (fun c_51 => ?_)
          · refine tm_aload_n 0 hC dX6_stretch_61 rfl rfl ?_
            refine tm_getf2 hC f_X6_94 hm0_36 rfl dX6_stretch_62 ?_
            exact tm_iret hC hR dX6_stretch_65 (⟨0, sf_36, se_36, sf_36, hg_36, rfl, Or.inr (Or.inr ⟨by omega, by omega, by omega, rfl, (by obtain ⟨ss, h1, h2⟩ := GoR_at hgr_36 (by omega) (by omega); exact ⟨ss, _, _, h1, h2, (if_pos (by omega)).symm⟩)⟩)⟩)
          · refine tm_aload_n 0 hC dX6_stretch_54 rfl rfl ?_
            refine tm_getf2 hC f_X6_100 hm0_36 rfl dX6_stretch_55 ?_
            refine tm_goto 65 hC dX6_stretch_58 (by decide) ?_
            exact tm_iret hC hR dX6_stretch_65 (⟨0, sf_36, se_36, se_36, hg_36, rfl, Or.inr (Or.inr ⟨by omega, by omega, by omega, rfl, (by obtain ⟨ss, h1, h2⟩ := GoR_at hgr_36 (by omega) (by omega); exact ⟨ss, _, _, h1, h2, (if_neg (by omega)).symm⟩)⟩)⟩)
        · refine tm_aload_n 0 hC dX6_stretch_43 rfl rfl ?_
          refine tm_iconst hC dX6_stretch_44 ?_
          refine tm_callV (b := 0) (n := 0) (rest := []) hC (c_M_fail (tm_g x) hst w_36 ρ 0 sf_36 se_36 σ hg_36 hw 2) k_X6_49 (by rw [hB.2.2.1]; exact ⟨Nat.le_of_ble_eq_true rfl, Nat.le_of_ble_eq_true rfl⟩) rfl (tm_rec2 hC hm0_36 rfl) rfl (by decide) dX6_stretch_45 (fun v_45 w_45 hp_45 => ?_)
          obtain ⟨hf_45, rfl⟩ := hp_45
          obtain ⟨hm0_45, hm1_45, hm2_45, hm3_45, hm4_45, hm5_45, hm6_45, -⟩ := id hf_45
          show tm_V x (tm_H x w_45) 0 0 48 [(0, .ref (ρ 0)), (1, .int (I (b))), (2, .int (I (g))), (3, .int (I (n))), (4, .int (I (e)))] [.int (I (0))]
          exact tm_iret hC hR dX6_stretch_48 (⟨2, sf_36, se_36, 0, hf_45, rfl, Or.inr (Or.inl ⟨by omega, rfl, Or.inr (Or.inr ⟨by omega, GoR_no hgr_36 (by omega)⟩)⟩)⟩)
  · refine tm_aload_n 0 hC dX6_stretch_13 rfl rfl ?_
    refine tm_iconst hC dX6_stretch_14 ?_
    refine tm_callV (b := 0) (n := 0) (rest := []) hC (c_M_fail (tm_g x) hst w1 ρ 0 sf se σ hM_w1 hw 1) k_X6_49 (by rw [hB.2.2.1]; exact ⟨Nat.le_of_ble_eq_true rfl, Nat.le_of_ble_eq_true rfl⟩) rfl (tm_rec2 hC hw1_ρ_0 rfl) rfl (by decide) dX6_stretch_15 (fun v_15 w_15 hp_15 => ?_)
    obtain ⟨hf_15, rfl⟩ := hp_15
    obtain ⟨hm0_15, hm1_15, hm2_15, hm3_15, hm4_15, hm5_15, hm6_15, -⟩ := id hf_15
    show tm_V x (tm_H x w_15) 0 0 18 [(0, .ref (ρ 0)), (1, .int (I (b))), (2, .int (I (g))), (3, .int (I (n))), (4, .int (I (e)))] [.int (I (0))]
    exact tm_iret hC hR dX6_stretch_18 (⟨1, sf, se, 0, hf_15, rfl, Or.inl ⟨by omega, rfl⟩⟩)

set_option maxHeartbeats 4000000 in
set_option maxRecDepth 100000 in
theorem c_M_grade (γ : tmG) (hst : γ.1.stackTraces = false) (Λ : tmL) (ρ : Nat → Nat) (th sf se : Int) (σ : ST) (hM : RM γ.2.2.1 Λ ρ th sf se σ) (hw : WF0 σ) (b pl : Int) (hr : (-2147483648 ≤ b ∧ b ≤ 2147483647) ∧ (-2147483648 ≤ pl ∧ pl ≤ 2147483647)) : tm_Con γ (tm_h2 γ.2.1 γ.2.2.1 γ.2.2.2.1) M_X6_grade 4 0 0 [.ref (ρ 0), .int (I (b)), .int (I (pl))] Λ (fun v w' => ∃ k sf' se' r, RM γ.2.2.1 w' ρ k sf' se' σ ∧ v = some (.int (I r)) ∧ Sp_grade σ b pl k r) := by
  refine tm_con hst (by decide) (Nat.le_of_ble_eq_true rfl) (fun x hB hR => ?_)
  have hg := hB.1
  subst hg
  have hC : tm_C x cX6_grade RX6 (some FieldType.int) := hB.2.2.2.1
  obtain ⟨hm0, hm1, hm2, hm3, hm4, hm5, hm6, hmd⟩ := id hM
  have hn := wf_n hw
  show tm_V x (tm_H x Λ) 0 0 0 [(0, .ref (ρ 0)), (1, .int (I (b))), (2, .int (I (pl)))] []
  refine tm_aload_n 0 hC dX6_grade_0 rfl rfl ?_
  refine tm_iconst hC dX6_grade_1 ?_
  refine tm_putf2 hC f_X6_36 hm0 (tt_7_0 _) (Nat.le_of_ble_eq_true rfl) dX6_grade_2 ?_
  obtain ⟨w1, hw2⟩ : ∃ z, z = tm_u2 Λ (ρ 0) (.inr (7, [.int (I (0)), .int (I (s_nb σ)), .ref (ρ 1), .int (I (s_nd σ)), .ref (ρ 2), .int (I (s_np σ)), .ref (ρ 3), .ref (ρ 4), .int (I (s_sw σ)), .int (I (s_jt σ)), .int (I (s_nm σ)), .ref (ρ 5), .ref (ρ 6), .int (I (sf)), .int (I (se))])) := ⟨_, rfl⟩
  show tm_V x (tm_H x (tm_u2 Λ (ρ 0) (.inr (7, [.int (I (0)), .int (I (s_nb σ)), .ref (ρ 1), .int (I (s_nd σ)), .ref (ρ 2), .int (I (s_np σ)), .ref (ρ 3), .ref (ρ 4), .int (I (s_sw σ)), .int (I (s_jt σ)), .int (I (s_nm σ)), .ref (ρ 5), .ref (ρ 6), .int (I (sf)), .int (I (se))])))) 0 0 5 [(0, .ref (ρ 0)), (1, .int (I (b))), (2, .int (I (pl)))] []
  rw [← hw2]
  have hw1_ρ_0 : w1 (ρ 0) = some (.inl (.inr (7, [.int (I (0)), .int (I (s_nb σ)), .ref (ρ 1), .int (I (s_nd σ)), .ref (ρ 2), .int (I (s_np σ)), .ref (ρ 3), .ref (ρ 4), .int (I (s_sw σ)), .int (I (s_jt σ)), .int (I (s_nm σ)), .ref (ρ 5), .ref (ρ 6), .int (I (sf)), .int (I (se))]))) := by rw [hw2]; first | done | exact tm_u2_s
  have hw1_ρ_1 := (show w1 (ρ 1) = _ by rw [hw2]; exact tm_u2_n (fun z => absurd (hm0.symm.trans (z ▸ hm1)) (by intro q; cases q))).trans hm1
  have hw1_ρ_2 := (show w1 (ρ 2) = _ by rw [hw2]; exact tm_u2_n (fun z => absurd (hm0.symm.trans (z ▸ hm2)) (by intro q; cases q))).trans hm2
  have hw1_ρ_3 := (show w1 (ρ 3) = _ by rw [hw2]; exact tm_u2_n (fun z => absurd (hm0.symm.trans (z ▸ hm3)) (by intro q; cases q))).trans hm3
  have hw1_ρ_4 := (show w1 (ρ 4) = _ by rw [hw2]; exact tm_u2_n (fun z => absurd (hm0.symm.trans (z ▸ hm4)) (by intro q; cases q))).trans hm4
  have hw1_ρ_5 := (show w1 (ρ 5) = _ by rw [hw2]; exact tm_u2_n (fun z => absurd (hm0.symm.trans (z ▸ hm5)) (by intro q; cases q))).trans hm5
  have hw1_ρ_6 := (show w1 (ρ 6) = _ by rw [hw2]; exact tm_u2_n (fun z => absurd (hm0.symm.trans (z ▸ hm6)) (by intro q; cases q))).trans hm6
  have hM_w1 : RM (tm_T x) w1 ρ 0 sf se σ := ⟨hw1_ρ_0, hw1_ρ_1, hw1_ρ_2, hw1_ρ_3, hw1_ρ_4, hw1_ρ_5, hw1_ρ_6, hmd⟩
  refine tm_aload_n 0 hC dX6_grade_5 rfl rfl ?_
  refine tm_iload_n 1 hC dX6_grade_6 rfl rfl ?_
  refine tm_callV (b := 0) (n := 0) (rest := []) hC (c_M_isBoard (tm_g x) hst w1 ρ 0 sf se σ hM_w1 hw b (by omega) ) k_X6_53 (by rw [hB.2.2.1]; exact ⟨Nat.le_of_ble_eq_true rfl, Nat.le_of_ble_eq_true rfl⟩) rfl (tm_rec2 hC hw1_ρ_0 rfl) rfl (by decide) dX6_grade_7 (fun v_7 w_7 hp_7 => ?_)
  obtain ⟨rfl, rfl⟩ := hp_7
  show tm_V x (tm_H x w1) 0 0 10 [(0, .ref (ρ 0)), (1, .int (I (b))), (2, .int (I (pl)))] [.int (I (bi (0 ≤ b ∧ b ≤ s_nb σ - 1)))]
  refine tm_ifb_eq 37 hC dX6_grade_10 (by decide) (fun c_10 => ?_) (fun c_10 => ?_)
  · refine tm_aload_n 0 hC dX6_grade_37 rfl rfl ?_
    refine tm_iconst hC dX6_grade_38 ?_
    refine tm_callV (b := 0) (n := 0) (rest := []) hC (c_M_fail (tm_g x) hst w1 ρ 0 sf se σ hM_w1 hw 1) k_X6_49 (by rw [hB.2.2.1]; exact ⟨Nat.le_of_ble_eq_true rfl, Nat.le_of_ble_eq_true rfl⟩) rfl (tm_rec2 hC hw1_ρ_0 rfl) rfl (by decide) dX6_grade_39 (fun v_39 w_39 hp_39 => ?_)
    obtain ⟨hf_39, rfl⟩ := hp_39
    obtain ⟨hm0_39, hm1_39, hm2_39, hm3_39, hm4_39, hm5_39, hm6_39, -⟩ := id hf_39
    show tm_V x (tm_H x w_39) 0 0 42 [(0, .ref (ρ 0)), (1, .int (I (b))), (2, .int (I (pl)))] [.int (I (0))]
    exact tm_iret hC hR dX6_grade_42 (⟨1, sf, se, 0, hf_39, rfl, Or.inl ⟨by omega, rfl⟩⟩)
  · refine tm_iload_n 2 hC dX6_grade_13 rfl rfl ?_
    refine tm_iconst hC dX6_grade_14 ?_
    refine tm_aload_n 0 hC dX6_grade_15 rfl rfl ?_
    refine tm_iload_n 1 hC dX6_grade_16 rfl rfl ?_
    refine tm_callV (b := 0) (n := 0) (rest := [.int (I (0)), .int (I (pl))]) hC (c_M_length (tm_g x) hst w1 ρ 0 sf se σ hM_w1 hw b (by omega) ) k_X6_57 (by rw [hB.2.2.1]; exact ⟨Nat.le_of_ble_eq_true rfl, Nat.le_of_ble_eq_true rfl⟩) rfl (tm_rec2 hC hw1_ρ_0 rfl) rfl (by simp [Value.category]) dX6_grade_17 (fun v_17 w_17 hp_17 => ?_)
    obtain ⟨rfl, rfl, hb_17⟩ := hp_17
    show tm_V x (tm_H x w1) 0 0 20 [(0, .ref (ρ 0)), (1, .int (I (b))), (2, .int (I (pl)))] [.int (I (s_wo σ (3 * b))), .int (I (0)), .int (I (pl))]
    refine tm_iconst hC dX6_grade_20 ?_
    refine tm_isub hC dX6_grade_21 ?_
    refine tm_callS (b := 0) (n := 0) (rest := []) hC (c_M_isIn (tm_g x) hst _ w1 pl 0 ((s_wo σ (3 * b)) - 1) (by omega)) k_X6_42 (by rw [hB.2.2.1]; exact ⟨Nat.le_of_ble_eq_true rfl, Nat.le_of_ble_eq_true rfl⟩) rfl rfl (by decide) dX6_grade_22 (fun v_22 w_22 hp_22 => ?_)
    obtain ⟨rfl, rfl⟩ := hp_22
    show tm_V x (tm_H x w1) 0 0 25 [(0, .ref (ρ 0)), (1, .int (I (b))), (2, .int (I (pl)))] [.int (I (bi (0 ≤ pl ∧ pl ≤ ((s_wo σ (3 * b)) - 1))))]
    refine tm_ifb_eq 37 hC dX6_grade_25 (by decide) (fun c_25 => ?_) (fun c_25 => ?_)
    · refine tm_aload_n 0 hC dX6_grade_37 rfl rfl ?_
      refine tm_iconst hC dX6_grade_38 ?_
      refine tm_callV (b := 0) (n := 0) (rest := []) hC (c_M_fail (tm_g x) hst w1 ρ 0 sf se σ hM_w1 hw 1) k_X6_49 (by rw [hB.2.2.1]; exact ⟨Nat.le_of_ble_eq_true rfl, Nat.le_of_ble_eq_true rfl⟩) rfl (tm_rec2 hC hw1_ρ_0 rfl) rfl (by decide) dX6_grade_39 (fun v_39 w_39 hp_39 => ?_)
      obtain ⟨hf_39, rfl⟩ := hp_39
      obtain ⟨hm0_39, hm1_39, hm2_39, hm3_39, hm4_39, hm5_39, hm6_39, -⟩ := id hf_39
      show tm_V x (tm_H x w_39) 0 0 42 [(0, .ref (ρ 0)), (1, .int (I (b))), (2, .int (I (pl)))] [.int (I (0))]
      exact tm_iret hC hR dX6_grade_42 (⟨1, sf, se, 0, hf_39, rfl, Or.inl ⟨by omega, rfl⟩⟩)
    · refine tm_aload_n 0 hC dX6_grade_28 rfl rfl ?_
      refine tm_iload_n 1 hC dX6_grade_29 rfl rfl ?_
      refine tm_iload_n 2 hC dX6_grade_30 rfl rfl ?_
      refine tm_callV (b := 0) (n := 0) (rest := []) hC (c_M_gradeAt (tm_g x) hst w1 ρ 0 sf se σ hM_w1 hw b (by omega) pl (by omega)) k_X6_88 (by rw [hB.2.2.1]; exact ⟨Nat.le_of_ble_eq_true rfl, Nat.le_of_ble_eq_true rfl⟩) rfl (tm_rec2 hC hw1_ρ_0 rfl) rfl (by decide) dX6_grade_31 (fun v_31 w_31 hp_31 => ?_)
      obtain ⟨rfl, r_31, rfl, hr_31, hrb_31⟩ := hp_31
      show tm_V x (tm_H x w1) 0 0 34 [(0, .ref (ρ 0)), (1, .int (I (b))), (2, .int (I (pl)))] [.int (I (r_31))]
      refine tm_goto 42 hC dX6_grade_34 (by decide) ?_
      exact tm_iret hC hR dX6_grade_42 (⟨0, sf, se, r_31, hM_w1, rfl, Or.inr ⟨by omega, rfl, hr_31⟩⟩)
