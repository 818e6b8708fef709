theorem tm_u2_2 {Λ : tmL} {a : Nat} {e e' : va_E} : tm_u2 (tm_u2 Λ a e) a e' = tm_u2 Λ a e' := by
  funext z
  by_cases h : z = a
  · subst h; rw [tm_u2_s, tm_u2_s]
  · rw [tm_u2_n h, tm_u2_n h, tm_u2_n h]
theorem Srt_cg {σ τ : ST} (h1 : s_nm σ = s_nm τ) (h2 : s_cu σ = s_cu τ) {b : Int} : ∀ (ks : List Int) (pl : Int), Srt σ b ks pl → Srt τ b ks pl := by
  have h3 : ∀ pl r, isPF σ b pl (s_nm σ) r → isPF τ b pl (s_nm τ) r := by
    intro pl r h
    unfold isPF at h ⊢
    rw [← h1, ← h2]
    exact h
  intro ks
  induction ks with
  | nil => intro pl h; exact h3 _ _ h
  | cons k r ih => intro pl h; exact ⟨h.1, h3 _ _ h.2.1, by rw [← h2]; exact ih _ h.2.2⟩
/-- the list object's own numbers change -/
theorem RC_ob {T : ClassId × ClassId × ClassId × ClassId} {Λ : tmL} {κ : KP} {σ : ST} {sw jt : Int} (h : RC T Λ κ σ) : RC T (tm_u2 Λ (k_o κ) (.inr (6, [.ref (k_lb κ), .ref (k_lp κ), .ref (k_lo κ), .ref (k_lc κ), .ref (k_ar κ), .int (I (s_nd σ)), .int (I sw), .int (I jt)]))) κ (setJt (setSw σ sw) jt) := by
  have ne : ∀ (a : Nat) (e : va_E ⊕ List Nat), Λ a = some e → (∀ fs, e ≠ .inl (.inr (6, fs))) → ∀ e9, tm_u2 Λ (k_o κ) e9 a = some e := by
    intro a e ha hne e9
    rw [tm_u2_n (fun z => hne _ (by
      have h1 := rc_o h
      rw [← z, ha] at h1
      exact Option.some.inj h1))]
    exact ha
  obtain ⟨h1, ⟨h2, h3, h4, h5, h6⟩, h7, h8, h9, h10, h11, h12, h13⟩ := h
  refine ⟨tm_u2_s, ⟨ne _ _ h2 (fun fs q => by cases q) _, ne _ _ h3 (fun fs q => by cases q) _, ne _ _ h4 (fun fs q => by cases q) _, ne _ _ h5 (fun fs q => by cases q) _, ne _ _ h6 (fun fs q => ai_ne q.symm) _⟩, fun b hb => ⟨ne _ _ (h7 b hb).1 (fun fs q => by cases q) _, ne _ _ (h7 b hb).2.1 (fun fs q => by cases q) _, ne _ _ (h7 b hb).2.2.1 (fun fs q => by cases q) _, Srt_cg (σ := σ) (τ := setJt (setSw σ sw) jt) rfl rfl _ _ (h7 b hb).2.2.2.1, (h7 b hb).2.2.2.2⟩, fun p hp => ne _ _ (h8 p hp) (fun fs q => by cases q) _, fun d hd => ne _ _ (h9 d hd) (fun fs q => by cases q) _, fun k hk => ne _ _ (h10 k hk) (fun fs q => by cases q) _, ⟨h11.1, h11.2.1, fun i j c hi hc => ne _ _ (h11.2.2 i j c hi hc) (fun fs q => by cases q) _⟩, h12, h13⟩
theorem ca_nil {T : ClassId × ClassId × ClassId × ClassId} {Λ : tmL} {κ : KP} {σ : ST} (h : RC T Λ κ σ) (h1 : grp (s_aj σ) (s_cu σ) (k_cs κ) 0 (s_nm σ)) : (k_ca κ).length = 0 ↔ ¬ 0 < s_nm σ := by
  obtain ⟨-, h2, -⟩ := rc_cu h
  have := grp_le _ _ _ h1
  omega

set_option maxHeartbeats 4000000 in
set_option maxRecDepth 100000 in
theorem c_X1_init (γ : tmG) (hst : γ.1.stackTraces = false) (Λ : tmL) (a : Nat) (p f : Nat) (ha : Λ a = some (.inl (.inr (2, [.null, .null, .null])))) : tm_Con γ (tm_h2 γ.2.1 γ.2.2.1 γ.2.2.2.1) M_X1_init 2 0 0 [.ref (a), .ref (p), .ref (f), .null] Λ (fun v w' => tm_u2 Λ a (.inr (2, [.ref (p), .ref (f), .null])) = w' ∧ v = none) := by
  refine tm_con hst (by decide) (Nat.le_of_ble_eq_true rfl) (fun x hB hR => ?_)
  have hg := hB.1
  subst hg
  have hC : tm_C x cX1_init RX1 (none) := hB.2.2.2.1
  show tm_V x (tm_H x Λ) 0 0 0 [(0, .ref (a)), (1, .ref (p)), (2, .ref (f)), (3, .null)] []
  refine tm_aload_n 0 hC dX1_init_0 rfl rfl ?_
  refine tm_objInit hC x_X1_1 (by rw [hB.2.2.1]; exact ⟨Nat.le_of_ble_eq_true rfl, Nat.le_of_ble_eq_true rfl⟩) ((by decide)) dX1_init_1 ?_
  refine tm_aload_n 0 hC dX1_init_4 rfl rfl ?_
  refine tm_aload_n 1 hC dX1_init_5 rfl rfl ?_
  refine tm_putfF2 hC hB.2.2.2.2 f_X1_7 ha (tt_2_0 _) (Nat.le_of_ble_eq_true rfl) dX1_init_6 ⟨_, _, _, _, rfl, l_X1_7, rfl⟩ ?_
  obtain ⟨w1, hw2⟩ : ∃ z, z = tm_u2 Λ a (.inr (2, [.ref (p), .null, .null])) := ⟨_, rfl⟩
  show tm_V x (tm_H x (tm_u2 Λ a (.inr (2, [.ref (p), .null, .null])))) 0 0 9 [(0, .ref (a)), (1, .ref (p)), (2, .ref (f)), (3, .null)] []
  rw [← hw2]
  have hw1_a : w1 a = some (.inl (.inr (2, [.ref (p), .null, .null]))) := by rw [hw2]; first | done | exact tm_u2_s
  refine tm_aload_n 0 hC dX1_init_9 rfl rfl ?_
  refine tm_aload_n 2 hC dX1_init_10 rfl rfl ?_
  refine tm_putfF2 hC hB.2.2.2.2 f_X1_13 hw1_a (tt_2_1 _) (Nat.le_of_ble_eq_true rfl) dX1_init_11 ⟨_, _, _, _, rfl, l_X1_13, rfl⟩ ?_
  obtain ⟨w3, hw4⟩ : ∃ z, z = tm_u2 w1 a (.inr (2, [.ref (p), .ref (f), .null])) := ⟨_, rfl⟩
  show tm_V x (tm_H x (tm_u2 w1 a (.inr (2, [.ref (p), .ref (f), .null])))) 0 0 14 [(0, .ref (a)), (1, .ref (p)), (2, .ref (f)), (3, .null)] []
  rw [← hw4]
  have hw3_a : w3 a = some (.inl (.inr (2, [.ref (p), .ref (f), .null]))) := by rw [hw4]; first | done | exact tm_u2_s
  refine tm_aload_n 0 hC dX1_init_14 rfl rfl ?_
  refine tm_aload_nN 3 hC dX1_init_15 rfl rfl ?_
  refine tm_putfF2 hC hB.2.2.2.2 f_X1_17 hw3_a (tt_2_2_n) (Nat.le_of_ble_eq_true rfl) dX1_init_16 ⟨_, _, _, _, rfl, l_X1_17, rfl⟩ ?_
  obtain ⟨w5, hw6⟩ : ∃ z, z = tm_u2 w3 a (.inr (2, [.ref (p), .ref (f), .null])) := ⟨_, rfl⟩
  show tm_V x (tm_H x (tm_u2 w3 a (.inr (2, [.ref (p), .ref (f), .null])))) 0 0 19 [(0, .ref (a)), (1, .ref (p)), (2, .ref (f)), (3, .null)] []
  rw [← hw6]
  have hw5_a : w5 a = some (.inl (.inr (2, [.ref (p), .ref (f), .null]))) := by rw [hw6]; first | done | exact tm_u2_s
  exact tm_vret hC hR dX1_init_19 (⟨by rw [hw6, hw4, hw2, tm_u2_2, tm_u2_2], rfl⟩)

set_option maxHeartbeats 4000000 in
set_option maxRecDepth 100000 in
theorem c_X1_init2 (γ : tmG) (hst : γ.1.stackTraces = false) (Λ : tmL) (a : Nat) (p f g : Nat) (ha : Λ a = some (.inl (.inr (2, [.null, .null, .null])))) : tm_Con γ (tm_h2 γ.2.1 γ.2.2.1 γ.2.2.2.1) M_X1_init 2 0 0 [.ref (a), .ref (p), .ref (f), .ref (g)] Λ (fun v w' => tm_u2 Λ a (.inr (2, [.ref (p), .ref (f), .ref (g)])) = w' ∧ v = none) := by
  refine tm_con hst (by decide) (Nat.le_of_ble_eq_true rfl) (fun x hB hR => ?_)
  have hg := hB.1
  subst hg
  have hC : tm_C x cX1_init RX1 (none) := hB.2.2.2.1
  show tm_V x (tm_H x Λ) 0 0 0 [(0, .ref (a)), (1, .ref (p)), (2, .ref (f)), (3, .ref (g))] []
  refine tm_aload_n 0 hC dX1_init_0 rfl rfl ?_
  refine tm_objInit hC x_X1_1 (by rw [hB.2.2.1]; exact ⟨Nat.le_of_ble_eq_true rfl, Nat.le_of_ble_eq_true rfl⟩) ((by decide)) dX1_init_1 ?_
  refine tm_aload_n 0 hC dX1_init_4 rfl rfl ?_
  refine tm_aload_n 1 hC dX1_init_5 rfl rfl ?_
  refine tm_putfF2 hC hB.2.2.2.2 f_X1_7 ha (tt_2_0 _) (Nat.le_of_ble_eq_true rfl) dX1_init_6 ⟨_, _, _, _, rfl, l_X1_7, rfl⟩ ?_
  obtain ⟨w1, hw2⟩ : ∃ z, z = tm_u2 Λ a (.inr (2, [.ref (p), .null, .null])) := ⟨_, rfl⟩
  show tm_V x (tm_H x (tm_u2 Λ a (.inr (2, [.ref (p), .null, .null])))) 0 0 9 [(0, .ref (a)), (1, .ref (p)), (2, .ref (f)), (3, .ref (g))] []
  rw [← hw2]
  have hw1_a : w1 a = some (.inl (.inr (2, [.ref (p), .null, .null]))) := by rw [hw2]; first | done | exact tm_u2_s
  refine tm_aload_n 0 hC dX1_init_9 rfl rfl ?_
  refine tm_aload_n 2 hC dX1_init_10 rfl rfl ?_
  refine tm_putfF2 hC hB.2.2.2.2 f_X1_13 hw1_a (tt_2_1 _) (Nat.le_of_ble_eq_true rfl) dX1_init_11 ⟨_, _, _, _, rfl, l_X1_13, rfl⟩ ?_
  obtain ⟨w3, hw4⟩ : ∃ z, z = tm_u2 w1 a (.inr (2, [.ref (p), .ref (f), .null])) := ⟨_, rfl⟩
  show tm_V x (tm_H x (tm_u2 w1 a (.inr (2, [.ref (p), .ref (f), .null])))) 0 0 14 [(0, .ref (a)), (1, .ref (p)), (2, .ref (f)), (3, .ref (g))] []
  rw [← hw4]
  have hw3_a : w3 a = some (.inl (.inr (2, [.ref (p), .ref (f), .null]))) := by rw [hw4]; first | done | exact tm_u2_s
  refine tm_aload_n 0 hC dX1_init_14 rfl rfl ?_
  refine tm_aload_n 3 hC dX1_init_15 rfl rfl ?_
  refine tm_putfF2 hC hB.2.2.2.2 f_X1_17 hw3_a (tt_2_2 _) (Nat.le_of_ble_eq_true rfl) dX1_init_16 ⟨_, _, _, _, rfl, l_X1_17, rfl⟩ ?_
  obtain ⟨w5, hw6⟩ : ∃ z, z = tm_u2 w3 a (.inr (2, [.ref (p), .ref (f), .ref (g)])) := ⟨_, rfl⟩
  show tm_V x (tm_H x (tm_u2 w3 a (.inr (2, [.ref (p), .ref (f), .ref (g)])))) 0 0 19 [(0, .ref (a)), (1, .ref (p)), (2, .ref (f)), (3, .ref (g))] []
  rw [← hw6]
  have hw5_a : w5 a = some (.inl (.inr (2, [.ref (p), .ref (f), .ref (g)]))) := by rw [hw6]; first | done | exact tm_u2_s
  exact tm_vret hC hR dX1_init_19 (⟨by rw [hw6, hw4, hw2, tm_u2_2, tm_u2_2], rfl⟩)

set_option maxHeartbeats 4000000 in
set_option maxRecDepth 100000 in
theorem c_X2_init (γ : tmG) (hst : γ.1.stackTraces = false) (Λ : tmL) (a : Nat) (f t g : Int) (ha : Λ a = some (.inl (.inr (3, [.int (I (0)), .int (I (0)), .int (I (0))])))) : tm_Con γ (tm_h2 γ.2.1 γ.2.2.1 γ.2.2.2.1) M_X2_init 2 0 0 [.ref (a), .int (I (f)), .int (I (t)), .int (I (g))] Λ (fun v w' => tm_u2 Λ a (.inr (3, [.int (I (f)), .int (I (t)), .int (I (g))])) = w' ∧ v = none) := by
  refine tm_con hst (by decide) (Nat.le_of_ble_eq_true rfl) (fun x hB hR => ?_)
  have hg := hB.1
  subst hg
  have hC : tm_C x cX2_init RX2 (none) := hB.2.2.2.1
  show tm_V x (tm_H x Λ) 0 0 0 [(0, .ref (a)), (1, .int (I (f))), (2, .int (I (t))), (3, .int (I (g)))] []
  refine tm_aload_n 0 hC dX2_init_0 rfl rfl ?_
  refine tm_objInit hC x_X2_1 (by rw [hB.2.2.1]; exact ⟨Nat.le_of_ble_eq_true rfl, Nat.le_of_ble_eq_true rfl⟩) ((by decide)) dX2_init_1 ?_
  refine tm_aload_n 0 hC dX2_init_4 rfl rfl ?_
  refine tm_iload_n 1 hC dX2_init_5 rfl rfl ?_
  refine tm_putfF2 hC hB.2.2.2.2 f_X2_7 ha (tt_3_0 _) (Nat.le_of_ble_eq_true rfl) dX2_init_6 ⟨_, _, _, _, rfl, l_X2_7, rfl⟩ ?_
  obtain ⟨w1, hw2⟩ : ∃ z, z = tm_u2 Λ a (.inr (3, [.int (I (f)), .int (I (0)), .int (I (0))])) := ⟨_, rfl⟩
  show tm_V x (tm_H x (tm_u2 Λ a (.inr (3, [.int (I (f)), .int (I (0)), .int (I (0))])))) 0 0 9 [(0, .ref (a)), (1, .int (I (f))), (2, .int (I (t))), (3, .int (I (g)))] []
  rw [← hw2]
  have hw1_a : w1 a = some (.inl (.inr (3, [.int (I (f)), .int (I (0)), .int (I (0))]))) := by rw [hw2]; first | done | exact tm_u2_s
  refine tm_aload_n 0 hC dX2_init_9 rfl rfl ?_
  refine tm_iload_n 2 hC dX2_init_10 rfl rfl ?_
  refine tm_putfF2 hC hB.2.2.2.2 f_X2_13 hw1_a (tt_3_1 _) (Nat.le_of_ble_eq_true rfl) dX2_init_11 ⟨_, _, _, _, rfl, l_X2_13, rfl⟩ ?_
  obtain ⟨w3, hw4⟩ : ∃ z, z = tm_u2 w1 a (.inr (3, [.int (I (f)), .int (I (t)), .int (I (0))])) := ⟨_, rfl⟩
  show tm_V x (tm_H x (tm_u2 w1 a (.inr (3, [.int (I (f)), .int (I (t)), .int (I (0))])))) 0 0 14 [(0, .ref (a)), (1, .int (I (f))), (2, .int (I (t))), (3, .int (I (g)))] []
  rw [← hw4]
  have hw3_a : w3 a = some (.inl (.inr (3, [.int (I (f)), .int (I (t)), .int (I (0))]))) := by rw [hw4]; first | done | exact tm_u2_s
  refine tm_aload_n 0 hC dX2_init_14 rfl rfl ?_
  refine tm_iload_n 3 hC dX2_init_15 rfl rfl ?_
  refine tm_putfF2 hC hB.2.2.2.2 f_X2_16 hw3_a (tt_3_2 _) (Nat.le_of_ble_eq_true rfl) dX2_init_16 ⟨_, _, _, _, rfl, l_X2_16, rfl⟩ ?_
  obtain ⟨w5, hw6⟩ : ∃ z, z = tm_u2 w3 a (.inr (3, [.int (I (f)), .int (I (t)), .int (I (g))])) := ⟨_, rfl⟩
  show tm_V x (tm_H x (tm_u2 w3 a (.inr (3, [.int (I (f)), .int (I (t)), .int (I (g))])))) 0 0 19 [(0, .ref (a)), (1, .int (I (f))), (2, .int (I (t))), (3, .int (I (g)))] []
  rw [← hw6]
  have hw5_a : w5 a = some (.inl (.inr (3, [.int (I (f)), .int (I (t)), .int (I (g))]))) := by rw [hw6]; first | done | exact tm_u2_s
  exact tm_vret hC hR dX2_init_19 (⟨by rw [hw6, hw4, hw2, tm_u2_2, tm_u2_2], rfl⟩)

set_option maxHeartbeats 4000000 in
set_option maxRecDepth 100000 in
theorem c_X3_init (γ : tmG) (hst : γ.1.stackTraces = false) (Λ : tmL) (a : Nat) (n l w g c j : Int) (hj9 : j = 0 ∨ j = 1) (ha : Λ a = some (.inl (.inr (4, [.int (I (0)), .int (I (0)), .int (I (0)), .int (I (0)), .int (I (0)), .int (I (0))])))) : tm_Con γ (tm_h2 γ.2.1 γ.2.2.1 γ.2.2.2.1) M_X3_init 2 0 0 [.ref (a), .int (I (n)), .int (I (l)), .int (I (w)), .int (I (g)), .int (I (c)), .int (I (j))] Λ (fun v w' => tm_u2 Λ a (.inr (4, [.int (I (n)), .int (I (l)), .int (I (w)), .int (I (g)), .int (I (j)), .int (I (c))])) = w' ∧ v = none) := by
  refine tm_con hst (by decide) (Nat.le_of_ble_eq_true rfl) (fun x hB hR => ?_)
  have hg := hB.1
  subst hg
  have hC : tm_C x cX3_init RX3 (none) := hB.2.2.2.1
  show tm_V x (tm_H x Λ) 0 0 0 [(0, .ref (a)), (1, .int (I (n))), (2, .int (I (l))), (3, .int (I (w))), (4, .int (I (g))), (5, .int (I (c))), (6, .int (I (j)))] []
  refine tm_aload_n 0 hC dX3_init_0 rfl rfl ?_
  refine tm_objInit hC x_X3_1 (by rw [hB.2.2.1]; exact ⟨Nat.le_of_ble_eq_true rfl, Nat.le_of_ble_eq_true rfl⟩) ((by decide)) dX3_init_1 ?_
  refine tm_aload_n 0 hC dX3_init_4 rfl rfl ?_
  refine tm_iload_n 1 hC dX3_init_5 rfl rfl ?_
  refine tm_putfF2 hC hB.2.2.2.2 f_X3_7 ha (tt_4_0 _) (Nat.le_of_ble_eq_true rfl) dX3_init_6 ⟨_, _, _, _, rfl, l_X3_7, rfl⟩ ?_
  obtain ⟨w1, hw2⟩ : ∃ z, z = tm_u2 Λ a (.inr (4, [.int (I (n)), .int (I (0)), .int (I (0)), .int (I (0)), .int (I (0)), .int (I (0))])) := ⟨_, rfl⟩
  show tm_V x (tm_H x (tm_u2 Λ a (.inr (4, [.int (I (n)), .int (I (0)), .int (I (0)), .int (I (0)), .int (I (0)), .int (I (0))])))) 0 0 9 [(0, .ref (a)), (1, .int (I (n))), (2, .int (I (l))), (3, .int (I (w))), (4, .int (I (g))), (5, .int (I (c))), (6, .int (I (j)))] []
  rw [← hw2]
  have hw1_a : w1 a = some (.inl (.inr (4, [.int (I (n)), .int (I (0)), .int (I (0)), .int (I (0)), .int (I (0)), .int (I (0))]))) := by rw [hw2]; first | done | exact tm_u2_s
  refine tm_aload_n 0 hC dX3_init_9 rfl rfl ?_
  refine tm_iload_n 2 hC dX3_init_10 rfl rfl ?_
  refine tm_putfF2 hC hB.2.2.2.2 f_X3_13 hw1_a (tt_4_1 _) (Nat.le_of_ble_eq_true rfl) dX3_init_11 ⟨_, _, _, _, rfl, l_X3_13, rfl⟩ ?_
  obtain ⟨w3, hw4⟩ : ∃ z, z = tm_u2 w1 a (.inr (4, [.int (I (n)), .int (I (l)), .int (I (0)), .int (I (0)), .int (I (0)), .int (I (0))])) := ⟨_, rfl⟩
  show tm_V x (tm_H x (tm_u2 w1 a (.inr (4, [.int (I (n)), .int (I (l)), .int (I (0)), .int (I (0)), .int (I (0)), .int (I (0))])))) 0 0 14 [(0, .ref (a)), (1, .int (I (n))), (2, .int (I (l))), (3, .int (I (w))), (4, .int (I (g))), (5, .int (I (c))), (6, .int (I (j)))] []
  rw [← hw4]
  have hw3_a : w3 a = some (.inl (.inr (4, [.int (I (n)), .int (I (l)), .int (I (0)), .int (I (0)), .int (I (0)), .int (I (0))]))) := by rw [hw4]; first | done | exact tm_u2_s
  refine tm_aload_n 0 hC dX3_init_14 rfl rfl ?_
  refine tm_iload_n 3 hC dX3_init_15 rfl rfl ?_
  refine tm_putfF2 hC hB.2.2.2.2 f_X3_16 hw3_a (tt_4_2 _) (Nat.le_of_ble_eq_true rfl) dX3_init_16 ⟨_, _, _, _, rfl, l_X3_16, rfl⟩ ?_
  obtain ⟨w5, hw6⟩ : ∃ z, z = tm_u2 w3 a (.inr (4, [.int (I (n)), .int (I (l)), .int (I (w)), .int (I (0)), .int (I (0)), .int (I (0))])) := ⟨_, rfl⟩
  show tm_V x (tm_H x (tm_u2 w3 a (.inr (4, [.int (I (n)), .int (I (l)), .int (I (w)), .int (I (0)), .int (I (0)), .int (I (0))])))) 0 0 19 [(0, .ref (a)), (1, .int (I (n))), (2, .int (I (l))), (3, .int (I (w))), (4, .int (I (g))), (5, .int (I (c))), (6, .int (I (j)))] []
  rw [← hw6]
  have hw5_a : w5 a = some (.inl (.inr (4, [.int (I (n)), .int (I (l)), .int (I (w)), .int (I (0)), .int (I (0)), .int (I (0))]))) := by rw [hw6]; first | done | exact tm_u2_s
  refine tm_aload_n 0 hC dX3_init_19 rfl rfl ?_
  refine tm_iload 4 hC dX3_init_20 rfl ?_
  refine tm_putfF2 hC hB.2.2.2.2 f_X3_19 hw5_a (tt_4_3 _) (Nat.le_of_ble_eq_true rfl) dX3_init_22 ⟨_, _, _, _, rfl, l_X3_19, rfl⟩ ?_
  obtain ⟨w7, hw8⟩ : ∃ z, z = tm_u2 w5 a (.inr (4, [.int (I (n)), .int (I (l)), .int (I (w)), .int (I (g)), .int (I (0)), .int (I (0))])) := ⟨_, rfl⟩
  show tm_V x (tm_H x (tm_u2 w5 a (.inr (4, [.int (I (n)), .int (I (l)), .int (I (w)), .int (I (g)), .int (I (0)), .int (I (0))])))) 0 0 25 [(0, .ref (a)), (1, .int (I (n))), (2, .int (I (l))), (3, .int (I (w))), (4, .int (I (g))), (5, .int (I (c))), (6, .int (I (j)))] []
  rw [← hw8]
  have hw7_a : w7 a = some (.inl (.inr (4, [.int (I (n)), .int (I (l)), .int (I (w)), .int (I (g)), .int (I (0)), .int (I (0))]))) := by rw [hw8]; first | done | exact tm_u2_s
  refine tm_aload_n 0 hC dX3_init_25 rfl rfl ?_
  refine tm_iload 6 hC dX3_init_26 rfl ?_
  refine tm_putfF2 hC hB.2.2.2.2 f_X3_22 hw7_a (tt_4_4 _ (by assumption)) (Nat.le_of_ble_eq_true rfl) dX3_init_28 ⟨_, _, _, _, rfl, l_X3_22, rfl⟩ ?_
  obtain ⟨w9, hw10⟩ : ∃ z, z = tm_u2 w7 a (.inr (4, [.int (I (n)), .int (I (l)), .int (I (w)), .int (I (g)), .int (I (j)), .int (I (0))])) := ⟨_, rfl⟩
  show tm_V x (tm_H x (tm_u2 w7 a (.inr (4, [.int (I (n)), .int (I (l)), .int (I (w)), .int (I (g)), .int (I (j)), .int (I (0))])))) 0 0 31 [(0, .ref (a)), (1, .int (I (n))), (2, .int (I (l))), (3, .int (I (w))), (4, .int (I (g))), (5, .int (I (c))), (6, .int (I (j)))] []
  rw [← hw10]
  have hw9_a : w9 a = some (.inl (.inr (4, [.int (I (n)), .int (I (l)), .int (I (w)), .int (I (g)), .int (I (j)), .int (I (0))]))) := by rw [hw10]; first | done | exact tm_u2_s
  refine tm_aload_n 0 hC dX3_init_31 rfl rfl ?_
  refine tm_iload 5 hC dX3_init_32 rfl ?_
  refine tm_putf2 hC f_X3_26 hw9_a (tt_4_5 _) (Nat.le_of_ble_eq_true rfl) dX3_init_34 ?_
  obtain ⟨w11, hw12⟩ : ∃ z, z = tm_u2 w9 a (.inr (4, [.int (I (n)), .int (I (l)), .int (I (w)), .int (I (g)), .int (I (j)), .int (I (c))])) := ⟨_, rfl⟩
  show tm_V x (tm_H x (tm_u2 w9 a (.inr (4, [.int (I (n)), .int (I (l)), .int (I (w)), .int (I (g)), .int (I (j)), .int (I (c))])))) 0 0 37 [(0, .ref (a)), (1, .int (I (n))), (2, .int (I (l))), (3, .int (I (w))), (4, .int (I (g))), (5, .int (I (c))), (6, .int (I (j)))] []
  rw [← hw12]
  have hw11_a : w11 a = some (.inl (.inr (4, [.int (I (n)), .int (I (l)), .int (I (w)), .int (I (g)), .int (I (j)), .int (I (c))]))) := by rw [hw12]; first | done | exact tm_u2_s
  exact tm_vret hC hR dX3_init_37 (⟨by rw [hw12, hw10, hw8, hw6, hw4, hw2, tm_u2_2, tm_u2_2, tm_u2_2, tm_u2_2, tm_u2_2], rfl⟩)

set_option maxHeartbeats 4000000 in
set_option maxRecDepth 100000 in
theorem c_X4_init (γ : tmG) (hst : γ.1.stackTraces = false) (Λ : tmL) (a : Nat) (p b : Nat) (f t j : Int) (hj9 : j = 0 ∨ j = 1) (ha : Λ a = some (.inl (.inr (5, [.null, .null, .int (I (0)), .int (I (0)), .int (I (0))])))) : tm_Con γ (tm_h2 γ.2.1 γ.2.2.1 γ.2.2.2.1) M_X4_init 2 0 0 [.ref (a), .ref (p), .ref (b), .int (I (f)), .int (I (t)), .int (I (j))] Λ (fun v w' => tm_u2 Λ a (.inr (5, [.ref (p), .ref (b), .int (I (f)), .int (I (t)), .int (I (j))])) = w' ∧ v = none) := by
  refine tm_con hst (by decide) (Nat.le_of_ble_eq_true rfl) (fun x hB hR => ?_)
  have hg := hB.1
  subst hg
  have hC : tm_C x cX4_init RX4 (none) := hB.2.2.2.1
  show tm_V x (tm_H x Λ) 0 0 0 [(0, .ref (a)), (1, .ref (p)), (2, .ref (b)), (3, .int (I (f))), (4, .int (I (t))), (5, .int (I (j)))] []
  refine tm_aload_n 0 hC dX4_init_0 rfl rfl ?_
  refine tm_objInit hC x_X4_1 (by rw [hB.2.2.1]; exact ⟨Nat.le_of_ble_eq_true rfl, Nat.le_of_ble_eq_true rfl⟩) ((by decide)) dX4_init_1 ?_
  refine tm_aload_n 0 hC dX4_init_4 rfl rfl ?_
  refine tm_aload_n 1 hC dX4_init_5 rfl rfl ?_
  refine tm_putfF2 hC hB.2.2.2.2 f_X4_7 ha (tt_5_0 _) (Nat.le_of_ble_eq_true rfl) dX4_init_6 ⟨_, _, _, _, rfl, l_X4_7, rfl⟩ ?_
  obtain ⟨w1, hw2⟩ : ∃ z, z = tm_u2 Λ a (.inr (5, [.ref (p), .null, .int (I (0)), .int (I (0)), .int (I (0))])) := ⟨_, rfl⟩
  show tm_V x (tm_H x (tm_u2 Λ a (.inr (5, [.ref (p), .null, .int (I (0)), .int (I (0)), .int (I (0))])))) 0 0 9 [(0, .ref (a)), (1, .ref (p)), (2, .ref (b)), (3, .int (I (f))), (4, .int (I (t))), (5, .int (I (j)))] []
  rw [← hw2]
  have hw1_a : w1 a = some (.inl (.inr (5, [.ref (p), .null, .int (I (0)), .int (I (0)), .int (I (0))]))) := by rw [hw2]; first | done | exact tm_u2_s
  refine tm_aload_n 0 hC dX4_init_9 rfl rfl ?_
  refine tm_aload_n 2 hC dX4_init_10 rfl rfl ?_
  refine tm_putfF2 hC hB.2.2.2.2 f_X4_13 hw1_a (tt_5_1 _) (Nat.le_of_ble_eq_true rfl) dX4_init_11 ⟨_, _, _, _, rfl, l_X4_13, rfl⟩ ?_
  obtain ⟨w3, hw4⟩ : ∃ z, z = tm_u2 w1 a (.inr (5, [.ref (p), .ref (b), .int (I (0)), .int (I (0)), .int (I (0))])) := ⟨_, rfl⟩
  show tm_V x (tm_H x (tm_u2 w1 a (.inr (5, [.ref (p), .ref (b), .int (I (0)), .int (I (0)), .int (I (0))])))) 0 0 14 [(0, .ref (a)), (1, .ref (p)), (2, .ref (b)), (3, .int (I (f))), (4, .int (I (t))), (5, .int (I (j)))] []
  rw [← hw4]
  have hw3_a : w3 a = some (.inl (.inr (5, [.ref (p), .ref (b), .int (I (0)), .int (I (0)), .int (I (0))]))) := by rw [hw4]; first | done | exact tm_u2_s
  refine tm_aload_n 0 hC dX4_init_14 rfl rfl ?_
  refine tm_iload_n 3 hC dX4_init_15 rfl rfl ?_
  refine tm_putfF2 hC hB.2.2.2.2 f_X4_17 hw3_a (tt_5_2 _) (Nat.le_of_ble_eq_true rfl) dX4_init_16 ⟨_, _, _, _, rfl, l_X4_17, rfl⟩ ?_
  obtain ⟨w5, hw6⟩ : ∃ z, z = tm_u2 w3 a (.inr (5, [.ref (p), .ref (b), .int (I (f)), .int (I (0)), .int (I (0))])) := ⟨_, rfl⟩
  show tm_V x (tm_H x (tm_u2 w3 a (.inr (5, [.ref (p), .ref (b), .int (I (f)), .int (I (0)), .int (I (0))])))) 0 0 19 [(0, .ref (a)), (1, .ref (p)), (2, .ref (b)), (3, .int (I (f))), (4, .int (I (t))), (5, .int (I (j)))] []
  rw [← hw6]
  have hw5_a : w5 a = some (.inl (.inr (5, [.ref (p), .ref (b), .int (I (f)), .int (I (0)), .int (I (0))]))) := by rw [hw6]; first | done | exact tm_u2_s
  refine tm_aload_n 0 hC dX4_init_19 rfl rfl ?_
  refine tm_iload 4 hC dX4_init_20 rfl ?_
  refine tm_putfF2 hC hB.2.2.2.2 f_X4_21 hw5_a (tt_5_3 _) (Nat.le_of_ble_eq_true rfl) dX4_init_22 ⟨_, _, _, _, rfl, l_X4_21, rfl⟩ ?_
  obtain ⟨w7, hw8⟩ : ∃ z, z = tm_u2 w5 a (.inr (5, [.ref (p), .ref (b), .int (I (f)), .int (I (t)), .int (I (0))])) := ⟨_, rfl⟩
  show tm_V x (tm_H x (tm_u2 w5 a (.inr (5, [.ref (p), .ref (b), .int (I (f)), .int (I (t)), .int (I (0))])))) 0 0 25 [(0, .ref (a)), (1, .ref (p)), (2, .ref (b)), (3, .int (I (f))), (4, .int (I (t))), (5, .int (I (j)))] []
  rw [← hw8]
  have hw7_a : w7 a = some (.inl (.inr (5, [.ref (p), .ref (b), .int (I (f)), .int (I (t)), .int (I (0))]))) := by rw [hw8]; first | done | exact tm_u2_s
  refine tm_aload_n 0 hC dX4_init_25 rfl rfl ?_
  refine tm_iload 5 hC dX4_init_26 rfl ?_
  refine tm_putfF2 hC hB.2.2.2.2 f_X4_24 hw7_a (tt_5_4 _ (by assumption)) (Nat.le_of_ble_eq_true rfl) dX4_init_28 ⟨_, _, _, _, rfl, l_X4_24, rfl⟩ ?_
  obtain ⟨w9, hw10⟩ : ∃ z, z = tm_u2 w7 a (.inr (5, [.ref (p), .ref (b), .int (I (f)), .int (I (t)), .int (I (j))])) := ⟨_, rfl⟩
  show tm_V x (tm_H x (tm_u2 w7 a (.inr (5, [.ref (p), .ref (b), .int (I (f)), .int (I (t)), .int (I (j))])))) 0 0 31 [(0, .ref (a)), (1, .ref (p)), (2, .ref (b)), (3, .int (I (f))), (4, .int (I (t))), (5, .int (I (j)))] []
  rw [← hw10]
  have hw9_a : w9 a = some (.inl (.inr (5, [.ref (p), .ref (b), .int (I (f)), .int (I (t)), .int (I (j))]))) := by rw [hw10]; first | done | exact tm_u2_s
  exact tm_vret hC hR dX4_init_31 (⟨by rw [hw10, hw8, hw6, hw4, hw2, tm_u2_2, tm_u2_2, tm_u2_2, tm_u2_2], rfl⟩)

set_option maxHeartbeats 4000000 in
set_option maxRecDepth 100000 in
theorem c_T_setSaw (γ : tmG) (hst : γ.1.stackTraces = false) (Λ : tmL) (κ : KP) (σ : ST) (hM : RC γ.2.2.1 Λ κ σ) (hw : WF0 σ) (w : Int) (hr : (-2147483648 ≤ w ∧ w ≤ 2147483647)) (hG : grp (s_aj σ) (s_cu σ) (k_cs κ) 0 (s_nm σ)) : tm_ConX γ (tm_h2 γ.2.1 γ.2.2.1 γ.2.2.2.1) M_X5_setSaw 6 2 12 [.ref (k_o κ), .int (I (w))] Λ (fun v w' => ∃ r σ', RC γ.2.2.1 w' κ σ' ∧ v = some (.int (I r)) ∧ Sp_setSaw σ w 0 σ' r) (fun E w' => Λ = w' ∧ ((E = "java/lang/IllegalArgumentException" ∧ Sp_setSaw σ w 1 σ 0) ∨ (E = "java/lang/IllegalStateException" ∧ Sp_setSaw σ w 2 σ 0))) := by
  refine tm_conX hst (by decide) (Nat.le_of_ble_eq_true rfl) (fun x hB hR hnt => ?_)
  have hg := hB.1
  subst hg
  have hC : tm_C x cX5_setSaw RX5 (some FieldType.int) := hB.2.2.2.1
  have hn := wf_n hw
  have hca := ca_nil hM hG
  show tm_V x (tm_H x Λ) 2 12 0 [(0, .ref (k_o κ)), (1, .int (I (w)))] []
  refine tm_iload_n 1 hC dX5_setSaw_0 rfl rfl ?_
  refine tm_iconst hC dX5_setSaw_1 ?_
  refine tm_bipush hC dX5_setSaw_2 rfl ?_
  refine tm_callS (b := 2) (n := 12) (rest := []) hC (c_T_within (tm_g x) hst _ w 0 10 (by omega)) k_X5_39 (by rw [hB.2.2.1]; exact ⟨Nat.le_of_ble_eq_true rfl, Nat.le_of_ble_eq_true rfl⟩) rfl rfl (by decide) dX5_setSaw_4 (fun v_4 w_4 hp_4 => ?_)
  obtain ⟨rfl, rfl⟩ := hp_4
  show tm_V x (tm_H x Λ) 2 12 7 [(0, .ref (k_o κ)), (1, .int (I (w)))] [.int (I (bi (0 ≤ w ∧ w ≤ 10)))]
  refine tm_ifb_ne 20 hC dX5_setSaw_7 (by decide) (fun c_7 => ?_) (fun c_7 => ?_)
  · refine tm_aload_n 0 hC dX5_setSaw_20 rfl rfl ?_
    have hx1 := rc_o hM
    refine tm_getf2 hC f_X5_22 hx1 rfl dX5_setSaw_21 ?_
    refine tm_callV (b := 2) (n := 12) (rest := []) hC (c_LisE (tm_g x) hst _ _ _ (rc_lc hM)) k_X5_113 (by rw [hB.2.2.1]; exact ⟨Nat.le_of_ble_eq_true rfl, Nat.le_of_ble_eq_true rfl⟩) rfl (tm_recL hC (rc_lc hM)) rfl (by decide) dX5_setSaw_24 (fun v_24 w_24 hp_24 => ?_)
    obtain ⟨rfl, rfl⟩ := hp_24
    show tm_V x (tm_H x Λ) 2 12 27 [(0, .ref (k_o κ)), (1, .int (I (w)))] [.int (I (bi ((k_ca κ).length = 0)))]
    refine tm_ifb_ne 40 hC dX5_setSaw_27 (by decide) (fun c_27 => ?_) (fun c_27 => ?_)
    · refine tm_aload_n 0 hC dX5_setSaw_40 rfl rfl ?_
      refine tm_getf2 hC f_X5_33 hx1 rfl dX5_setSaw_41 ?_
      refine tm_istore_n [(2, .int (I (s_sw σ))), (0, .ref (k_o κ)), (1, .int (I (w)))] hC dX5_setSaw_44 rfl (by rw [hB.2.1]; exact Nat.le_of_ble_eq_true rfl) rfl ?_
      refine tm_aload_n 1 hC dX5_setSaw_45 rfl rfl ?_
      refine tm_iload_n 2 hC dX5_setSaw_46 rfl rfl ?_
      refine tm_putf2 hC f_X5_33 hx1 (tt_6_6 _) (Nat.le_of_ble_eq_true rfl) dX5_setSaw_47 ?_
      obtain ⟨w2, hw3⟩ : ∃ z, z = tm_u2 Λ (k_o κ) (.inr (6, [.ref (k_lb κ), .ref (k_lp κ), .ref (k_lo κ), .ref (k_lc κ), .ref (k_ar κ), .int (I (s_nd σ)), .int (I (w)), .int (I (s_jt σ))])) := ⟨_, rfl⟩
      show tm_V x (tm_H x (tm_u2 Λ (k_o κ) (.inr (6, [.ref (k_lb κ), .ref (k_lp κ), .ref (k_lo κ), .ref (k_lc κ), .ref (k_ar κ), .int (I (s_nd σ)), .int (I (w)), .int (I (s_jt σ))])))) 2 12 50 [(2, .int (I (s_sw σ))), (0, .ref (k_o κ)), (1, .int (I (w)))] []
      rw [← hw3]
      have hw2_k_o_κ : w2 (k_o κ) = some (.inl (.inr (6, [.ref (k_lb κ), .ref (k_lp κ), .ref (k_lo κ), .ref (k_lc κ), .ref (k_ar κ), .int (I (s_nd σ)), .int (I (w)), .int (I (s_jt σ))]))) := by rw [hw3]; first | done | exact tm_u2_s
      refine tm_iload_n 0 hC dX5_setSaw_50 rfl rfl ?_
      exact tm_iretX hC hR dX5_setSaw_51 (⟨_, _, by rw [hw3]; exact RC_ob (sw := w) (jt := s_jt σ) hM, rfl, Or.inr (Or.inr ⟨by omega, hca.mp c_27, rfl, rfl, rfl⟩)⟩)
    · refine tm_less (b' := 1 + 0) (n' := 6 + 0) ⟨by omega, by omega⟩ ?_
      exact tm_throw hC hR hnt tm_kp2 th_ise sr_117 (by rw [hB.2.2.1]; exact ⟨Nat.le_of_ble_eq_true rfl, Nat.le_of_ble_eq_true rfl⟩) (by decide) dX5_setSaw_30 dX5_setSaw_33 dX5_setSaw_34 dX5_setSaw_36 dX5_setSaw_39 (⟨rfl, Or.inr ⟨rfl, Or.inr (Or.inl ⟨by omega, by (by_cases h9 : 0 < s_nm σ); exact h9; exact absurd (hca.mpr h9) c_27, rfl, rfl⟩)⟩⟩)
  · refine tm_less (b' := 1 + 0) (n' := 6 + 0) ⟨by omega, by omega⟩ ?_
    exact tm_throw hC hR hnt tm_kp2 th_iae sr_111 (by rw [hB.2.2.1]; exact ⟨Nat.le_of_ble_eq_true rfl, Nat.le_of_ble_eq_true rfl⟩) (by decide) dX5_setSaw_10 dX5_setSaw_13 dX5_setSaw_14 dX5_setSaw_16 dX5_setSaw_19 (⟨rfl, Or.inl ⟨rfl, Or.inl ⟨c_7, rfl, rfl⟩⟩⟩)

set_option maxHeartbeats 4000000 in
set_option maxRecDepth 100000 in
theorem c_T_setJoint (γ : tmG) (hst : γ.1.stackTraces = false) (Λ : tmL) (κ : KP) (σ : ST) (hM : RC γ.2.2.1 Λ κ σ) (hw : WF0 σ) (w : Int) (hr : (-2147483648 ≤ w ∧ w ≤ 2147483647)) : tm_ConX γ (tm_h2 γ.2.1 γ.2.2.1 γ.2.2.2.1) M_X5_setJoint 6 1 6 [.ref (k_o κ), .int (I (w))] Λ (fun v w' => ∃ r σ', RC γ.2.2.1 w' κ σ' ∧ v = some (.int (I r)) ∧ Sp_setJoint σ w 0 σ' r) (fun E w' => Λ = w' ∧ ((E = "java/lang/IllegalArgumentException" ∧ Sp_setJoint σ w 1 σ 0))) := by
  refine tm_conX hst (by decide) (Nat.le_of_ble_eq_true rfl) (fun x hB hR hnt => ?_)
  have hg := hB.1
  subst hg
  have hC : tm_C x cX5_setJoint RX5 (some FieldType.int) := hB.2.2.2.1
  have hn := wf_n hw
  show tm_V x (tm_H x Λ) 1 6 0 [(0, .ref (k_o κ)), (1, .int (I (w)))] []
  refine tm_iload_n 1 hC dX5_setJoint_0 rfl rfl ?_
  refine tm_iconst hC dX5_setJoint_1 ?_
  refine tm_bipush hC dX5_setJoint_2 rfl ?_
  refine tm_callS (b := 1) (n := 6) (rest := []) hC (c_T_within (tm_g x) hst _ w 0 50 (by omega)) k_X5_39 (by rw [hB.2.2.1]; exact ⟨Nat.le_of_ble_eq_true rfl, Nat.le_of_ble_eq_true rfl⟩) rfl rfl (by decide) dX5_setJoint_4 (fun v_4 w_4 hp_4 => ?_)
  obtain ⟨rfl, rfl⟩ := hp_4
  show tm_V x (tm_H x Λ) 1 6 7 [(0, .ref (k_o κ)), (1, .int (I (w)))] [.int (I (bi (0 ≤ w ∧ w ≤ 50)))]
  refine tm_ifb_ne 20 hC dX5_setJoint_7 (by decide) (fun c_7 => ?_) (fun c_7 => ?_)
  · refine tm_aload_n 0 hC dX5_setJoint_20 rfl rfl ?_
    have hx1 := rc_o hM
    refine tm_getf2 hC f_X5_36 hx1 rfl dX5_setJoint_21 ?_
    refine tm_istore_n [(2, .int (I (s_jt σ))), (0, .ref (k_o κ)), (1, .int (I (w)))] hC dX5_setJoint_24 rfl (by rw [hB.2.1]; exact Nat.le_of_ble_eq_true rfl) rfl ?_
    refine tm_aload_n 1 hC dX5_setJoint_25 rfl rfl ?_
    refine tm_iload_n 2 hC dX5_setJoint_26 rfl rfl ?_
    refine tm_putf2 hC f_X5_36 hx1 (tt_6_7 _) (Nat.le_of_ble_eq_true rfl) dX5_setJoint_27 ?_
    obtain ⟨w2, hw3⟩ : ∃ z, z = tm_u2 Λ (k_o κ) (.inr (6, [.ref (k_lb κ), .ref (k_lp κ), .ref (k_lo κ), .ref (k_lc κ), .ref (k_ar κ), .int (I (s_nd σ)), .int (I (s_sw σ)), .int (I (w))])) := ⟨_, rfl⟩
    show tm_V x (tm_H x (tm_u2 Λ (k_o κ) (.inr (6, [.ref (k_lb κ), .ref (k_lp κ), .ref (k_lo κ), .ref (k_lc κ), .ref (k_ar κ), .int (I (s_nd σ)), .int (I (s_sw σ)), .int (I (w))])))) 1 6 30 [(2, .int (I (s_jt σ))), (0, .ref (k_o κ)), (1, .int (I (w)))] []
    rw [← hw3]
    have hw2_k_o_κ : w2 (k_o κ) = some (.inl (.inr (6, [.ref (k_lb κ), .ref (k_lp κ), .ref (k_lo κ), .ref (k_lc κ), .ref (k_ar κ), .int (I (s_nd σ)), .int (I (s_sw σ)), .int (I (w))]))) := by rw [hw3]; first | done | exact tm_u2_s
    refine tm_iload_n 0 hC dX5_setJoint_30 rfl rfl ?_
    exact tm_iretX hC hR dX5_setJoint_31 (⟨_, _, by rw [hw3]; exact RC_ob (sw := s_sw σ) (jt := w) hM, rfl, Or.inr ⟨by omega, rfl, rfl, rfl⟩⟩)
  · refine tm_less (b' := 1 + 0) (n' := 6 + 0) ⟨by omega, by omega⟩ ?_
    exact tm_throw hC hR hnt tm_kp2 th_iae sr_119 (by rw [hB.2.2.1]; exact ⟨Nat.le_of_ble_eq_true rfl, Nat.le_of_ble_eq_true rfl⟩) (by decide) dX5_setJoint_10 dX5_setJoint_13 dX5_setJoint_14 dX5_setJoint_16 dX5_setJoint_19 (⟨rfl, rfl, Or.inl ⟨by first | exact c_7 | omega, rfl, rfl⟩⟩)
