/-- the world grows: what was there is there, but for the object at a; ls: empty lists that are new -/
def Gqw (Λ0 : tmL) (a : Nat) (Λ : tmL) (ls : List Nat) : Prop := (∀ (b : Nat) (e : va_E ⊕ List Nat), Λ0 b = some e → b ≠ a → Λ b = some e) ∧ (∀ q, q ∈ ls → Λ0 q = none ∧ Λ q = some (.inr []) ∧ q ≠ a) ∧ ls.Nodup
theorem gqw_0 {Λ : tmL} {a : Nat} : Gqw Λ a Λ [] := ⟨fun b e h _ => h, fun q h => (by cases h), List.nodup_nil⟩
theorem gqw_put {Λ0 Λ : tmL} {a : Nat} {ls : List Nat} {e : va_E} (h : Gqw Λ0 a Λ ls) : Gqw Λ0 a (tm_u2 Λ a e) ls :=
  ⟨fun b e9 hb hn => by rw [tm_u2_n hn]; exact h.1 b e9 hb hn, fun q hq => ⟨(h.2.1 q hq).1, by rw [tm_u2_n (h.2.1 q hq).2.2]; exact (h.2.1 q hq).2.1, (h.2.1 q hq).2.2⟩, h.2.2⟩
theorem gqw_fr {Λ0 Λ : tmL} {a q : Nat} {ls : List Nat} {e0 : va_E ⊕ List Nat} (h : Gqw Λ0 a Λ ls) (ha : Λ a = some e0) (hq : Λ q = none) : Λ0 q = none ∧ q ≠ a ∧ q ∉ ls := by
  have h1 : q ≠ a := fun z => by rw [z, ha] at hq; cases hq
  refine ⟨?_, h1, fun z => by rw [(h.2.1 q z).2.1] at hq; cases hq⟩
  cases h2 : Λ0 q with
  | none => rfl
  | some e => rw [h.1 q e h2 h1] at hq; cases hq
theorem gqw_arr {Λ0 Λ : tmL} {a q : Nat} {ls : List Nat} {e0 : va_E ⊕ List Nat} {e : va_E} (h : Gqw Λ0 a Λ ls) (ha : Λ a = some e0) (hq : Λ q = none) : Gqw Λ0 a (tm_u2 Λ q e) ls := by
  obtain ⟨f1, f2, f3⟩ := gqw_fr h ha hq
  exact ⟨fun b e9 hb hn => by rw [tm_u2_n (fun z => by rw [z, f1] at hb; cases hb)]; exact h.1 b e9 hb hn, fun r hr => ⟨(h.2.1 r hr).1, by rw [tm_u2_n (fun z => f3 (by rw [← z]; exact hr))]; exact (h.2.1 r hr).2.1, (h.2.1 r hr).2.2⟩, h.2.2⟩
theorem gqw_list {Λ0 Λ : tmL} {a q : Nat} {ls : List Nat} {e0 : va_E ⊕ List Nat} {e : va_E} (h : Gqw Λ0 a Λ ls) (ha : Λ a = some e0) (hq : Λ q = none) : Gqw Λ0 a (tm_ul (tm_u2 Λ q e) q []) (q :: ls) := by
  obtain ⟨f1, f2, f3⟩ := gqw_fr h ha hq
  have hk := gqw_arr (e := e) h ha hq
  refine ⟨fun b e9 hb hn => ?_, fun r hr => ?_, List.nodup_cons.mpr ⟨f3, h.2.2⟩⟩
  · rw [tm_ul_n (fun z => by rw [z, f1] at hb; cases hb)]
    exact hk.1 b e9 hb hn
  · rcases List.mem_cons.mp hr with z | z
    · subst z; exact ⟨f1, tm_ul_s, f2⟩
    · rw [tm_ul_n (fun y => f3 (by rw [← y]; exact z))]
      exact hk.2.1 r z
theorem gqw_of {Λ Λ' : tmL} {q : Nat} {e : va_E} {ls : List Nat} (hq : Λ q = none) (h : Gqw (tm_u2 Λ q e) q Λ' ls) : (∀ (a : Nat) (e : va_E ⊕ List Nat), Λ a = some e → Λ' a = some e) ∧ ∀ u, u ∈ ls → Λ u = none ∧ Λ' u = some (.inr []) := by
  refine ⟨fun a e9 ha => ?_, fun u hu => ?_⟩
  · have hn : a ≠ q := fun z => by rw [z, hq] at ha; cases ha
    exact h.1 a e9 (by rw [tm_u2_n hn]; exact ha) hn
  · obtain ⟨h1, h2, h3⟩ := h.2.1 u hu
    rw [tm_u2_n h3] at h1
    exact ⟨h1, h2⟩

set_option maxHeartbeats 4000000 in
set_option maxRecDepth 100000 in
theorem c_X0_init (γ : tmG) (hst : γ.1.stackTraces = false) (Λ : tmL) (a : Nat) (ha : Λ a = some (.inl (.inr (1, [.int (I (0)), .int (I (0)), .int (I (0)), .null, .null])))) (l w g : Int) : tm_Con γ (tm_h2 γ.2.1 γ.2.2.1 γ.2.2.2.1) M_X0_init 4 2 6 [.ref (a), .int (I (l)), .int (I (w)), .int (I (g))] Λ (fun v w' => ∃ u z : Nat, w' a = some (.inl (.inr (1, [.int (I l), .int (I w), .int (I g), .ref u, .ref z]))) ∧ Gqw Λ a w' [z, u] ∧ v = none) := by
  refine tm_con hst (by decide) (Nat.le_of_ble_eq_true rfl) (fun x hB hR => ?_)
  have hg := hB.1
  subst hg
  have hC : tm_C x cX0_init RX0 (none) := hB.2.2.2.1
  show tm_V x (tm_H x Λ) 2 6 0 [(0, .ref (a)), (1, .int (I (l))), (2, .int (I (w))), (3, .int (I (g)))] []
  refine tm_aload_n 0 hC dX0_init_0 rfl rfl ?_
  refine tm_objInit hC x_X0_1 (by rw [hB.2.2.1]; exact ⟨Nat.le_of_ble_eq_true rfl, Nat.le_of_ble_eq_true rfl⟩) ((by decide)) dX0_init_1 ?_
  refine tm_aload_n 0 hC dX0_init_4 rfl rfl ?_
  refine tm_less (b' := 1 + 1) (n' := 3 + 3) ⟨by omega, by omega⟩ ?_
  refine tm_new2 hC n_X0_7 dX0_init_5 (fun q1 hq2 => ?_)
  obtain ⟨w3, hw4⟩ : ∃ z, z = tm_u2 Λ q1 (.inr (0, [.int (I (0)), .null, .int (I (0))])) := ⟨_, rfl⟩
  show tm_V x (tm_H x (tm_u2 Λ q1 (.inr (0, [.int (I (0)), .null, .int (I (0))])))) 1 3 8 [(0, .ref (a)), (1, .int (I (l))), (2, .int (I (w))), (3, .int (I (g)))] [.ref (q1), .ref (a)]
  rw [← hw4]
  have hw3_q1 : w3 q1 = some (.inl (.inr (0, [.int (I (0)), .null, .int (I (0))]))) := by rw [hw4]; first | done | exact tm_u2_s
  have hw3_a := (show w3 a = _ by rw [hw4]; exact tm_u2_n (fun z => by subst z; rw [ha] at hq2; cases hq2)).trans ha
  refine tm_dup hC dX0_init_8 rfl ?_
  refine tm_callI (b := 1) (n := 3) (rest := [.ref (q1), .ref (a)]) hC (c_Linit (tm_g x) hst _ q1 hw3_q1) k_X0_9 (by rw [hB.2.2.1]; exact ⟨Nat.le_of_ble_eq_true rfl, Nat.le_of_ble_eq_true rfl⟩) rfl rfl (by simp [Value.category]) dX0_init_9 (fun v_9 w_9 hp_9 => ?_)
  obtain ⟨hl_9, rfl⟩ := hp_9
  have h_9_a := (show w_9 a = _ by rw [← hl_9]; exact tm_ul_n (fun z => by rw [z, hw3_q1] at hw3_a; cases hw3_a)).trans hw3_a
  have hGr_9 : Gqw Λ a w_9 (q1 :: []) := by rw [← hl_9, hw4]; exact gqw_list gqw_0 ha hq2
  show tm_V x (tm_H x w_9) 1 3 12 [(0, .ref (a)), (1, .int (I (l))), (2, .int (I (w))), (3, .int (I (g)))] [.ref (q1), .ref (a)]
  refine tm_putfF2 hC hB.2.2.2.2 f_X0_10 h_9_a (tt_1_3 _) (Nat.le_of_ble_eq_true rfl) dX0_init_12 ⟨_, _, _, _, rfl, l_X0_10, rfl⟩ ?_
  obtain ⟨w5, hw6⟩ : ∃ z, z = tm_u2 w_9 a (.inr (1, [.int (I (0)), .int (I (0)), .int (I (0)), .ref (q1), .null])) := ⟨_, rfl⟩
  show tm_V x (tm_H x (tm_u2 w_9 a (.inr (1, [.int (I (0)), .int (I (0)), .int (I (0)), .ref (q1), .null])))) 1 3 15 [(0, .ref (a)), (1, .int (I (l))), (2, .int (I (w))), (3, .int (I (g)))] []
  rw [← hw6]
  have hw5_a : w5 a = some (.inl (.inr (1, [.int (I (0)), .int (I (0)), .int (I (0)), .ref (q1), .null]))) := by rw [hw6]; first | done | exact tm_u2_s
  have hGr_w5 : Gqw Λ a w5 (q1 :: []) := by rw [hw6]; exact gqw_put hGr_9
  refine tm_aload_n 0 hC dX0_init_15 rfl rfl ?_
  refine tm_less (b' := 1 + 0) (n' := 3 + 0) ⟨by omega, by omega⟩ ?_
  refine tm_new2 hC n_X0_7 dX0_init_16 (fun q7 hq8 => ?_)
  obtain ⟨w9, hw10⟩ : ∃ z, z = tm_u2 w5 q7 (.inr (0, [.int (I (0)), .null, .int (I (0))])) := ⟨_, rfl⟩
  show tm_V x (tm_H x (tm_u2 w5 q7 (.inr (0, [.int (I (0)), .null, .int (I (0))])))) 0 0 19 [(0, .ref (a)), (1, .int (I (l))), (2, .int (I (w))), (3, .int (I (g)))] [.ref (q7), .ref (a)]
  rw [← hw10]
  have hw9_q7 : w9 q7 = some (.inl (.inr (0, [.int (I (0)), .null, .int (I (0))]))) := by rw [hw10]; first | done | exact tm_u2_s
  have hw9_a := (show w9 a = _ by rw [hw10]; exact tm_u2_n (fun z => by subst z; rw [hw5_a] at hq8; cases hq8)).trans hw5_a
  refine tm_dup hC dX0_init_19 rfl ?_
  refine tm_callI (b := 0) (n := 0) (rest := [.ref (q7), .ref (a)]) hC (c_Linit (tm_g x) hst _ q7 hw9_q7) k_X0_9 (by rw [hB.2.2.1]; exact ⟨Nat.le_of_ble_eq_true rfl, Nat.le_of_ble_eq_true rfl⟩) rfl rfl (by simp [Value.category]) dX0_init_20 (fun v_20 w_20 hp_20 => ?_)
  obtain ⟨hl_20, rfl⟩ := hp_20
  have h_20_a := (show w_20 a = _ by rw [← hl_20]; exact tm_ul_n (fun z => by rw [z, hw9_q7] at hw9_a; cases hw9_a)).trans hw9_a
  have hGr_20 : Gqw Λ a w_20 (q7 :: (q1 :: [])) := by rw [← hl_20, hw10]; exact gqw_list hGr_w5 hw5_a hq8
  show tm_V x (tm_H x w_20) 0 0 23 [(0, .ref (a)), (1, .int (I (l))), (2, .int (I (w))), (3, .int (I (g)))] [.ref (q7), .ref (a)]
  refine tm_putfF2 hC hB.2.2.2.2 f_X0_16 h_20_a (tt_1_4 _) (Nat.le_of_ble_eq_true rfl) dX0_init_23 ⟨_, _, _, _, rfl, l_X0_16, rfl⟩ ?_
  obtain ⟨w11, hw12⟩ : ∃ z, z = tm_u2 w_20 a (.inr (1, [.int (I (0)), .int (I (0)), .int (I (0)), .ref (q1), .ref (q7)])) := ⟨_, rfl⟩
  show tm_V x (tm_H x (tm_u2 w_20 a (.inr (1, [.int (I (0)), .int (I (0)), .int (I (0)), .ref (q1), .ref (q7)])))) 0 0 26 [(0, .ref (a)), (1, .int (I (l))), (2, .int (I (w))), (3, .int (I (g)))] []
  rw [← hw12]
  have hw11_a : w11 a = some (.inl (.inr (1, [.int (I (0)), .int (I (0)), .int (I (0)), .ref (q1), .ref (q7)]))) := by rw [hw12]; first | done | exact tm_u2_s
  have hGr_w11 : Gqw Λ a w11 (q7 :: (q1 :: [])) := by rw [hw12]; exact gqw_put hGr_20
  refine tm_aload_n 0 hC dX0_init_26 rfl rfl ?_
  refine tm_iload_n 1 hC dX0_init_27 rfl rfl ?_
  refine tm_putfF2 hC hB.2.2.2.2 f_X0_19 hw11_a (tt_1_0 _) (Nat.le_of_ble_eq_true rfl) dX0_init_28 ⟨_, _, _, _, rfl, l_X0_19, rfl⟩ ?_
  obtain ⟨w13, hw14⟩ : ∃ z, z = tm_u2 w11 a (.inr (1, [.int (I (l)), .int (I (0)), .int (I (0)), .ref (q1), .ref (q7)])) := ⟨_, rfl⟩
  show tm_V x (tm_H x (tm_u2 w11 a (.inr (1, [.int (I (l)), .int (I (0)), .int (I (0)), .ref (q1), .ref (q7)])))) 0 0 31 [(0, .ref (a)), (1, .int (I (l))), (2, .int (I (w))), (3, .int (I (g)))] []
  rw [← hw14]
  have hw13_a : w13 a = some (.inl (.inr (1, [.int (I (l)), .int (I (0)), .int (I (0)), .ref (q1), .ref (q7)]))) := by rw [hw14]; first | done | exact tm_u2_s
  have hGr_w13 : Gqw Λ a w13 (q7 :: (q1 :: [])) := by rw [hw14]; exact gqw_put hGr_w11
  refine tm_aload_n 0 hC dX0_init_31 rfl rfl ?_
  refine tm_iload_n 2 hC dX0_init_32 rfl rfl ?_
  refine tm_putfF2 hC hB.2.2.2.2 f_X0_23 hw13_a (tt_1_1 _) (Nat.le_of_ble_eq_true rfl) dX0_init_33 ⟨_, _, _, _, rfl, l_X0_23, rfl⟩ ?_
  obtain ⟨w15, hw16⟩ : ∃ z, z = tm_u2 w13 a (.inr (1, [.int (I (l)), .int (I (w)), .int (I (0)), .ref (q1), .ref (q7)])) := ⟨_, rfl⟩
  show tm_V x (tm_H x (tm_u2 w13 a (.inr (1, [.int (I (l)), .int (I (w)), .int (I (0)), .ref (q1), .ref (q7)])))) 0 0 36 [(0, .ref (a)), (1, .int (I (l))), (2, .int (I (w))), (3, .int (I (g)))] []
  rw [← hw16]
  have hw15_a : w15 a = some (.inl (.inr (1, [.int (I (l)), .int (I (w)), .int (I (0)), .ref (q1), .ref (q7)]))) := by rw [hw16]; first | done | exact tm_u2_s
  have hGr_w15 : Gqw Λ a w15 (q7 :: (q1 :: [])) := by rw [hw16]; exact gqw_put hGr_w13
  refine tm_aload_n 0 hC dX0_init_36 rfl rfl ?_
  refine tm_iload_n 3 hC dX0_init_37 rfl rfl ?_
  refine tm_putfF2 hC hB.2.2.2.2 f_X0_26 hw15_a (tt_1_2 _) (Nat.le_of_ble_eq_true rfl) dX0_init_38 ⟨_, _, _, _, rfl, l_X0_26, rfl⟩ ?_
  obtain ⟨w17, hw18⟩ : ∃ z, z = tm_u2 w15 a (.inr (1, [.int (I (l)), .int (I (w)), .int (I (g)), .ref (q1), .ref (q7)])) := ⟨_, rfl⟩
  show tm_V x (tm_H x (tm_u2 w15 a (.inr (1, [.int (I (l)), .int (I (w)), .int (I (g)), .ref (q1), .ref (q7)])))) 0 0 41 [(0, .ref (a)), (1, .int (I (l))), (2, .int (I (w))), (3, .int (I (g)))] []
  rw [← hw18]
  have hw17_a : w17 a = some (.inl (.inr (1, [.int (I (l)), .int (I (w)), .int (I (g)), .ref (q1), .ref (q7)]))) := by rw [hw18]; first | done | exact tm_u2_s
  have hGr_w17 : Gqw Λ a w17 (q7 :: (q1 :: [])) := by rw [hw18]; exact gqw_put hGr_w15
  exact tm_vret hC hR dX0_init_41 (⟨_, _, hw17_a, hGr_w17, rfl⟩)

set_option maxHeartbeats 4000000 in
set_option maxRecDepth 100000 in
theorem c_X5_init (γ : tmG) (hst : γ.1.stackTraces = false) (Λ : tmL) (a : Nat) (ha : Λ a = some (.inl (.inr (6, [.null, .null, .null, .null, .null, .int (I (0)), .int (I (0)), .int (I (0))])))) : tm_Con γ (tm_h2 γ.2.1 γ.2.2.1 γ.2.2.2.1) M_X5_init 4 5 3023 [.ref (a)] Λ (fun v w' => ∃ κ : KP, RC γ.2.2.1 w' κ σ0 ∧ grp (s_aj σ0) (s_cu σ0) (k_cs κ) 0 (s_nm σ0) ∧ k_o κ = a ∧ v = none) := by
  refine tm_con hst (by decide) (Nat.le_of_ble_eq_true rfl) (fun x hB hR => ?_)
  have hg := hB.1
  subst hg
  have hC : tm_C x cX5_init RX5 (none) := hB.2.2.2.1
  show tm_V x (tm_H x Λ) 5 3023 0 [(0, .ref (a))] []
  refine tm_aload_n 0 hC dX5_init_0 rfl rfl ?_
  refine tm_objInit hC x_X5_1 (by rw [hB.2.2.1]; exact ⟨Nat.le_of_ble_eq_true rfl, Nat.le_of_ble_eq_true rfl⟩) ((by decide)) dX5_init_1 ?_
  refine tm_aload_n 0 hC dX5_init_4 rfl rfl ?_
  refine tm_less (b' := 1 + 4) (n' := 3 + 3020) ⟨by omega, by omega⟩ ?_
  refine tm_new2 hC n_X5_7 dX5_init_5 (fun q1 hq2 => ?_)
  obtain ⟨w3, hw4⟩ : ∃ z, z = tm_u2 Λ q1 (.inr (0, [.int (I (0)), .null, .int (I (0))])) := ⟨_, rfl⟩
  show tm_V x (tm_H x (tm_u2 Λ q1 (.inr (0, [.int (I (0)), .null, .int (I (0))])))) 4 3020 8 [(0, .ref (a))] [.ref (q1), .ref (a)]
  rw [← hw4]
  have hw3_q1 : w3 q1 = some (.inl (.inr (0, [.int (I (0)), .null, .int (I (0))]))) := by rw [hw4]; first | done | exact tm_u2_s
  have hw3_a := (show w3 a = _ by rw [hw4]; exact tm_u2_n (fun z => by subst z; rw [ha] at hq2; cases hq2)).trans ha
  refine tm_dup hC dX5_init_8 rfl ?_
  refine tm_callI (b := 4) (n := 3020) (rest := [.ref (q1), .ref (a)]) hC (c_Linit (tm_g x) hst _ q1 hw3_q1) k_X5_9 (by rw [hB.2.2.1]; exact ⟨Nat.le_of_ble_eq_true rfl, Nat.le_of_ble_eq_true rfl⟩) rfl rfl (by simp [Value.category]) dX5_init_9 (fun v_9 w_9 hp_9 => ?_)
  obtain ⟨hl_9, rfl⟩ := hp_9
  have h_9_a := (show w_9 a = _ by rw [← hl_9]; exact tm_ul_n (fun z => by rw [z, hw3_q1] at hw3_a; cases hw3_a)).trans hw3_a
  have hGr_9 : Gqw Λ a w_9 (q1 :: []) := by rw [← hl_9, hw4]; exact gqw_list gqw_0 ha hq2
  show tm_V x (tm_H x w_9) 4 3020 12 [(0, .ref (a))] [.ref (q1), .ref (a)]
  refine tm_putfF2 hC hB.2.2.2.2 f_X5_10 h_9_a (tt_6_0 _) (Nat.le_of_ble_eq_true rfl) dX5_init_12 ⟨_, _, _, _, rfl, l_X5_10, rfl⟩ ?_
  obtain ⟨w5, hw6⟩ : ∃ z, z = tm_u2 w_9 a (.inr (6, [.ref (q1), .null, .null, .null, .null, .int (I (0)), .int (I (0)), .int (I (0))])) := ⟨_, rfl⟩
  show tm_V x (tm_H x (tm_u2 w_9 a (.inr (6, [.ref (q1), .null, .null, .null, .null, .int (I (0)), .int (I (0)), .int (I (0))])))) 4 3020 15 [(0, .ref (a))] []
  rw [← hw6]
  have hw5_a : w5 a = some (.inl (.inr (6, [.ref (q1), .null, .null, .null, .null, .int (I (0)), .int (I (0)), .int (I (0))]))) := by rw [hw6]; first | done | exact tm_u2_s
  have hGr_w5 : Gqw Λ a w5 (q1 :: []) := by rw [hw6]; exact gqw_put hGr_9
  refine tm_aload_n 0 hC dX5_init_15 rfl rfl ?_
  refine tm_less (b' := 1 + 3) (n' := 3 + 3017) ⟨by omega, by omega⟩ ?_
  refine tm_new2 hC n_X5_7 dX5_init_16 (fun q7 hq8 => ?_)
  obtain ⟨w9, hw10⟩ : ∃ z, z = tm_u2 w5 q7 (.inr (0, [.int (I (0)), .null, .int (I (0))])) := ⟨_, rfl⟩
  show tm_V x (tm_H x (tm_u2 w5 q7 (.inr (0, [.int (I (0)), .null, .int (I (0))])))) 3 3017 19 [(0, .ref (a))] [.ref (q7), .ref (a)]
  rw [← hw10]
  have hw9_q7 : w9 q7 = some (.inl (.inr (0, [.int (I (0)), .null, .int (I (0))]))) := by rw [hw10]; first | done | exact tm_u2_s
  have hw9_a := (show w9 a = _ by rw [hw10]; exact tm_u2_n (fun z => by subst z; rw [hw5_a] at hq8; cases hq8)).trans hw5_a
  refine tm_dup hC dX5_init_19 rfl ?_
  refine tm_callI (b := 3) (n := 3017) (rest := [.ref (q7), .ref (a)]) hC (c_Linit (tm_g x) hst _ q7 hw9_q7) k_X5_9 (by rw [hB.2.2.1]; exact ⟨Nat.le_of_ble_eq_true rfl, Nat.le_of_ble_eq_true rfl⟩) rfl rfl (by simp [Value.category]) dX5_init_20 (fun v_20 w_20 hp_20 => ?_)
  obtain ⟨hl_20, rfl⟩ := hp_20
  have h_20_a := (show w_20 a = _ by rw [← hl_20]; exact tm_ul_n (fun z => by rw [z, hw9_q7] at hw9_a; cases hw9_a)).trans hw9_a
  have hGr_20 : Gqw Λ a w_20 (q7 :: (q1 :: [])) := by rw [← hl_20, hw10]; exact gqw_list hGr_w5 hw5_a hq8
  show tm_V x (tm_H x w_20) 3 3017 23 [(0, .ref (a))] [.ref (q7), .ref (a)]
  refine tm_putfF2 hC hB.2.2.2.2 f_X5_16 h_20_a (tt_6_1 _) (Nat.le_of_ble_eq_true rfl) dX5_init_23 ⟨_, _, _, _, rfl, l_X5_16, rfl⟩ ?_
  obtain ⟨w11, hw12⟩ : ∃ z, z = tm_u2 w_20 a (.inr (6, [.ref (q1), .ref (q7), .null, .null, .null, .int (I (0)), .int (I (0)), .int (I (0))])) := ⟨_, rfl⟩
  show tm_V x (tm_H x (tm_u2 w_20 a (.inr (6, [.ref (q1), .ref (q7), .null, .null, .null, .int (I (0)), .int (I (0)), .int (I (0))])))) 3 3017 26 [(0, .ref (a))] []
  rw [← hw12]
  have hw11_a : w11 a = some (.inl (.inr (6, [.ref (q1), .ref (q7), .null, .null, .null, .int (I (0)), .int (I (0)), .int (I (0))]))) := by rw [hw12]; first | done | exact tm_u2_s
  have hGr_w11 : Gqw Λ a w11 (q7 :: (q1 :: [])) := by rw [hw12]; exact gqw_put hGr_20
  refine tm_aload_n 0 hC dX5_init_26 rfl rfl ?_
  refine tm_less (b' := 1 + 2) (n' := 3 + 3014) ⟨by omega, by omega⟩ ?_
  refine tm_new2 hC n_X5_7 dX5_init_27 (fun q13 hq14 => ?_)
  obtain ⟨w15, hw16⟩ : ∃ z, z = tm_u2 w11 q13 (.inr (0, [.int (I (0)), .null, .int (I (0))])) := ⟨_, rfl⟩
  show tm_V x (tm_H x (tm_u2 w11 q13 (.inr (0, [.int (I (0)), .null, .int (I (0))])))) 2 3014 30 [(0, .ref (a))] [.ref (q13), .ref (a)]
  rw [← hw16]
  have hw15_q13 : w15 q13 = some (.inl (.inr (0, [.int (I (0)), .null, .int (I (0))]))) := by rw [hw16]; first | done | exact tm_u2_s
  have hw15_a := (show w15 a = _ by rw [hw16]; exact tm_u2_n (fun z => by subst z; rw [hw11_a] at hq14; cases hq14)).trans hw11_a
  refine tm_dup hC dX5_init_30 rfl ?_
  refine tm_callI (b := 2) (n := 3014) (rest := [.ref (q13), .ref (a)]) hC (c_Linit (tm_g x) hst _ q13 hw15_q13) k_X5_9 (by rw [hB.2.2.1]; exact ⟨Nat.le_of_ble_eq_true rfl, Nat.le_of_ble_eq_true rfl⟩) rfl rfl (by simp [Value.category]) dX5_init_31 (fun v_31 w_31 hp_31 => ?_)
  obtain ⟨hl_31, rfl⟩ := hp_31
  have h_31_a := (show w_31 a = _ by rw [← hl_31]; exact tm_ul_n (fun z => by rw [z, hw15_q13] at hw15_a; cases hw15_a)).trans hw15_a
  have hGr_31 : Gqw Λ a w_31 (q13 :: (q7 :: (q1 :: []))) := by rw [← hl_31, hw16]; exact gqw_list hGr_w11 hw11_a hq14
  show tm_V x (tm_H x w_31) 2 3014 34 [(0, .ref (a))] [.ref (q13), .ref (a)]
  refine tm_putfF2 hC hB.2.2.2.2 f_X5_19 h_31_a (tt_6_2 _) (Nat.le_of_ble_eq_true rfl) dX5_init_34 ⟨_, _, _, _, rfl, l_X5_19, rfl⟩ ?_
  obtain ⟨w17, hw18⟩ : ∃ z, z = tm_u2 w_31 a (.inr (6, [.ref (q1), .ref (q7), .ref (q13), .null, .null, .int (I (0)), .int (I (0)), .int (I (0))])) := ⟨_, rfl⟩
  show tm_V x (tm_H x (tm_u2 w_31 a (.inr (6, [.ref (q1), .ref (q7), .ref (q13), .null, .null, .int (I (0)), .int (I (0)), .int (I (0))])))) 2 3014 37 [(0, .ref (a))] []
  rw [← hw18]
  have hw17_a : w17 a = some (.inl (.inr (6, [.ref (q1), .ref (q7), .ref (q13), .null, .null, .int (I (0)), .int (I (0)), .int (I (0))]))) := by rw [hw18]; first | done | exact tm_u2_s
  have hGr_w17 : Gqw Λ a w17 (q13 :: (q7 :: (q1 :: []))) := by rw [hw18]; exact gqw_put hGr_31
  refine tm_aload_n 0 hC dX5_init_37 rfl rfl ?_
  refine tm_less (b' := 1 + 1) (n' := 3 + 3011) ⟨by omega, by omega⟩ ?_
  refine tm_new2 hC n_X5_7 dX5_init_38 (fun q19 hq20 => ?_)
  obtain ⟨w21, hw22⟩ : ∃ z, z = tm_u2 w17 q19 (.inr (0, [.int (I (0)), .null, .int (I (0))])) := ⟨_, rfl⟩
  show tm_V x (tm_H x (tm_u2 w17 q19 (.inr (0, [.int (I (0)), .null, .int (I (0))])))) 1 3011 41 [(0, .ref (a))] [.ref (q19), .ref (a)]
  rw [← hw22]
  have hw21_q19 : w21 q19 = some (.inl (.inr (0, [.int (I (0)), .null, .int (I (0))]))) := by rw [hw22]; first | done | exact tm_u2_s
  have hw21_a := (show w21 a = _ by rw [hw22]; exact tm_u2_n (fun z => by subst z; rw [hw17_a] at hq20; cases hq20)).trans hw17_a
  refine tm_dup hC dX5_init_41 rfl ?_
  refine tm_callI (b := 1) (n := 3011) (rest := [.ref (q19), .ref (a)]) hC (c_Linit (tm_g x) hst _ q19 hw21_q19) k_X5_9 (by rw [hB.2.2.1]; exact ⟨Nat.le_of_ble_eq_true rfl, Nat.le_of_ble_eq_true rfl⟩) rfl rfl (by simp [Value.category]) dX5_init_42 (fun v_42 w_42 hp_42 => ?_)
  obtain ⟨hl_42, rfl⟩ := hp_42
  have h_42_a := (show w_42 a = _ by rw [← hl_42]; exact tm_ul_n (fun z => by rw [z, hw21_q19] at hw21_a; cases hw21_a)).trans hw21_a
  have hGr_42 : Gqw Λ a w_42 (q19 :: (q13 :: (q7 :: (q1 :: [])))) := by rw [← hl_42, hw22]; exact gqw_list hGr_w17 hw17_a hq20
  show tm_V x (tm_H x w_42) 1 3011 45 [(0, .ref (a))] [.ref (q19), .ref (a)]
  refine tm_putfF2 hC hB.2.2.2.2 f_X5_22 h_42_a (tt_6_3 _) (Nat.le_of_ble_eq_true rfl) dX5_init_45 ⟨_, _, _, _, rfl, l_X5_22, rfl⟩ ?_
  obtain ⟨w23, hw24⟩ : ∃ z, z = tm_u2 w_42 a (.inr (6, [.ref (q1), .ref (q7), .ref (q13), .ref (q19), .null, .int (I (0)), .int (I (0)), .int (I (0))])) := ⟨_, rfl⟩
  show tm_V x (tm_H x (tm_u2 w_42 a (.inr (6, [.ref (q1), .ref (q7), .ref (q13), .ref (q19), .null, .int (I (0)), .int (I (0)), .int (I (0))])))) 1 3011 48 [(0, .ref (a))] []
  rw [← hw24]
  have hw23_a : w23 a = some (.inl (.inr (6, [.ref (q1), .ref (q7), .ref (q13), .ref (q19), .null, .int (I (0)), .int (I (0)), .int (I (0))]))) := by rw [hw24]; first | done | exact tm_u2_s
  have hGr_w23 : Gqw Λ a w23 (q19 :: (q13 :: (q7 :: (q1 :: [])))) := by rw [hw24]; exact gqw_put hGr_42
  refine tm_aload_n 0 hC dX5_init_48 rfl rfl ?_
  refine tm_sipush hC dX5_init_49 rfl ?_
  refine tm_less (b' := 1 + 0) (n' := (3011 : Int).toNat + 0) ⟨by omega, by omega⟩ ?_
  refine tm_newi2 hC (by omega) w_arr_int dX5_init_52 (fun q25 hq26 => ?_)
  obtain ⟨w27, hw28⟩ : ∃ z, z = tm_u2 w23 q25 (tm_ai (tm_T x) ((3011 : Int).toNat) (fun _ => 0)) := ⟨_, rfl⟩
  show tm_V x (tm_H x (tm_u2 w23 q25 (tm_ai (tm_T x) ((3011 : Int).toNat) (fun _ => 0)))) 0 0 54 [(0, .ref (a))] [.ref (q25), .ref (a)]
  rw [← hw28]
  have hw27_q25 : w27 q25 = some (.inl (tm_ai (tm_T x) ((3011 : Int).toNat) (fun _ => 0))) := by rw [hw28]; first | done | exact tm_u2_s
  have hw27_a := (show w27 a = _ by rw [hw28]; exact tm_u2_n (fun z => by subst z; rw [hw23_a] at hq26; cases hq26)).trans hw23_a
  have hGr_w27 : Gqw Λ a w27 (q19 :: (q13 :: (q7 :: (q1 :: [])))) := by rw [hw28]; exact gqw_arr hGr_w23 hw23_a hq26
  refine tm_putfF2 hC hB.2.2.2.2 f_X5_25 hw27_a (tt_6_4 _) (Nat.le_of_ble_eq_true rfl) dX5_init_54 ⟨_, _, _, _, rfl, l_X5_25, rfl⟩ ?_
  obtain ⟨w29, hw30⟩ : ∃ z, z = tm_u2 w27 a (.inr (6, [.ref (q1), .ref (q7), .ref (q13), .ref (q19), .ref (q25), .int (I (0)), .int (I (0)), .int (I (0))])) := ⟨_, rfl⟩
  show tm_V x (tm_H x (tm_u2 w27 a (.inr (6, [.ref (q1), .ref (q7), .ref (q13), .ref (q19), .ref (q25), .int (I (0)), .int (I (0)), .int (I (0))])))) 0 0 57 [(0, .ref (a))] []
  rw [← hw30]
  have hw29_a : w29 a = some (.inl (.inr (6, [.ref (q1), .ref (q7), .ref (q13), .ref (q19), .ref (q25), .int (I (0)), .int (I (0)), .int (I (0))]))) := by rw [hw30]; first | done | exact tm_u2_s
  have hw29_q25 := (show w29 q25 = _ by rw [hw30]; exact tm_u2_n (fun z => absurd (hw27_a.symm.trans (z ▸ hw27_q25)) (by intro q; cases q))).trans hw27_q25
  have hGr_w29 : Gqw Λ a w29 (q19 :: (q13 :: (q7 :: (q1 :: [])))) := by rw [hw30]; exact gqw_put hGr_w27
  refine tm_aload_n 0 hC dX5_init_57 rfl rfl ?_
  refine tm_iconst hC dX5_init_58 ?_
  refine tm_putf2 hC f_X5_29 hw29_a (tt_6_5 _) (Nat.le_of_ble_eq_true rfl) dX5_init_59 ?_
  obtain ⟨w31, hw32⟩ : ∃ z, z = tm_u2 w29 a (.inr (6, [.ref (q1), .ref (q7), .ref (q13), .ref (q19), .ref (q25), .int (I (0)), .int (I (0)), .int (I (0))])) := ⟨_, rfl⟩
  show tm_V x (tm_H x (tm_u2 w29 a (.inr (6, [.ref (q1), .ref (q7), .ref (q13), .ref (q19), .ref (q25), .int (I (0)), .int (I (0)), .int (I (0))])))) 0 0 62 [(0, .ref (a))] []
  rw [← hw32]
  have hw31_a : w31 a = some (.inl (.inr (6, [.ref (q1), .ref (q7), .ref (q13), .ref (q19), .ref (q25), .int (I (0)), .int (I (0)), .int (I (0))]))) := by rw [hw32]; first | done | exact tm_u2_s
  have hw31_q25 := (show w31 q25 = _ by rw [hw32]; exact tm_u2_n (fun z => absurd (hw29_a.symm.trans (z ▸ hw29_q25)) (by intro q; cases q))).trans hw29_q25
  have hGr_w31 : Gqw Λ a w31 (q19 :: (q13 :: (q7 :: (q1 :: [])))) := by rw [hw32]; exact gqw_put hGr_w29
  refine tm_aload_n 0 hC dX5_init_62 rfl rfl ?_
  refine tm_iconst hC dX5_init_63 ?_
  refine tm_putf2 hC f_X5_33 hw31_a (tt_6_6 _) (Nat.le_of_ble_eq_true rfl) dX5_init_64 ?_
  obtain ⟨w33, hw34⟩ : ∃ z, z = tm_u2 w31 a (.inr (6, [.ref (q1), .ref (q7), .ref (q13), .ref (q19), .ref (q25), .int (I (0)), .int (I (3)), .int (I (0))])) := ⟨_, rfl⟩
  show tm_V x (tm_H x (tm_u2 w31 a (.inr (6, [.ref (q1), .ref (q7), .ref (q13), .ref (q19), .ref (q25), .int (I (0)), .int (I (3)), .int (I (0))])))) 0 0 67 [(0, .ref (a))] []
  rw [← hw34]
  have hw33_a : w33 a = some (.inl (.inr (6, [.ref (q1), .ref (q7), .ref (q13), .ref (q19), .ref (q25), .int (I (0)), .int (I (3)), .int (I (0))]))) := by rw [hw34]; first | done | exact tm_u2_s
  have hw33_q25 := (show w33 q25 = _ by rw [hw34]; exact tm_u2_n (fun z => absurd (hw31_a.symm.trans (z ▸ hw31_q25)) (by intro q; cases q))).trans hw31_q25
  have hGr_w33 : Gqw Λ a w33 (q19 :: (q13 :: (q7 :: (q1 :: [])))) := by rw [hw34]; exact gqw_put hGr_w31
  refine tm_aload_n 0 hC dX5_init_67 rfl rfl ?_
  refine tm_bipush hC dX5_init_68 rfl ?_
  refine tm_putf2 hC f_X5_36 hw33_a (tt_6_7 _) (Nat.le_of_ble_eq_true rfl) dX5_init_70 ?_
  obtain ⟨w35, hw36⟩ : ∃ z, z = tm_u2 w33 a (.inr (6, [.ref (q1), .ref (q7), .ref (q13), .ref (q19), .ref (q25), .int (I (0)), .int (I (3)), .int (I (10))])) := ⟨_, rfl⟩
  show tm_V x (tm_H x (tm_u2 w33 a (.inr (6, [.ref (q1), .ref (q7), .ref (q13), .ref (q19), .ref (q25), .int (I (0)), .int (I (3)), .int (I (10))])))) 0 0 73 [(0, .ref (a))] []
  rw [← hw36]
  have hw35_a : w35 a = some (.inl (.inr (6, [.ref (q1), .ref (q7), .ref (q13), .ref (q19), .ref (q25), .int (I (0)), .int (I (3)), .int (I (10))]))) := by rw [hw36]; first | done | exact tm_u2_s
  have hw35_q25 := (show w35 q25 = _ by rw [hw36]; exact tm_u2_n (fun z => absurd (hw33_a.symm.trans (z ▸ hw33_q25)) (by intro q; cases q))).trans hw33_q25
  have hGr_w35 : Gqw Λ a w35 (q19 :: (q13 :: (q7 :: (q1 :: [])))) := by rw [hw36]; exact gqw_put hGr_w33
  have hG9 := hGr_w35
  exact tm_vret hC hR dX5_init_73 (⟨k0 a q1 q7 q13 q19 q25, (RC_0 hw35_a (hG9.2.1 q1 (by simp)).2.1 (hG9.2.1 q7 (by simp)).2.1 (hG9.2.1 q13 (by simp)).2.1 (hG9.2.1 q19 (by simp)).2.1 hw35_q25 (by have h9 := hG9.2.2; simp only [List.nodup_cons, List.mem_cons, not_or] at h9; obtain ⟨⟨h1, h2, h3, -⟩, ⟨h4, h5, -⟩, ⟨h6, -⟩, -⟩ := h9; exact ⟨fun z => h6 z.symm, fun z => h5 z.symm, fun z => h3 z.symm, fun z => h4 z.symm, fun z => h2 z.symm, fun z => h1 z.symm⟩)).1, rfl, rfl, rfl⟩)
