set_option maxHeartbeats 4000000 in
set_option maxRecDepth 100000 in
theorem c_M_isIn (γ : tmG) (hst : γ.1.stackTraces = false) (h : (Nat → Prop) → tmL → Heap → Prop) (w : tmL) (u lo hi : Int) (hr : (-2147483648 ≤ u ∧ u ≤ 2147483647) ∧ (-2147483648 ≤ lo ∧ lo ≤ 2147483647) ∧ -2147483648 ≤ hi ∧ hi ≤ 2147483647) : tm_Con γ h M_X6_isIn 1 0 0 [.int (I (u)), .int (I (lo)), .int (I (hi))] w (fun v w' => w = w' ∧ v = some (.int (I (bi (lo ≤ u ∧ u ≤ hi))))) := by
  refine tm_con hst (by decide) (Nat.le_of_ble_eq_true rfl) (fun x hB hR => ?_)
  have hg := hB.1
  subst hg
  have hC : tm_C x cX6_isIn RX6 (some FieldType.boolean) := hB.2.2.2.1
  show tm_V x (h (tm_Fz x) w) 0 0 0 [(0, .int (I (u))), (1, .int (I (lo))), (2, .int (I (hi)))] []
  refine tm_iload_n 0 hC dX6_isIn_0 rfl rfl ?_
  refine tm_iload_n 1 hC dX6_isIn_1 rfl rfl ?_
  refine tm_icmp_lt 14 hC dX6_isIn_2 (by decide) (by omega) (fun c_2 => ?_) (fun c_2 => ?_)
  · refine tm_iconst hC dX6_isIn_14 ?_
    exact tm_zret hC hR dX6_isIn_15 (by omega) (⟨rfl, by rw [bi_f (by omega)]⟩)
  · refine tm_iload_n 0 hC dX6_isIn_5 rfl rfl ?_
    refine tm_iload_n 2 hC dX6_isIn_6 rfl rfl ?_
    refine tm_icmp_gt 14 hC dX6_isIn_7 (by decide) (by omega) (fun c_7 => ?_) (fun c_7 => ?_)
    · refine tm_iconst hC dX6_isIn_14 ?_
      exact tm_zret hC hR dX6_isIn_15 (by omega) (⟨rfl, by rw [bi_f (by omega)]⟩)
    · refine tm_iconst hC dX6_isIn_10 ?_
      refine tm_goto 15 hC dX6_isIn_11 (by decide) ?_
      exact tm_zret hC hR dX6_isIn_15 (by omega) (⟨rfl, by rw [bi_t (by omega)]⟩)

set_option maxHeartbeats 4000000 in
set_option maxRecDepth 100000 in
theorem c_M_thrown (γ : tmG) (hst : γ.1.stackTraces = false) (Λ : tmL) (ρ : Nat → Nat) (th sf se : Int) (σ : ST) (hM : RM γ.2.2.1 Λ ρ th sf se σ) (hw : WF0 σ) : tm_Con γ (tm_h2 γ.2.1 γ.2.2.1 γ.2.2.2.1) M_X6_thrown 1 0 0 [.ref (ρ 0)] Λ (fun v w' => Λ = w' ∧ v = some (.int (I (th)))) := by
  refine tm_con hst (by decide) (Nat.le_of_ble_eq_true rfl) (fun x hB hR => ?_)
  have hg := hB.1
  subst hg
  have hC : tm_C x cX6_thrown RX6 (some FieldType.int) := hB.2.2.2.1
  obtain ⟨hm0, hm1, hm2, hm3, hm4, hm5, hm6, hmd⟩ := id hM
  have hn := wf_n hw
  show tm_V x (tm_H x Λ) 0 0 0 [(0, .ref (ρ 0))] []
  refine tm_aload_n 0 hC dX6_thrown_0 rfl rfl ?_
  refine tm_getf2 hC f_X6_36 hm0 rfl dX6_thrown_1 ?_
  exact tm_iret hC hR dX6_thrown_4 (⟨rfl, rfl⟩)

set_option maxHeartbeats 4000000 in
set_option maxRecDepth 100000 in
theorem c_M_fail (γ : tmG) (hst : γ.1.stackTraces = false) (Λ : tmL) (ρ : Nat → Nat) (th sf se : Int) (σ : ST) (hM : RM γ.2.2.1 Λ ρ th sf se σ) (hw : WF0 σ) (k : Int) : tm_Con γ (tm_h2 γ.2.1 γ.2.2.1 γ.2.2.2.1) M_X6_fail 1 0 0 [.ref (ρ 0), .int (I (k))] Λ (fun v w' => RM γ.2.2.1 w' ρ k sf se σ ∧ v = some (.int (I 0))) := by
  refine tm_con hst (by decide) (Nat.le_of_ble_eq_true rfl) (fun x hB hR => ?_)
  have hg := hB.1
  subst hg
  have hC : tm_C x cX6_fail RX6 (some FieldType.int) := hB.2.2.2.1
  obtain ⟨hm0, hm1, hm2, hm3, hm4, hm5, hm6, hmd⟩ := id hM
  have hn := wf_n hw
  show tm_V x (tm_H x Λ) 0 0 0 [(0, .ref (ρ 0)), (1, .int (I (k)))] []
  refine tm_aload_n 0 hC dX6_fail_0 rfl rfl ?_
  refine tm_iload_n 1 hC dX6_fail_1 rfl rfl ?_
  refine tm_putf2 hC f_X6_36 hm0 (tt_7_0 _) (Nat.le_of_ble_eq_true rfl) dX6_fail_2 ?_
  obtain ⟨w1, hw2⟩ : ∃ z, z = tm_u2 Λ (ρ 0) (.inr (7, [.int (I (k)), .int (I (s_nb σ)), .ref (ρ 1), .int (I (s_nd σ)), .ref (ρ 2), .int (I (s_np σ)), .ref (ρ 3), .ref (ρ 4), .int (I (s_sw σ)), .int (I (s_jt σ)), .int (I (s_nm σ)), .ref (ρ 5), .ref (ρ 6), .int (I (sf)), .int (I (se))])) := ⟨_, rfl⟩
  show tm_V x (tm_H x (tm_u2 Λ (ρ 0) (.inr (7, [.int (I (k)), .int (I (s_nb σ)), .ref (ρ 1), .int (I (s_nd σ)), .ref (ρ 2), .int (I (s_np σ)), .ref (ρ 3), .ref (ρ 4), .int (I (s_sw σ)), .int (I (s_jt σ)), .int (I (s_nm σ)), .ref (ρ 5), .ref (ρ 6), .int (I (sf)), .int (I (se))])))) 0 0 5 [(0, .ref (ρ 0)), (1, .int (I (k)))] []
  rw [← hw2]
  have hw1_ρ_0 : w1 (ρ 0) = some (.inl (.inr (7, [.int (I (k)), .int (I (s_nb σ)), .ref (ρ 1), .int (I (s_nd σ)), .ref (ρ 2), .int (I (s_np σ)), .ref (ρ 3), .ref (ρ 4), .int (I (s_sw σ)), .int (I (s_jt σ)), .int (I (s_nm σ)), .ref (ρ 5), .ref (ρ 6), .int (I (sf)), .int (I (se))]))) := by rw [hw2]; first | done | exact tm_u2_s
  have hw1_ρ_1 := (show w1 (ρ 1) = _ by rw [hw2]; exact tm_u2_n (fun z => absurd (hm0.symm.trans (z ▸ hm1)) (by intro q; cases q))).trans hm1
  have hw1_ρ_2 := (show w1 (ρ 2) = _ by rw [hw2]; exact tm_u2_n (fun z => absurd (hm0.symm.trans (z ▸ hm2)) (by intro q; cases q))).trans hm2
  have hw1_ρ_3 := (show w1 (ρ 3) = _ by rw [hw2]; exact tm_u2_n (fun z => absurd (hm0.symm.trans (z ▸ hm3)) (by intro q; cases q))).trans hm3
  have hw1_ρ_4 := (show w1 (ρ 4) = _ by rw [hw2]; exact tm_u2_n (fun z => absurd (hm0.symm.trans (z ▸ hm4)) (by intro q; cases q))).trans hm4
  have hw1_ρ_5 := (show w1 (ρ 5) = _ by rw [hw2]; exact tm_u2_n (fun z => absurd (hm0.symm.trans (z ▸ hm5)) (by intro q; cases q))).trans hm5
  have hw1_ρ_6 := (show w1 (ρ 6) = _ by rw [hw2]; exact tm_u2_n (fun z => absurd (hm0.symm.trans (z ▸ hm6)) (by intro q; cases q))).trans hm6
  have hM_w1 : RM (tm_T x) w1 ρ k sf se σ := ⟨hw1_ρ_0, hw1_ρ_1, hw1_ρ_2, hw1_ρ_3, hw1_ρ_4, hw1_ρ_5, hw1_ρ_6, hmd⟩
  refine tm_iconst hC dX6_fail_5 ?_
  exact tm_iret hC hR dX6_fail_6 (⟨hM_w1, rfl⟩)

set_option maxHeartbeats 4000000 in
set_option maxRecDepth 100000 in
theorem c_M_isBoard (γ : tmG) (hst : γ.1.stackTraces = false) (Λ : tmL) (ρ : Nat → Nat) (th sf se : Int) (σ : ST) (hM : RM γ.2.2.1 Λ ρ th sf se σ) (hw : WF0 σ) (b : Int) (hb : -2147483648 ≤ b ∧ b ≤ 2147483647) : tm_Con γ (tm_h2 γ.2.1 γ.2.2.1 γ.2.2.2.1) M_X6_isBoard 2 0 0 [.ref (ρ 0), .int (I (b))] Λ (fun v w' => Λ = w' ∧ v = some (.int (I (bi (0 ≤ b ∧ b ≤ s_nb σ - 1))))) := by
  refine tm_con hst (by decide) (Nat.le_of_ble_eq_true rfl) (fun x hB hR => ?_)
  have hg := hB.1
  subst hg
  have hC : tm_C x cX6_isBoard RX6 (some FieldType.boolean) := hB.2.2.2.1
  obtain ⟨hm0, hm1, hm2, hm3, hm4, hm5, hm6, hmd⟩ := id hM
  have hn := wf_n hw
  show tm_V x (tm_H x Λ) 0 0 0 [(0, .ref (ρ 0)), (1, .int (I (b)))] []
  refine tm_iload_n 1 hC dX6_isBoard_0 rfl rfl ?_
  refine tm_iconst hC dX6_isBoard_1 ?_
  refine tm_aload_n 0 hC dX6_isBoard_2 rfl rfl ?_
  refine tm_getf2 hC f_X6_39 hm0 rfl dX6_isBoard_3 ?_
  refine tm_iconst hC dX6_isBoard_6 ?_
  refine tm_isub hC dX6_isBoard_7 ?_
  refine tm_callS (b := 0) (n := 0) (rest := []) hC (c_M_isIn (tm_g x) hst _ Λ b 0 ((s_nb σ) - 1) (by omega)) k_X6_42 (by rw [hB.2.2.1]; exact ⟨Nat.le_of_ble_eq_true rfl, Nat.le_of_ble_eq_true rfl⟩) rfl rfl (by decide) dX6_isBoard_8 (fun v_8 w_8 hp_8 => ?_)
  obtain ⟨rfl, rfl⟩ := hp_8
  show tm_V x (tm_H x Λ) 0 0 11 [(0, .ref (ρ 0)), (1, .int (I (b)))] [.int (I (bi (0 ≤ b ∧ b ≤ ((s_nb σ) - 1))))]
  exact tm_zret hC hR dX6_isBoard_11 (bi_01 _) (⟨rfl, rfl⟩)

set_option maxHeartbeats 4000000 in
set_option maxRecDepth 100000 in
theorem c_M_isPart (γ : tmG) (hst : γ.1.stackTraces = false) (Λ : tmL) (ρ : Nat → Nat) (th sf se : Int) (σ : ST) (hM : RM γ.2.2.1 Λ ρ th sf se σ) (hw : WF0 σ) (b : Int) (hb : -2147483648 ≤ b ∧ b ≤ 2147483647) : tm_Con γ (tm_h2 γ.2.1 γ.2.2.1 γ.2.2.2.1) M_X6_isPart 2 0 0 [.ref (ρ 0), .int (I (b))] Λ (fun v w' => Λ = w' ∧ v = some (.int (I (bi (0 ≤ b ∧ b ≤ s_np σ - 1))))) := by
  refine tm_con hst (by decide) (Nat.le_of_ble_eq_true rfl) (fun x hB hR => ?_)
  have hg := hB.1
  subst hg
  have hC : tm_C x cX6_isPart RX6 (some FieldType.boolean) := hB.2.2.2.1
  obtain ⟨hm0, hm1, hm2, hm3, hm4, hm5, hm6, hmd⟩ := id hM
  have hn := wf_n hw
  show tm_V x (tm_H x Λ) 0 0 0 [(0, .ref (ρ 0)), (1, .int (I (b)))] []
  refine tm_iload_n 1 hC dX6_isPart_0 rfl rfl ?_
  refine tm_iconst hC dX6_isPart_1 ?_
  refine tm_aload_n 0 hC dX6_isPart_2 rfl rfl ?_
  refine tm_getf2 hC f_X6_46 hm0 rfl dX6_isPart_3 ?_
  refine tm_iconst hC dX6_isPart_6 ?_
  refine tm_isub hC dX6_isPart_7 ?_
  refine tm_callS (b := 0) (n := 0) (rest := []) hC (c_M_isIn (tm_g x) hst _ Λ b 0 ((s_np σ) - 1) (by omega)) k_X6_42 (by rw [hB.2.2.1]; exact ⟨Nat.le_of_ble_eq_true rfl, Nat.le_of_ble_eq_true rfl⟩) rfl rfl (by decide) dX6_isPart_8 (fun v_8 w_8 hp_8 => ?_)
  obtain ⟨rfl, rfl⟩ := hp_8
  show tm_V x (tm_H x Λ) 0 0 11 [(0, .ref (ρ 0)), (1, .int (I (b)))] [.int (I (bi (0 ≤ b ∧ b ≤ ((s_np σ) - 1))))]
  exact tm_zret hC hR dX6_isPart_11 (bi_01 _) (⟨rfl, rfl⟩)

set_option maxHeartbeats 4000000 in
set_option maxRecDepth 100000 in
theorem c_M_length (γ : tmG) (hst : γ.1.stackTraces = false) (Λ : tmL) (ρ : Nat → Nat) (th sf se : Int) (σ : ST) (hM : RM γ.2.2.1 Λ ρ th sf se σ) (hw : WF0 σ) (b : Int) (hb : 0 ≤ b ∧ b < s_nb σ) : tm_Con γ (tm_h2 γ.2.1 γ.2.2.1 γ.2.2.2.1) M_X6_length 1 0 0 [.ref (ρ 0), .int (I (b))] Λ (fun v w' => Λ = w' ∧ v = some (.int (I (s_wo σ (3 * b)))) ∧ 100 ≤ s_wo σ (3 * b) ∧ s_wo σ (3 * b) ≤ 3000) := by
  refine tm_con hst (by decide) (Nat.le_of_ble_eq_true rfl) (fun x hB hR => ?_)
  have hg := hB.1
  subst hg
  have hC : tm_C x cX6_length RX6 (some FieldType.int) := hB.2.2.2.1
  obtain ⟨hm0, hm1, hm2, hm3, hm4, hm5, hm6, hmd⟩ := id hM
  have hn := wf_n hw
  show tm_V x (tm_H x Λ) 0 0 0 [(0, .ref (ρ 0)), (1, .int (I (b)))] []
  refine tm_aload_n 0 hC dX6_length_0 rfl rfl ?_
  refine tm_getf2 hC f_X6_9 hm0 rfl dX6_length_1 ?_
  refine tm_iconst hC dX6_length_4 ?_
  refine tm_iload_n 1 hC dX6_length_5 rfl rfl ?_
  refine tm_imul hC dX6_length_6 ?_
  refine tm_iald2 hC hm1 (by omega) dX6_length_7 ?_
  exact tm_iret hC hR dX6_length_8 (⟨rfl, rfl, by have := wf_b hw b hb; omega⟩)

set_option maxHeartbeats 4000000 in
set_option maxRecDepth 100000 in
theorem c_M_width (γ : tmG) (hst : γ.1.stackTraces = false) (Λ : tmL) (ρ : Nat → Nat) (th sf se : Int) (σ : ST) (hM : RM γ.2.2.1 Λ ρ th sf se σ) (hw : WF0 σ) (b : Int) (hb : 0 ≤ b ∧ b < s_nb σ) : tm_Con γ (tm_h2 γ.2.1 γ.2.2.1 γ.2.2.2.1) M_X6_width 1 0 0 [.ref (ρ 0), .int (I (b))] Λ (fun v w' => Λ = w' ∧ v = some (.int (I (s_wo σ (3 * b + 1)))) ∧ 10 ≤ s_wo σ (3 * b + 1) ∧ s_wo σ (3 * b + 1) ≤ 400) := by
  refine tm_con hst (by decide) (Nat.le_of_ble_eq_true rfl) (fun x hB hR => ?_)
  have hg := hB.1
  subst hg
  have hC : tm_C x cX6_width RX6 (some FieldType.int) := hB.2.2.2.1
  obtain ⟨hm0, hm1, hm2, hm3, hm4, hm5, hm6, hmd⟩ := id hM
  have hn := wf_n hw
  show tm_V x (tm_H x Λ) 0 0 0 [(0, .ref (ρ 0)), (1, .int (I (b)))] []
  refine tm_aload_n 0 hC dX6_width_0 rfl rfl ?_
  refine tm_getf2 hC f_X6_9 hm0 rfl dX6_width_1 ?_
  refine tm_iconst hC dX6_width_4 ?_
  refine tm_iload_n 1 hC dX6_width_5 rfl rfl ?_
  refine tm_imul hC dX6_width_6 ?_
  refine tm_iconst hC dX6_width_7 ?_
  refine tm_iadd hC dX6_width_8 ?_
  refine tm_iald2 hC hm1 (by omega) dX6_width_9 ?_
  exact tm_iret hC hR dX6_width_10 (⟨rfl, rfl, by have := wf_b hw b hb; omega⟩)

set_option maxHeartbeats 4000000 in
set_option maxRecDepth 100000 in
theorem c_M_want (γ : tmG) (hst : γ.1.stackTraces = false) (Λ : tmL) (ρ : Nat → Nat) (th sf se : Int) (σ : ST) (hM : RM γ.2.2.1 Λ ρ th sf se σ) (hw : WF0 σ) (p : Int) (hp : 0 ≤ p ∧ p < s_np σ) (w : Int) (hw4 : 0 ≤ w ∧ w < 4) : tm_Con γ (tm_h2 γ.2.1 γ.2.2.1 γ.2.2.2.1) M_X6_want 1 0 0 [.ref (ρ 0), .int (I (p)), .int (I (w))] Λ (fun v w' => Λ = w' ∧ v = some (.int (I (s_wa σ (4 * p + w)))) ∧ 0 ≤ s_wa σ (4 * p + w) ∧ s_wa σ (4 * p + w) ≤ 3000) := by
  refine tm_con hst (by decide) (Nat.le_of_ble_eq_true rfl) (fun x hB hR => ?_)
  have hg := hB.1
  subst hg
  have hC : tm_C x cX6_want RX6 (some FieldType.int) := hB.2.2.2.1
  obtain ⟨hm0, hm1, hm2, hm3, hm4, hm5, hm6, hmd⟩ := id hM
  have hn := wf_n hw
  show tm_V x (tm_H x Λ) 0 0 0 [(0, .ref (ρ 0)), (1, .int (I (p))), (2, .int (I (w)))] []
  refine tm_aload_n 0 hC dX6_want_0 rfl rfl ?_
  refine tm_getf2 hC f_X6_16 hm0 rfl dX6_want_1 ?_
  refine tm_iconst hC dX6_want_4 ?_
  refine tm_iload_n 1 hC dX6_want_5 rfl rfl ?_
  refine tm_imul hC dX6_want_6 ?_
  refine tm_iload_n 2 hC dX6_want_7 rfl rfl ?_
  refine tm_iadd hC dX6_want_8 ?_
  refine tm_iald2 hC hm3 (by omega) dX6_want_9 ?_
  exact tm_iret hC hR dX6_want_10 (⟨rfl, rfl, by have := wf_p hw p hp; rcases (show w = 0 ∨ w = 1 ∨ w = 2 ∨ w = 3 by omega) with rfl | rfl | rfl | rfl <;> omega⟩)

set_option maxHeartbeats 4000000 in
set_option maxRecDepth 100000 in
theorem c_M_isOn (γ : tmG) (hst : γ.1.stackTraces = false) (Λ : tmL) (ρ : Nat → Nat) (th sf se : Int) (σ : ST) (hM : RM γ.2.2.1 Λ ρ th sf se σ) (hw : WF0 σ) (k : Int) (hk : 0 ≤ k ∧ k < s_nm σ) (b : Int) (hb : -2147483648 ≤ b ∧ b ≤ 2147483647) : tm_Con γ (tm_h2 γ.2.1 γ.2.2.1 γ.2.2.2.1) M_X6_isOn 1 0 0 [.ref (ρ 0), .int (I (k)), .int (I (b))] Λ (fun v w' => Λ = w' ∧ v = some (.int (I (bi (s_cu σ (4 * k) = b)))) ∧ 0 ≤ s_cu σ (4 * k) ∧ s_cu σ (4 * k) < s_nb σ) := by
  refine tm_con hst (by decide) (Nat.le_of_ble_eq_true rfl) (fun x hB hR => ?_)
  have hg := hB.1
  subst hg
  have hC : tm_C x cX6_isOn RX6 (some FieldType.boolean) := hB.2.2.2.1
  obtain ⟨hm0, hm1, hm2, hm3, hm4, hm5, hm6, hmd⟩ := id hM
  have hn := wf_n hw
  have hk9 := wf_k hw k hk
  show tm_V x (tm_H x Λ) 0 0 0 [(0, .ref (ρ 0)), (1, .int (I (k))), (2, .int (I (b)))] []
  refine tm_aload_n 0 hC dX6_isOn_0 rfl rfl ?_
  refine tm_getf2 hC f_X6_30 hm0 rfl dX6_isOn_1 ?_
  refine tm_iconst hC dX6_isOn_4 ?_
  refine tm_iload_n 1 hC dX6_isOn_5 rfl rfl ?_
  refine tm_imul hC dX6_isOn_6 ?_
  refine tm_iald2 hC hm5 (by omega) dX6_isOn_7 ?_
  refine tm_iload_n 2 hC dX6_isOn_8 rfl rfl ?_
  refine tm_icmp_ne 16 hC dX6_isOn_9 (by decide) (by omega) (fun c_9 => ?_) (fun c_9 => ?_)
  · refine tm_iconst hC dX6_isOn_16 ?_
    exact tm_zret hC hR dX6_isOn_17 (by omega) (⟨rfl, by rw [bi_f (by omega)], by omega⟩)
  · refine tm_iconst hC dX6_isOn_12 ?_
    refine tm_goto 17 hC dX6_isOn_13 (by decide) ?_
    exact tm_zret hC hR dX6_isOn_17 (by omega) (⟨rfl, by rw [bi_t (by omega)], by omega⟩)

set_option maxHeartbeats 4000000 in
set_option maxRecDepth 100000 in
theorem c_M_from (γ : tmG) (hst : γ.1.stackTraces = false) (Λ : tmL) (ρ : Nat → Nat) (th sf se : Int) (σ : ST) (hM : RM γ.2.2.1 Λ ρ th sf se σ) (hw : WF0 σ) (k : Int) (hk : 0 ≤ k ∧ k < s_nm σ) : tm_Con γ (tm_h2 γ.2.1 γ.2.2.1 γ.2.2.2.1) M_X6_from 1 0 0 [.ref (ρ 0), .int (I (k))] Λ (fun v w' => Λ = w' ∧ v = some (.int (I (s_cu σ (4 * k + 1)))) ∧ 0 ≤ s_cu σ (4 * k + 1) ∧ s_cu σ (4 * k + 1) ≤ 3000) := by
  refine tm_con hst (by decide) (Nat.le_of_ble_eq_true rfl) (fun x hB hR => ?_)
  have hg := hB.1
  subst hg
  have hC : tm_C x cX6_from RX6 (some FieldType.int) := hB.2.2.2.1
  obtain ⟨hm0, hm1, hm2, hm3, hm4, hm5, hm6, hmd⟩ := id hM
  have hn := wf_n hw
  show tm_V x (tm_H x Λ) 0 0 0 [(0, .ref (ρ 0)), (1, .int (I (k)))] []
  refine tm_aload_n 0 hC dX6_from_0 rfl rfl ?_
  refine tm_getf2 hC f_X6_30 hm0 rfl dX6_from_1 ?_
  refine tm_iconst hC dX6_from_4 ?_
  refine tm_iload_n 1 hC dX6_from_5 rfl rfl ?_
  refine tm_imul hC dX6_from_6 ?_
  refine tm_iconst hC dX6_from_7 ?_
  refine tm_iadd hC dX6_from_8 ?_
  refine tm_iald2 hC hm5 (by omega) dX6_from_9 ?_
  exact tm_iret hC hR dX6_from_10 (⟨rfl, rfl, by have := wf_k hw k hk; omega⟩)

set_option maxHeartbeats 4000000 in
set_option maxRecDepth 100000 in
theorem c_M_to (γ : tmG) (hst : γ.1.stackTraces = false) (Λ : tmL) (ρ : Nat → Nat) (th sf se : Int) (σ : ST) (hM : RM γ.2.2.1 Λ ρ th sf se σ) (hw : WF0 σ) (k : Int) (hk : 0 ≤ k ∧ k < s_nm σ) : tm_Con γ (tm_h2 γ.2.1 γ.2.2.1 γ.2.2.2.1) M_X6_to 1 0 0 [.ref (ρ 0), .int (I (k))] Λ (fun v w' => Λ = w' ∧ v = some (.int (I (s_cu σ (4 * k + 2)))) ∧ 0 ≤ s_cu σ (4 * k + 2) ∧ s_cu σ (4 * k + 2) ≤ 3000) := by
  refine tm_con hst (by decide) (Nat.le_of_ble_eq_true rfl) (fun x hB hR => ?_)
  have hg := hB.1
  subst hg
  have hC : tm_C x cX6_to RX6 (some FieldType.int) := hB.2.2.2.1
  obtain ⟨hm0, hm1, hm2, hm3, hm4, hm5, hm6, hmd⟩ := id hM
  have hn := wf_n hw
  show tm_V x (tm_H x Λ) 0 0 0 [(0, .ref (ρ 0)), (1, .int (I (k)))] []
  refine tm_aload_n 0 hC dX6_to_0 rfl rfl ?_
  refine tm_getf2 hC f_X6_30 hm0 rfl dX6_to_1 ?_
  refine tm_iconst hC dX6_to_4 ?_
  refine tm_iload_n 1 hC dX6_to_5 rfl rfl ?_
  refine tm_imul hC dX6_to_6 ?_
  refine tm_iconst hC dX6_to_7 ?_
  refine tm_iadd hC dX6_to_8 ?_
  refine tm_iald2 hC hm5 (by omega) dX6_to_9 ?_
  exact tm_iret hC hR dX6_to_10 (⟨rfl, rfl, by have := wf_k hw k hk; omega⟩)

set_option maxHeartbeats 4000000 in
set_option maxRecDepth 100000 in
theorem c_M_partOf (γ : tmG) (hst : γ.1.stackTraces = false) (Λ : tmL) (ρ : Nat → Nat) (th sf se : Int) (σ : ST) (hM : RM γ.2.2.1 Λ ρ th sf se σ) (hw : WF0 σ) (k : Int) (hk : 0 ≤ k ∧ k < s_nm σ) : tm_Con γ (tm_h2 γ.2.1 γ.2.2.1 γ.2.2.2.1) M_X6_partOf 1 0 0 [.ref (ρ 0), .int (I (k))] Λ (fun v w' => Λ = w' ∧ v = some (.int (I (s_cu σ (4 * k + 3)))) ∧ 0 ≤ s_cu σ (4 * k + 3) ∧ s_cu σ (4 * k + 3) < s_np σ) := by
  refine tm_con hst (by decide) (Nat.le_of_ble_eq_true rfl) (fun x hB hR => ?_)
  have hg := hB.1
  subst hg
  have hC : tm_C x cX6_partOf RX6 (some FieldType.int) := hB.2.2.2.1
  obtain ⟨hm0, hm1, hm2, hm3, hm4, hm5, hm6, hmd⟩ := id hM
  have hn := wf_n hw
  show tm_V x (tm_H x Λ) 0 0 0 [(0, .ref (ρ 0)), (1, .int (I (k)))] []
  refine tm_aload_n 0 hC dX6_partOf_0 rfl rfl ?_
  refine tm_getf2 hC f_X6_30 hm0 rfl dX6_partOf_1 ?_
  refine tm_iconst hC dX6_partOf_4 ?_
  refine tm_iload_n 1 hC dX6_partOf_5 rfl rfl ?_
  refine tm_imul hC dX6_partOf_6 ?_
  refine tm_iconst hC dX6_partOf_7 ?_
  refine tm_iadd hC dX6_partOf_8 ?_
  refine tm_iald2 hC hm5 (by omega) dX6_partOf_9 ?_
  exact tm_iret hC hR dX6_partOf_10 (⟨rfl, rfl, by have := wf_k hw k hk; omega⟩)

/-- the grade at a place: the greatest one of that of the board and those of all defects there -/
def isGr (σ : ST) (b pl r : Int) : Prop := s_wo σ (3 * b + 2) ≤ r ∧ (∀ d, 0 ≤ d ∧ d < s_nd σ → s_fl σ (4 * d) = b → s_fl σ (4 * d + 1) ≤ pl → pl < s_fl σ (4 * d + 2) → s_fl σ (4 * d + 3) ≤ r) ∧ (r = s_wo σ (3 * b + 2) ∨ ∃ d, (0 ≤ d ∧ d < s_nd σ) ∧ s_fl σ (4 * d) = b ∧ s_fl σ (4 * d + 1) ≤ pl ∧ pl < s_fl σ (4 * d + 2) ∧ s_fl σ (4 * d + 3) = r)
theorem isGr_u {σ : ST} {b pl r r' : Int} (h : isGr σ b pl r) (h' : isGr σ b pl r') : r = r' := by
  obtain ⟨h1, h2, h3⟩ := h
  obtain ⟨g1, g2, g3⟩ := h'
  have a1 : r ≤ r' := by
    rcases h3 with h3 | ⟨d, hd, e1, e2, e3, e4⟩
    · omega
    · have := g2 d hd e1 e2 e3; omega
  have a2 : r' ≤ r := by
    rcases g3 with h3 | ⟨d, hd, e1, e2, e3, e4⟩
    · omega
    · have := h2 d hd e1 e2 e3; omega
  omega
/-- .. of the first n defects -/
def isGrN (σ : ST) (b pl n r : Int) : Prop := s_wo σ (3 * b + 2) ≤ r ∧ (∀ d, 0 ≤ d ∧ d < n → s_fl σ (4 * d) = b → s_fl σ (4 * d + 1) ≤ pl → pl < s_fl σ (4 * d + 2) → s_fl σ (4 * d + 3) ≤ r) ∧ (r = s_wo σ (3 * b + 2) ∨ ∃ d, (0 ≤ d ∧ d < n) ∧ s_fl σ (4 * d) = b ∧ s_fl σ (4 * d + 1) ≤ pl ∧ pl < s_fl σ (4 * d + 2) ∧ s_fl σ (4 * d + 3) = r)
theorem isGrN_skip {σ : ST} {b pl n r : Int} (h : isGrN σ b pl n r) (hn : s_fl σ (4 * n) = b → s_fl σ (4 * n + 1) ≤ pl → pl < s_fl σ (4 * n + 2) → False) : isGrN σ b pl (n + 1) r := by
  obtain ⟨h1, h2, h3⟩ := h
  refine ⟨h1, fun d hd e1 e2 e3 => ?_, ?_⟩
  · by_cases hdn : d = n
    · subst hdn; exact (hn e1 e2 e3).elim
    · exact h2 d (by omega) e1 e2 e3
  · rcases h3 with h3 | ⟨d, hd, e⟩
    · exact Or.inl h3
    · exact Or.inr ⟨d, by omega, e⟩
theorem isGrN_take {σ : ST} {b pl n r : Int} (h0 : 0 ≤ n) (h : isGrN σ b pl n r) (e1 : s_fl σ (4 * n) = b) (e2 : s_fl σ (4 * n + 1) ≤ pl) (e3 : pl < s_fl σ (4 * n + 2)) : isGrN σ b pl (n + 1) (max r (s_fl σ (4 * n + 3))) := by
  obtain ⟨h1, h2, h3⟩ := h
  refine ⟨by omega, fun d hd f1 f2 f3 => ?_, ?_⟩
  · by_cases hdn : d = n
    · subst hdn; omega
    · have := h2 d (by omega) f1 f2 f3; omega
  · by_cases hm : s_fl σ (4 * n + 3) ≤ r
    · rw [show max r (s_fl σ (4 * n + 3)) = r by omega]
      rcases h3 with h3 | ⟨d, hd, e⟩
      · exact Or.inl h3
      · exact Or.inr ⟨d, by omega, e⟩
    · exact Or.inr ⟨n, by omega, e1, e2, e3, by omega⟩
theorem isGr_of {σ : ST} {b pl d r : Int} (h : isGrN σ b pl d r) (e : s_nd σ ≤ d) (e2 : d ≤ s_nd σ) : isGr σ b pl r := by
  have e3 : d = s_nd σ := by omega
  subst e3
  exact h

set_option maxHeartbeats 4000000 in
set_option maxRecDepth 100000 in
theorem c_M_gradeAt (γ : tmG) (hst : γ.1.stackTraces = false) (Λ : tmL) (ρ : Nat → Nat) (th sf se : Int) (σ : ST) (hM : RM γ.2.2.1 Λ ρ th sf se σ) (hw : WF0 σ) (b : Int) (hb : 0 ≤ b ∧ b < s_nb σ) (pl : Int) (hpl : -2147483647 ≤ pl ∧ pl ≤ 2147483646) : tm_Con γ (tm_h2 γ.2.1 γ.2.2.1 γ.2.2.2.1) M_X6_gradeAt 2 0 0 [.ref (ρ 0), .int (I (b)), .int (I (pl))] Λ (fun v w' => Λ = w' ∧ ∃ r, v = some (.int (I r)) ∧ isGr σ b pl r ∧ 0 ≤ r ∧ r ≤ 3) := by
  refine tm_con hst (by decide) (Nat.le_of_ble_eq_true rfl) (fun x hB hR => ?_)
  have hg := hB.1
  subst hg
  have hC : tm_C x cX6_gradeAt RX6 (some FieldType.int) := hB.2.2.2.1
  obtain ⟨hm0, hm1, hm2, hm3, hm4, hm5, hm6, hmd⟩ := id hM
  have hn := wf_n hw
  have hb9 := wf_b hw b hb
  show tm_V x (tm_H x Λ) 0 0 0 [(0, .ref (ρ 0)), (1, .int (I (b))), (2, .int (I (pl)))] []
  refine tm_aload_n 0 hC dX6_gradeAt_0 rfl rfl ?_
  refine tm_getf2 hC f_X6_9 hm0 rfl dX6_gradeAt_1 ?_
  refine tm_iconst hC dX6_gradeAt_4 ?_
  refine tm_iload_n 1 hC dX6_gradeAt_5 rfl rfl ?_
  refine tm_imul hC dX6_gradeAt_6 ?_
  refine tm_iconst hC dX6_gradeAt_7 ?_
  refine tm_iadd hC dX6_gradeAt_8 ?_
  refine tm_iald2 hC hm1 (by omega) dX6_gradeAt_9 ?_
  refine tm_istore_n [(3, .int (I ((s_wo σ) ((3 * b) + 2)))), (0, .ref (ρ 0)), (1, .int (I (b))), (2, .int (I (pl)))] hC dX6_gradeAt_10 rfl (by rw [hB.2.1]; exact Nat.le_of_ble_eq_true rfl) rfl ?_
  refine tm_iconst hC dX6_gradeAt_11 ?_
  refine tm_istore [(4, .int (I (0))), (3, .int (I ((s_wo σ) ((3 * b) + 2)))), (0, .ref (ρ 0)), (1, .int (I (b))), (2, .int (I (pl)))] hC dX6_gradeAt_12 (by rw [hB.2.1]; exact Nat.le_of_ble_eq_true rfl) rfl ?_
  have hL_14 : ∀ (fu : Nat) (r : Int) (d : Int), ((0 ≤ d ∧ d ≤ s_nd σ) ∧ isGrN σ b pl d r ∧ 0 ≤ r ∧ r ≤ 3) → ((s_nd σ - d).toNat) < fu → tm_V x (tm_H x Λ) 0 0 14 [(0, .ref (ρ 0)), (1, .int (I (b))), (2, .int (I (pl))), (3, .int (I (r))), (4, .int (I (d)))] [] := by
    intro fu
    induction fu with
    | zero => intro r d hinv hm; exact absurd hm (Nat.not_lt_zero _)
    | succ fu ih_14 =>
      intro r d hinv_14 hm_14
      obtain ⟨hd, hg, hr0⟩ := hinv_14
      refine tm_iload 4 hC dX6_gradeAt_14 rfl ?_
      refine tm_aload_n 0 hC dX6_gradeAt_16 rfl rfl ?_
      refine tm_getf2 hC f_X6_60 hm0 rfl dX6_gradeAt_17 ?_
      refine tm_icmp_ge 89 hC dX6_gradeAt_20 (by decide) (by omega) (fun c_20 => ?_) (fun c_20 => ?_)
      · refine tm_iload_n 3 hC dX6_gradeAt_89 rfl rfl ?_
        exact tm_iret hC hR dX6_gradeAt_90 (⟨rfl, r, rfl, isGr_of hg (by omega) (by omega), hr0⟩)
      · have hd9 := wf_d hw d (by omega)
        refine tm_aload_n 0 hC dX6_gradeAt_23 rfl rfl ?_
        refine tm_getf2 hC f_X6_13 hm0 rfl dX6_gradeAt_24 ?_
        refine tm_iconst hC dX6_gradeAt_27 ?_
        refine tm_iload 4 hC dX6_gradeAt_28 rfl ?_
        refine tm_imul hC dX6_gradeAt_30 ?_
        refine tm_iald2 hC hm2 (by omega) dX6_gradeAt_31 ?_
        refine tm_iload_n 1 hC dX6_gradeAt_32 rfl rfl ?_
        refine tm_icmp_ne 83 hC dX6_gradeAt_33 (by decide) (by omega) (fun c_33 => ?_) (fun c_33 => ?_)
        · refine tm_iinc 4 [(4, .int (I (d + 1))), (0, .ref (ρ 0)), (1, .int (I (b))), (2, .int (I (pl))), (3, .int (I (r)))] hC dX6_gradeAt_83 rfl (by rw [hB.2.1]; exact Nat.le_of_ble_eq_true rfl) rfl ?_
          refine tm_goto 14 hC dX6_gradeAt_86 (by decide) ?_
          refine tm_sub (L' := [(0, .ref (ρ 0)), (1, .int (I (b))), (2, .int (I (pl))), (3, .int (I (r))), (4, .int (I (d + 1)))]) [1, 2, 3, 4, 0] rfl ?_
          exact ih_14  r (d + 1) (⟨by omega, isGrN_skip hg (fun e _ _ => c_33 e), by omega, by omega⟩) (by omega)
        · refine tm_iload_n 2 hC dX6_gradeAt_36 rfl rfl ?_
          refine tm_aload_n 0 hC dX6_gradeAt_37 rfl rfl ?_
          refine tm_getf2 hC f_X6_13 hm0 rfl dX6_gradeAt_38 ?_
          refine tm_iconst hC dX6_gradeAt_41 ?_
          refine tm_iload 4 hC dX6_gradeAt_42 rfl ?_
          refine tm_imul hC dX6_gradeAt_44 ?_
          refine tm_iconst hC dX6_gradeAt_45 ?_
          refine tm_iadd hC dX6_gradeAt_46 ?_
          refine tm_iald2 hC hm2 (by omega) dX6_gradeAt_47 ?_
          refine tm_aload_n 0 hC dX6_gradeAt_48 rfl rfl ?_
          refine tm_getf2 hC f_X6_13 hm0 rfl dX6_gradeAt_49 ?_
          refine tm_iconst hC dX6_gradeAt_52 ?_
          refine tm_iload 4 hC dX6_gradeAt_53 rfl ?_
          refine tm_imul hC dX6_gradeAt_55 ?_
          refine tm_iconst hC dX6_gradeAt_56 ?_
          refine tm_iadd hC dX6_gradeAt_57 ?_
          refine tm_iald2 hC hm2 (by omega) dX6_gradeAt_58 ?_
          refine tm_iconst hC dX6_gradeAt_59 ?_
          refine tm_isub hC dX6_gradeAt_60 ?_
          refine tm_callS (b := 0) (n := 0) (rest := []) hC (c_M_isIn (tm_g x) hst _ Λ pl ((s_fl σ) ((4 * d) + 1)) (((s_fl σ) ((4 * d) + 2)) - 1) (by omega)) k_X6_42 (by rw [hB.2.2.1]; exact ⟨Nat.le_of_ble_eq_true rfl, Nat.le_of_ble_eq_true rfl⟩) rfl rfl (by decide) dX6_gradeAt_61 (fun v_61 w_61 hp_61 => ?_)
          obtain ⟨rfl, rfl⟩ := hp_61
          show tm_V x (tm_H x Λ) 0 0 64 [(0, .ref (ρ 0)), (1, .int (I (b))), (2, .int (I (pl))), (3, .int (I (r))), (4, .int (I (d)))] [.int (I (bi (((s_fl σ) ((4 * d) + 1)) ≤ pl ∧ pl ≤ (((s_fl σ) ((4 * d) + 2)) - 1))))]
          refine tm_ifb_eq 83 hC dX6_gradeAt_64 (by decide) (fun c_64 => ?_) (fun c_64 => ?_)
          · refine tm_iinc 4 [(4, .int (I (d + 1))), (0, .ref (ρ 0)), (1, .int (I (b))), (2, .int (I (pl))), (3, .int (I (r)))] hC dX6_gradeAt_83 rfl (by rw [hB.2.1]; exact Nat.le_of_ble_eq_true rfl) rfl ?_
            refine tm_goto 14 hC dX6_gradeAt_86 (by decide) ?_
            refine tm_sub (L' := [(0, .ref (ρ 0)), (1, .int (I (b))), (2, .int (I (pl))), (3, .int (I (r))), (4, .int (I (d + 1)))]) [1, 2, 3, 4, 0] rfl ?_
            exact ih_14  r (d + 1) (⟨by omega, isGrN_skip hg (fun e1 e2 e3 => c_64 ⟨e2, by omega⟩), by omega, by omega⟩) (by omega)
          · refine tm_iload_n 3 hC dX6_gradeAt_67 rfl rfl ?_
            refine tm_aload_n 0 hC dX6_gradeAt_68 rfl rfl ?_
            refine tm_getf2 hC f_X6_13 hm0 rfl dX6_gradeAt_69 ?_
            refine tm_iconst hC dX6_gradeAt_72 ?_
            refine tm_iload 4 hC dX6_gradeAt_73 rfl ?_
            refine tm_imul hC dX6_gradeAt_75 ?_
            refine tm_iconst hC dX6_gradeAt_76 ?_
            refine tm_iadd hC dX6_gradeAt_77 ?_
            refine tm_iald2 hC hm2 (by omega) dX6_gradeAt_78 ?_
            refine tm_mm hC true x_X6_83 (by omega) (by rw [hB.2.2.1]; exact ⟨Nat.le_of_ble_eq_true rfl, Nat.le_of_ble_eq_true rfl⟩) ((by decide)) dX6_gradeAt_79 ?_
            show tm_V x (tm_H x Λ) 0 0 82 [(0, .ref (ρ 0)), (1, .int (I (b))), (2, .int (I (pl))), (3, .int (I (r))), (4, .int (I (d)))] [.int (I (max r ((s_fl σ) ((4 * d) + 3))))]
            refine tm_istore_n [(3, .int (I (max r ((s_fl σ) ((4 * d) + 3))))), (0, .ref (ρ 0)), (1, .int (I (b))), (2, .int (I (pl))), (4, .int (I (d)))] hC dX6_gradeAt_82 rfl (by rw [hB.2.1]; exact Nat.le_of_ble_eq_true rfl) rfl ?_
            refine tm_iinc 4 [(4, .int (I (d + 1))), (3, .int (I (max r ((s_fl σ) ((4 * d) + 3))))), (0, .ref (ρ 0)), (1, .int (I (b))), (2, .int (I (pl)))] hC dX6_gradeAt_83 rfl (by rw [hB.2.1]; exact Nat.le_of_ble_eq_true rfl) rfl ?_
            refine tm_goto 14 hC dX6_gradeAt_86 (by decide) ?_
            refine tm_sub (L' := [(0, .ref (ρ 0)), (1, .int (I (b))), (2, .int (I (pl))), (3, .int (I (max r ((s_fl σ) ((4 * d) + 3))))), (4, .int (I (d + 1)))]) [2, 3, 4, 1, 0] rfl ?_
            exact ih_14  (max r ((s_fl σ) ((4 * d) + 3))) (d + 1) (⟨by omega, isGrN_take (by omega) hg c_33 c_64.1 (by omega), by omega, by omega⟩) (by omega)
  refine tm_sub (L' := [(0, .ref (ρ 0)), (1, .int (I (b))), (2, .int (I (pl))), (3, .int (I ((s_wo σ) ((3 * b) + 2)))), (4, .int (I (0)))]) [2, 3, 4, 1, 0] rfl ?_
  exact hL_14 _ ((s_wo σ) ((3 * b) + 2)) 0 (⟨by omega, ⟨by omega, fun d h => by omega, Or.inl rfl⟩, by omega, by omega⟩) (Nat.lt_succ_self _)

/-- the least change behind a place -/
def isNxN (σ : ST) (b fr n r : Int) : Prop := r ≤ s_wo σ (3 * b) ∧ fr < r ∧ (∀ d, 0 ≤ d ∧ d < n → s_fl σ (4 * d) = b → (fr < s_fl σ (4 * d + 1) → r ≤ s_fl σ (4 * d + 1)) ∧ (fr < s_fl σ (4 * d + 2) → r ≤ s_fl σ (4 * d + 2))) ∧ (r = s_wo σ (3 * b) ∨ ∃ d, (0 ≤ d ∧ d < n) ∧ s_fl σ (4 * d) = b ∧ (s_fl σ (4 * d + 1) = r ∨ s_fl σ (4 * d + 2) = r))
theorem isNxN_skip {σ : ST} {b fr n r : Int} (h : isNxN σ b fr n r) (hn : ¬ s_fl σ (4 * n) = b) : isNxN σ b fr (n + 1) r := by
  obtain ⟨h1, h2, h3, h4⟩ := h
  refine ⟨h1, h2, fun d hd e => ?_, ?_⟩
  · by_cases hdn : d = n
    · subst hdn; exact absurd e hn
    · exact h3 d (by omega) e
  · rcases h4 with h4 | ⟨d, hd, e⟩
    · exact Or.inl h4
    · exact Or.inr ⟨d, by omega, e⟩
theorem isNxN_take {σ : ST} {b fr n r r' : Int} (h0 : 0 ≤ n) (h : isNxN σ b fr n r) (he : s_fl σ (4 * n) = b) (h1 : r' ≤ r) (h2 : fr < r') (h3 : (fr < s_fl σ (4 * n + 1) → r' ≤ s_fl σ (4 * n + 1)) ∧ (fr < s_fl σ (4 * n + 2) → r' ≤ s_fl σ (4 * n + 2))) (h5 : r' = r ∨ r' = s_fl σ (4 * n + 1) ∨ r' = s_fl σ (4 * n + 2)) : isNxN σ b fr (n + 1) r' := by
  obtain ⟨g1, g2, g3, g4⟩ := h
  refine ⟨by omega, h2, fun d hd e => ?_, ?_⟩
  · by_cases hdn : d = n
    · subst hdn; exact h3
    · have := g3 d (by omega) e; omega
  · rcases h5 with h5 | h5 | h5
    · rcases g4 with g4 | ⟨d, hd, e1, e2⟩
      · exact Or.inl (by omega)
      · exact Or.inr ⟨d, by omega, e1, by omega⟩
    · exact Or.inr ⟨n, by omega, he, Or.inl h5.symm⟩
    · exact Or.inr ⟨n, by omega, he, Or.inr h5.symm⟩
theorem isNx_of {σ : ST} {b fr d r : Int} (h : isNxN σ b fr d r) (e : s_nd σ ≤ d) (e2 : d ≤ s_nd σ) : isNxN σ b fr (s_nd σ) r := by
  have e3 : d = s_nd σ := by omega
  subst e3
  exact h
theorem isNx_u {σ : ST} {b fr n r r' : Int} (h : isNxN σ b fr n r) (h' : isNxN σ b fr n r') : r = r' := by
  obtain ⟨h1, h2, h3, h4⟩ := h
  obtain ⟨g1, g2, g3, g4⟩ := h'
  have a1 : r ≤ r' := by
    rcases g4 with e | ⟨d, hd, e1, e2⟩
    · omega
    · have := h3 d hd e1; omega
  have a2 : r' ≤ r := by
    rcases h4 with e | ⟨d, hd, e1, e2⟩
    · omega
    · have := g3 d hd e1; omega
  omega

set_option maxHeartbeats 4000000 in
set_option maxRecDepth 100000 in
theorem c_M_nextChange (γ : tmG) (hst : γ.1.stackTraces = false) (Λ : tmL) (ρ : Nat → Nat) (th sf se : Int) (σ : ST) (hM : RM γ.2.2.1 Λ ρ th sf se σ) (hw : WF0 σ) (b : Int) (hb : 0 ≤ b ∧ b < s_nb σ) (fr : Int) (hfr : 0 ≤ fr ∧ fr < s_wo σ (3 * b)) : tm_Con γ (tm_h2 γ.2.1 γ.2.2.1 γ.2.2.2.1) M_X6_nextChange 2 0 0 [.ref (ρ 0), .int (I (b)), .int (I (fr))] Λ (fun v w' => Λ = w' ∧ ∃ r, v = some (.int (I r)) ∧ isNxN σ b fr (s_nd σ) r ∧ fr < r ∧ r ≤ 3000) := by
  refine tm_con hst (by decide) (Nat.le_of_ble_eq_true rfl) (fun x hB hR => ?_)
  have hg := hB.1
  subst hg
  have hC : tm_C x cX6_nextChange RX6 (some FieldType.int) := hB.2.2.2.1
  obtain ⟨hm0, hm1, hm2, hm3, hm4, hm5, hm6, hmd⟩ := id hM
  have hn := wf_n hw
  show tm_V x (tm_H x Λ) 0 0 0 [(0, .ref (ρ 0)), (1, .int (I (b))), (2, .int (I (fr)))] []
  refine tm_aload_n 0 hC dX6_nextChange_0 rfl rfl ?_
  refine tm_iload_n 1 hC dX6_nextChange_1 rfl rfl ?_
  refine tm_callV (b := 0) (n := 0) (rest := []) hC (c_M_length (tm_g x) hst Λ ρ th sf se σ hM hw b (by omega) ) k_X6_57 (by rw [hB.2.2.1]; exact ⟨Nat.le_of_ble_eq_true rfl, Nat.le_of_ble_eq_true rfl⟩) rfl (tm_rec2 hC hm0 rfl) rfl (by decide) dX6_nextChange_2 (fun v_2 w_2 hp_2 => ?_)
  obtain ⟨rfl, rfl, hb_2⟩ := hp_2
  show tm_V x (tm_H x Λ) 0 0 5 [(0, .ref (ρ 0)), (1, .int (I (b))), (2, .int (I (fr)))] [.int (I (s_wo σ (3 * b)))]
  refine tm_istore_n [(3, .int (I (s_wo σ (3 * b)))), (0, .ref (ρ 0)), (1, .int (I (b))), (2, .int (I (fr)))] hC dX6_nextChange_5 rfl (by rw [hB.2.1]; exact Nat.le_of_ble_eq_true rfl) rfl ?_
  refine tm_iconst hC dX6_nextChange_6 ?_
  refine tm_istore [(4, .int (I (0))), (3, .int (I (s_wo σ (3 * b)))), (0, .ref (ρ 0)), (1, .int (I (b))), (2, .int (I (fr)))] hC dX6_nextChange_7 (by rw [hB.2.1]; exact Nat.le_of_ble_eq_true rfl) rfl ?_
  have hL_9 : ∀ (fu : Nat) (r : Int) (d : Int), ((0 ≤ d ∧ d ≤ s_nd σ) ∧ isNxN σ b fr d r ∧ fr < r ∧ r ≤ 3000) → ((s_nd σ - d).toNat) < fu → tm_V x (tm_H x Λ) 0 0 9 [(0, .ref (ρ 0)), (1, .int (I (b))), (2, .int (I (fr))), (3, .int (I (r))), (4, .int (I (d)))] [] := by
    intro fu
    induction fu with
    | zero => intro r d hinv hm; exact absurd hm (Nat.not_lt_zero _)
    | succ fu ih_9 =>
      intro r d hinv_9 hm_9
      obtain ⟨hd, hg, hr0⟩ := hinv_9
      refine tm_iload 4 hC dX6_nextChange_9 rfl ?_
      refine tm_aload_n 0 hC dX6_nextChange_11 rfl rfl ?_
      refine tm_getf2 hC f_X6_60 hm0 rfl dX6_nextChange_12 ?_
      refine tm_icmp_ge 102 hC dX6_nextChange_15 (by decide) (by omega) (fun c_15 => ?_) (fun c_15 => ?_)
      · refine tm_iload_n 3 hC dX6_nextChange_102 rfl rfl ?_
        exact tm_iret hC hR dX6_nextChange_103 (⟨rfl, r, rfl, isNx_of hg (by omega) (by omega), hr0⟩)
      · have hd9 := wf_d hw d (by omega)
        refine tm_aload_n 0 hC dX6_nextChange_18 rfl rfl ?_
        refine tm_getf2 hC f_X6_13 hm0 rfl dX6_nextChange_19 ?_
        refine tm_iconst hC dX6_nextChange_22 ?_
        refine tm_iload 4 hC dX6_nextChange_23 rfl ?_
        refine tm_imul hC dX6_nextChange_25 ?_
        refine tm_iald2 hC hm2 (by omega) dX6_nextChange_26 ?_
        refine tm_iload_n 1 hC dX6_nextChange_27 rfl rfl ?_
        refine tm_icmp_eq 34 hC dX6_nextChange_28 (by decide) (by omega) (fun c_28 => ?_) (fun c_28 => ?_)
        · refine tm_aload_n 0 hC dX6_nextChange_34 rfl rfl ?_
          refine tm_getf2 hC f_X6_13 hm0 rfl dX6_nextChange_35 ?_
          refine tm_iconst hC dX6_nextChange_38 ?_
          refine tm_iload 4 hC dX6_nextChange_39 rfl ?_
          refine tm_imul hC dX6_nextChange_41 ?_
          refine tm_iconst hC dX6_nextChange_42 ?_
          refine tm_iadd hC dX6_nextChange_43 ?_
          refine tm_iald2 hC hm2 (by omega) dX6_nextChange_44 ?_
          refine tm_iload_n 2 hC dX6_nextChange_45 rfl rfl ?_
          refine tm_icmp_le 65 hC dX6_nextChange_46 (by decide) (by omega) (fun c_46 => ?_) (fun c_46 => ?_)
          · refine tm_aload_n 0 hC dX6_nextChange_65 rfl rfl ?_
            refine tm_getf2 hC f_X6_13 hm0 rfl dX6_nextChange_66 ?_
            refine tm_iconst hC dX6_nextChange_69 ?_
            refine tm_iload 4 hC dX6_nextChange_70 rfl ?_
            refine tm_imul hC dX6_nextChange_72 ?_
            refine tm_iconst hC dX6_nextChange_73 ?_
            refine tm_iadd hC dX6_nextChange_74 ?_
            refine tm_iald2 hC hm2 (by omega) dX6_nextChange_75 ?_
            refine tm_iload_n 2 hC dX6_nextChange_76 rfl rfl ?_
            refine tm_icmp_le 96 hC dX6_nextChange_77 (by decide) (by omega) (fun c_77 => ?_) (fun c_77 => ?_)
            · refine tm_iinc 4 [(4, .int (I (d + 1))), (0, .ref (ρ 0)), (1, .int (I (b))), (2, .int (I (fr))), (3, .int (I (r)))] hC dX6_nextChange_96 rfl (by rw [hB.2.1]; exact Nat.le_of_ble_eq_true rfl) rfl ?_
              refine tm_goto 9 hC dX6_nextChange_99 (by decide) ?_
              refine tm_sub (L' := [(0, .ref (ρ 0)), (1, .int (I (b))), (2, .int (I (fr))), (3, .int (I (r))), (4, .int (I (d + 1)))]) [1, 2, 3, 4, 0] rfl ?_
              exact ih_9  r (d + 1) (⟨by omega, isNxN_take (by omega) hg c_28 (by omega) (by omega) ⟨by omega, by omega⟩ (by omega), by omega⟩) (by omega)
            · refine tm_iload_n 3 hC dX6_nextChange_80 rfl rfl ?_
              refine tm_aload_n 0 hC dX6_nextChange_81 rfl rfl ?_
              refine tm_getf2 hC f_X6_13 hm0 rfl dX6_nextChange_82 ?_
              refine tm_iconst hC dX6_nextChange_85 ?_
              refine tm_iload 4 hC dX6_nextChange_86 rfl ?_
              refine tm_imul hC dX6_nextChange_88 ?_
              refine tm_iconst hC dX6_nextChange_89 ?_
              refine tm_iadd hC dX6_nextChange_90 ?_
              refine tm_iald2 hC hm2 (by omega) dX6_nextChange_91 ?_
              refine tm_mm hC false x_X6_91 (by omega) (by rw [hB.2.2.1]; exact ⟨Nat.le_of_ble_eq_true rfl, Nat.le_of_ble_eq_true rfl⟩) ((by decide)) dX6_nextChange_92 ?_
              show tm_V x (tm_H x Λ) 0 0 95 [(0, .ref (ρ 0)), (1, .int (I (b))), (2, .int (I (fr))), (3, .int (I (r))), (4, .int (I (d)))] [.int (I (min r ((s_fl σ) ((4 * d) + 2))))]
              refine tm_istore_n [(3, .int (I (min r ((s_fl σ) ((4 * d) + 2))))), (0, .ref (ρ 0)), (1, .int (I (b))), (2, .int (I (fr))), (4, .int (I (d)))] hC dX6_nextChange_95 rfl (by rw [hB.2.1]; exact Nat.le_of_ble_eq_true rfl) rfl ?_
              refine tm_iinc 4 [(4, .int (I (d + 1))), (3, .int (I (min r ((s_fl σ) ((4 * d) + 2))))), (0, .ref (ρ 0)), (1, .int (I (b))), (2, .int (I (fr)))] hC dX6_nextChange_96 rfl (by rw [hB.2.1]; exact Nat.le_of_ble_eq_true rfl) rfl ?_
              refine tm_goto 9 hC dX6_nextChange_99 (by decide) ?_
              refine tm_sub (L' := [(0, .ref (ρ 0)), (1, .int (I (b))), (2, .int (I (fr))), (3, .int (I (min r ((s_fl σ) ((4 * d) + 2))))), (4, .int (I (d + 1)))]) [2, 3, 4, 1, 0] rfl ?_
              exact ih_9  (min r ((s_fl σ) ((4 * d) + 2))) (d + 1) (⟨by omega, isNxN_take (by omega) hg c_28 (by omega) (by omega) ⟨by omega, by omega⟩ (by omega), by omega⟩) (by omega)
          · refine tm_iload_n 3 hC dX6_nextChange_49 rfl rfl ?_
            refine tm_aload_n 0 hC dX6_nextChange_50 rfl rfl ?_
            refine tm_getf2 hC f_X6_13 hm0 rfl dX6_nextChange_51 ?_
            refine tm_iconst hC dX6_nextChange_54 ?_
            refine tm_iload 4 hC dX6_nextChange_55 rfl ?_
            refine tm_imul hC dX6_nextChange_57 ?_
            refine tm_iconst hC dX6_nextChange_58 ?_
            refine tm_iadd hC dX6_nextChange_59 ?_
            refine tm_iald2 hC hm2 (by omega) dX6_nextChange_60 ?_
            refine tm_mm hC false x_X6_91 (by omega) (by rw [hB.2.2.1]; exact ⟨Nat.le_of_ble_eq_true rfl, Nat.le_of_ble_eq_true rfl⟩) ((by decide)) dX6_nextChange_61 ?_
            show tm_V x (tm_H x Λ) 0 0 64 [(0, .ref (ρ 0)), (1, .int (I (b))), (2, .int (I (fr))), (3, .int (I (r))), (4, .int (I (d)))] [.int (I (min r ((s_fl σ) ((4 * d) + 1))))]
            refine tm_istore_n [(3, .int (I (min r ((s_fl σ) ((4 * d) + 1))))), (0, .ref (ρ 0)), (1, .int (I (b))), (2, .int (I (fr))), (4, .int (I (d)))] hC dX6_nextChange_64 rfl (by rw [hB.2.1]; exact Nat.le_of_ble_eq_true rfl) rfl ?_
            refine tm_aload_n 1 hC dX6_nextChange_65 rfl rfl ?_
            refine tm_getf2 hC f_X6_13 hm0 rfl dX6_nextChange_66 ?_
            refine tm_iconst hC dX6_nextChange_69 ?_
            refine tm_iload 4 hC dX6_nextChange_70 rfl ?_
            refine tm_imul hC dX6_nextChange_72 ?_
            refine tm_iconst hC dX6_nextChange_73 ?_
            refine tm_iadd hC dX6_nextChange_74 ?_
            refine tm_iald2 hC hm2 (by omega) dX6_nextChange_75 ?_
            refine tm_iload_n 3 hC dX6_nextChange_76 rfl rfl ?_
            refine tm_icmp_le 96 hC dX6_nextChange_77 (by decide) (by omega) (fun c_77 => ?_) (fun c_77 => ?_)
            · refine tm_iinc 4 [(4, .int (I (d + 1))), (3, .int (I (min r ((s_fl σ) ((4 * d) + 1))))), (0, .ref (ρ 0)), (1, .int (I (b))), (2, .int (I (fr)))] hC dX6_nextChange_96 rfl (by rw [hB.2.1]; exact Nat.le_of_ble_eq_true rfl) rfl ?_
              refine tm_goto 9 hC dX6_nextChange_99 (by decide) ?_
              refine tm_sub (L' := [(0, .ref (ρ 0)), (1, .int (I (b))), (2, .int (I (fr))), (3, .int (I (min r ((s_fl σ) ((4 * d) + 1))))), (4, .int (I (d + 1)))]) [2, 3, 4, 1, 0] rfl ?_
              exact ih_9  (min r ((s_fl σ) ((4 * d) + 1))) (d + 1) (⟨by omega, isNxN_take (by omega) hg c_28 (by omega) (by omega) ⟨by omega, by omega⟩ (by omega), by omega⟩) (by omega)
            · refine tm_iload_n 0 hC dX6_nextChange_80 rfl rfl ?_
              refine tm_aload_n 1 hC dX6_nextChange_81 rfl rfl ?_
              refine tm_getf2 hC f_X6_13 hm0 rfl dX6_nextChange_82 ?_
              refine tm_iconst hC dX6_nextChange_85 ?_
              refine tm_iload 4 hC dX6_nextChange_86 rfl ?_
              refine tm_imul hC dX6_nextChange_88 ?_
              refine tm_iconst hC dX6_nextChange_89 ?_
              refine tm_iadd hC dX6_nextChange_90 ?_
              refine tm_iald2 hC hm2 (by omega) dX6_nextChange_91 ?_
              refine tm_mm hC false x_X6_91 (by omega) (by rw [hB.2.2.1]; exact ⟨Nat.le_of_ble_eq_true rfl, Nat.le_of_ble_eq_true rfl⟩) ((by decide)) dX6_nextChange_92 ?_
              show tm_V x (tm_H x Λ) 0 0 95 [(3, .int (I (min r ((s_fl σ) ((4 * d) + 1))))), (0, .ref (ρ 0)), (1, .int (I (b))), (2, .int (I (fr))), (4, .int (I (d)))] [.int (I (min (min r ((s_fl σ) ((4 * d) + 1))) ((s_fl σ) ((4 * d) + 2))))]
              refine tm_istore_n [(3, .int (I (min (min r ((s_fl σ) ((4 * d) + 1))) ((s_fl σ) ((4 * d) + 2))))), (0, .ref (ρ 0)), (1, .int (I (b))), (2, .int (I (fr))), (4, .int (I (d)))] hC dX6_nextChange_95 rfl (by rw [hB.2.1]; exact Nat.le_of_ble_eq_true rfl) rfl ?_
              refine tm_iinc 4 [(4, .int (I (d + 1))), (3, .int (I (min (min r ((s_fl σ) ((4 * d) + 1))) ((s_fl σ) ((4 * d) + 2))))), (0, .ref (ρ 0)), (1, .int (I (b))), (2, .int (I (fr)))] hC dX6_nextChange_96 rfl (by rw [hB.2.1]; exact Nat.le_of_ble_eq_true rfl) rfl ?_
              refine tm_goto 9 hC dX6_nextChange_99 (by decide) ?_
              refine tm_sub (L' := [(0, .ref (ρ 0)), (1, .int (I (b))), (2, .int (I (fr))), (3, .int (I (min (min r ((s_fl σ) ((4 * d) + 1))) ((s_fl σ) ((4 * d) + 2))))), (4, .int (I (d + 1)))]) [2, 3, 4, 1, 0] rfl ?_
              exact ih_9  (min (min r ((s_fl σ) ((4 * d) + 1))) ((s_fl σ) ((4 * d) + 2))) (d + 1) (⟨by omega, isNxN_take (by omega) hg c_28 (by omega) (by omega) ⟨by omega, by omega⟩ (by omega), by omega⟩) (by omega)
        · refine tm_goto 96 hC dX6_nextChange_31 (by decide) ?_
          refine tm_iinc 4 [(4, .int (I (d + 1))), (0, .ref (ρ 0)), (1, .int (I (b))), (2, .int (I (fr))), (3, .int (I (r)))] hC dX6_nextChange_96 rfl (by rw [hB.2.1]; exact Nat.le_of_ble_eq_true rfl) rfl ?_
          refine tm_goto 9 hC dX6_nextChange_99 (by decide) ?_
          refine tm_sub (L' := [(0, .ref (ρ 0)), (1, .int (I (b))), (2, .int (I (fr))), (3, .int (I (r))), (4, .int (I (d + 1)))]) [1, 2, 3, 4, 0] rfl ?_
          exact ih_9  r (d + 1) (⟨by omega, isNxN_skip hg c_28, by omega⟩) (by omega)
  refine tm_sub (L' := [(0, .ref (ρ 0)), (1, .int (I (b))), (2, .int (I (fr))), (3, .int (I (s_wo σ (3 * b)))), (4, .int (I (0)))]) [2, 3, 4, 1, 0] rfl ?_
  exact hL_9 _ (s_wo σ (3 * b)) 0 (⟨by omega, ⟨by omega, by omega, fun d h => by omega, Or.inl rfl⟩, by omega⟩) (Nat.lt_succ_self _)
