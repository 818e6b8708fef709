set_option maxHeartbeats 4000000 in
set_option maxRecDepth 100000 in
theorem c_T_take1 (γ : tmG) (hst : γ.1.stackTraces = false) (Λ : tmL) (κ : KP) (σ : ST) (hM : RC γ.2.2.1 Λ κ σ) (hw : WF0 σ) (p : Int) (hp : 0 ≤ p ∧ p < s_np σ) (b : Int) (hb : 0 ≤ b ∧ b < s_nb σ) (pl ln : Int) (hl : 1 ≤ ln) (hm : s_nm σ < 216) (hP : Poss σ p ln b pl) (hlf : 1 ≤ s_wa σ (4 * p + 3)) (hG : grp (s_aj σ) (s_cu σ) (k_cs κ) 0 (s_nm σ)) (cc q : Nat) (hcc : Λ cc = some (.inl (.inr (2, [.ref (k_pa κ p), .ref q, .null])))) (hq : Λ q = some (.inl (.inr (5, [.ref (k_pa κ p), .ref (k_bo κ b), .int (I pl), .int (I (pl + ln)), .int (I 0)])))) (hnq : ∀ k, 0 ≤ k ∧ k < s_nm σ → k_pc κ k ≠ q) : tm_Con γ (tm_h2 γ.2.1 γ.2.2.1 γ.2.2.2.1) M_X5_takeFromBoards 9 2 800 [.ref (k_o κ), .ref (cc)] Λ (fun v w' => (∃ i9, RC γ.2.2.1 w' (kCut (kIns κ b (s_nm σ) q i9) cc (s_nm σ)) (less (addC σ p b pl ln 0) p) ∧ grp (s_aj (addC σ p b pl ln 0)) (s_cu (addC σ p b pl ln 0)) (k_cs κ ++ [s_nm σ]) 0 (s_nm σ + 1)) ∧ v = none) := by
  refine tm_con hst (by decide) (Nat.le_of_ble_eq_true rfl) (fun x hB hR => ?_)
  have hg := hB.1
  subst hg
  have hC : tm_C x cX5_takeFromBoards RX5 (none) := hB.2.2.2.1
  have hn := wf_n hw
  have hp9 := wf_p hw p hp
  have hb9 := wf_b hw b hb
  have hp0 := hP.1
  have hp1 := hP.2.1
  have hgl := grp_le _ _ _ hG
  have hcl := (rc_cu hM).2.1
  have hg1 : grp (s_aj (addC σ p b pl ln 0)) (s_cu (addC σ p b pl ln 0)) (k_cs κ ++ [s_nm σ]) 0 (s_nm σ + 1) := grp_snoc1 (addC_an (σ := σ) (p := p) (b := b) (pl := pl) (len := ln) (j := 0)) (k_cs κ) 0 (grp_congr (k_cs κ) 0 _ (fun z z1 z2 => ⟨(addC_a z2).symm, (addC_old (by omega)).symm⟩) hG)
  show tm_V x (tm_H x Λ) 2 800 0 [(0, .ref (k_o κ)), (1, .ref (cc))] []
  refine tm_aload_n 1 hC dX5_takeFromBoards_0 rfl rfl ?_
  refine tm_getf2 hC f_X5_211 hcc rfl dX5_takeFromBoards_1 ?_
  refine tm_getf2 hC f_X5_215 hq rfl dX5_takeFromBoards_4 ?_
  refine tm_aload_n 1 hC dX5_takeFromBoards_7 rfl rfl ?_
  refine tm_getf2 hC f_X5_211 hcc rfl dX5_takeFromBoards_8 ?_
  refine tm_less (b' := 1 + 1) (n' := 400 + 400) ⟨by omega, by omega⟩ ?_
  refine tm_callVN (b := 1) (n := 400) (rest := []) hC (c_B_insP (tm_g x) hst _ κ σ hM hw b hb q _ _ pl (pl + ln) 0 hq (by omega)) k_X5_307 (by rw [hB.2.2.1]; exact ⟨Nat.le_of_ble_eq_true rfl, Nat.le_of_ble_eq_true rfl⟩) rfl (tm_rec2 hC (rc_B hM b hb) rfl) rfl (by decide) dX5_takeFromBoards_11 (fun v_11 w_11 hp_11 => ?_)
  obtain ⟨i9, hi9, hwi9, hu9, hv9, rfl⟩ := hp_11
  have hRC1 : RC (tm_T x) w_11 (kIns κ b (s_nm σ) q i9) (addC σ p b pl ln 0) := by rw [← hwi9]; exact RC_ins hM hw hp hb hl (Or.inl rfl) hm hP hq hnq hu9 hv9
  have hcc1 : w_11 cc = some (.inl (.inr (2, [.ref (k_pa κ p), .ref q, .null]))) := by rw [← hwi9, tm_ul_n (fun z => by rw [z, rc_bp hM b hb] at hcc; cases hcc)]; exact hcc
  have hpa1 : w_11 (k_pa κ p) = some (.inl (.inr (4, fP (addC σ p b pl ln 0) p))) := rc_P hRC1 p hp
  show tm_V x (tm_H x w_11) 1 400 14 [(0, .ref (k_o κ)), (1, .ref (cc))] []
  refine tm_aload_n 1 hC dX5_takeFromBoards_14 rfl rfl ?_
  refine tm_getf2 hC f_X5_223 hcc1 rfl dX5_takeFromBoards_15 ?_
  refine tm_ifnullN 35 hC dX5_takeFromBoards_18 (by decide) ?_
  refine tm_aload_n 1 hC dX5_takeFromBoards_35 rfl rfl ?_
  refine tm_getf2 hC f_X5_226 hcc1 rfl dX5_takeFromBoards_36 ?_
  refine tm_dup hC dX5_takeFromBoards_39 rfl ?_
  refine tm_getf2 hC f_X5_159 hpa1 rfl dX5_takeFromBoards_40 ?_
  refine tm_iconst hC dX5_takeFromBoards_43 ?_
  refine tm_isub hC dX5_takeFromBoards_44 ?_
  refine tm_putf2 hC f_X5_159 hpa1 (tt_4_5 _) (Nat.le_of_ble_eq_true rfl) dX5_takeFromBoards_45 ?_
  obtain ⟨w1, hw2⟩ : ∃ z, z = tm_u2 w_11 (k_pa κ p) (.inr (4, [.int (I (p)), .int (I (s_wa (addC σ p b pl ln 0) (4 * p + 0))), .int (I (s_wa (addC σ p b pl ln 0) (4 * p + 1))), .int (I (s_wa (addC σ p b pl ln 0) (4 * p + 2))), .int (I (s_mj (addC σ p b pl ln 0) p)), .int (I ((s_wa (addC σ p b pl ln 0) (4 * p + 3)) - 1))])) := ⟨_, rfl⟩
  show tm_V x (tm_H x (tm_u2 w_11 (k_pa κ p) (.inr (4, [.int (I (p)), .int (I (s_wa (addC σ p b pl ln 0) (4 * p + 0))), .int (I (s_wa (addC σ p b pl ln 0) (4 * p + 1))), .int (I (s_wa (addC σ p b pl ln 0) (4 * p + 2))), .int (I (s_mj (addC σ p b pl ln 0) p)), .int (I ((s_wa (addC σ p b pl ln 0) (4 * p + 3)) - 1))])))) 1 400 48 [(0, .ref (k_o κ)), (1, .ref (cc))] []
  rw [← hw2]
  have hw1_k_pa_κ_p : w1 (k_pa κ p) = some (.inl (.inr (4, [.int (I (p)), .int (I (s_wa (addC σ p b pl ln 0) (4 * p + 0))), .int (I (s_wa (addC σ p b pl ln 0) (4 * p + 1))), .int (I (s_wa (addC σ p b pl ln 0) (4 * p + 2))), .int (I (s_mj (addC σ p b pl ln 0) p)), .int (I ((s_wa (addC σ p b pl ln 0) (4 * p + 3)) - 1))]))) := by rw [hw2]; first | done | exact tm_u2_s
  have hw1_cc := (show w1 cc = _ by rw [hw2]; exact tm_u2_n (fun z => absurd (hpa1.symm.trans (z ▸ hcc1)) (by intro q; cases q))).trans hcc1
  have hRC2 : RC (tm_T x) w1 (kIns κ b (s_nm σ) q i9) (setL (addC σ p b pl ln 0) p (s_wa (addC σ p b pl ln 0) (4 * p + 3) - 1)) := by rw [hw2]; exact RC_left hRC1 hp
  refine tm_aload_n 0 hC dX5_takeFromBoards_48 rfl rfl ?_
  have hx3 := rc_o hRC2
  refine tm_getf2 hC f_X5_22 hx3 rfl dX5_takeFromBoards_49 ?_
  refine tm_aload_n 1 hC dX5_takeFromBoards_52 rfl rfl ?_
  have hcc9 := hw1_cc
  refine tm_less (b' := 1 + 0) (n' := 400 + 0) ⟨by omega, by omega⟩ ?_
  refine tm_callV (b := 0) (n := 0) (rest := []) hC (c_Ladd (tm_g x) hst _ _ cc _ (rc_lc hRC2) (el2_o hcc9 rfl w_el_X1 (by decide)) (show (k_ca κ).length ≤ 250 by omega)) k_X5_68 (by rw [hB.2.2.1]; exact ⟨Nat.le_of_ble_eq_true rfl, Nat.le_of_ble_eq_true rfl⟩) rfl (tm_recL hC (rc_lc hRC2)) rfl (by decide) dX5_takeFromBoards_53 (fun v_53 w_53 hp_53 => ?_)
  obtain ⟨hwc9, rfl⟩ := hp_53
  show tm_V x (tm_H x w_53) 0 0 56 [(0, .ref (k_o κ)), (1, .ref (cc))] [.int (I (1))]
  refine tm_pop hC dX5_takeFromBoards_56 rfl ?_
  exact tm_vret hC hR dX5_takeFromBoards_57 (⟨⟨i9, by rw [← hwc9]; exact RC_cut hRC2 ⟨_, Int.le_refl _, hg1⟩ (hcc9.trans (by obtain ⟨n1, n2, n3, n4⟩ := addC_n (σ := σ) (p := p) (b := b) (pl := pl) (len := ln) (j := 0); show _ = (some (.inl (.inr (2, [.ref (k_pa κ (s_cu (addC σ p b pl ln 0) (4 * s_nm σ + 3))), .ref (if s_nm σ = s_nm σ then q else k_pc κ (s_nm σ)), if s_aj (addC σ p b pl ln 0) (s_nm σ) = 0 then .null else .ref (if s_nm σ + 1 = s_nm σ then q else k_pc κ (s_nm σ + 1))]))) : Option (va_E ⊕ List Nat)); rw [n4, if_pos rfl, addC_an, if_pos rfl])), hg1⟩, rfl⟩)
