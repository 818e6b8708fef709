set_option maxHeartbeats 4000000 in
set_option maxRecDepth 100000 in
theorem c_T_cut (γ : tmG) (hst : γ.1.stackTraces = false) (Λ : tmL) (κ : KP) (σ : ST) (hM : RC γ.2.2.1 Λ κ σ) (hw : WF0 σ) (p b pl : Int) (hr : (-2147483648 ≤ p ∧ p ≤ 2147483647) ∧ (-2147483648 ≤ b ∧ b ≤ 2147483647) ∧ (-2147483648 ≤ pl ∧ pl ≤ 2147483647)) (hW : WF σ) (hG : grp (s_aj σ) (s_cu σ) (k_cs κ) 0 (s_nm σ)) : tm_ConX γ (tm_h2 γ.2.1 γ.2.2.1 γ.2.2.2.1) M_X5_cut 11 8 832 [.ref (k_o κ), .int (I (p)), .int (I (b)), .int (I (pl))] Λ (fun v w' => ∃ κ' σ' r, RC γ.2.2.1 w' κ' σ' ∧ grp (s_aj σ') (s_cu σ') (k_cs κ') 0 (s_nm σ') ∧ k_o κ' = k_o κ ∧ v = some (.int (I r)) ∧ Sp_cut σ p b pl 0 σ' r) (fun E w' => Λ = w' ∧ ((E = "java/lang/IndexOutOfBoundsException" ∧ Sp_cut σ p b pl 1 σ 0) ∨ (E = "java/lang/IllegalStateException" ∧ Sp_cut σ p b pl 2 σ 0))) := by
  refine tm_conX hst (by decide) (Nat.le_of_ble_eq_true rfl) (fun x hB hR hnt => ?_)
  have hg := hB.1
  subst hg
  have hC : tm_C x cX5_cut RX5 (some FieldType.int) := hB.2.2.2.1
  have hn := wf_n hw
  show tm_V x (tm_H x Λ) 8 832 0 [(0, .ref (k_o κ)), (1, .int (I (p))), (2, .int (I (b))), (3, .int (I (pl)))] []
  refine tm_aload_n 0 hC dX5_cut_0 rfl rfl ?_
  refine tm_iload_n 1 hC dX5_cut_1 rfl rfl ?_
  refine tm_less (b' := 1 + 7) (n' := 6 + 826) ⟨by omega, by omega⟩ ?_
  refine tm_callVX (b := 7) (n := 826) (rest := []) hC hR hnt (c_T_part (tm_g x) hst Λ κ σ hM hw p (by omega)) k_X5_146 (by rw [hB.2.2.1]; exact ⟨Nat.le_of_ble_eq_true rfl, Nat.le_of_ble_eq_true rfl⟩) rfl (tm_rec2 hC (rc_o hM) rfl) rfl (by decide) dX5_cut_2 (fun E9 w9 z9 => ⟨z9.1, Or.inl (⟨z9.2.1, Or.inl ⟨fun q => z9.2.2 q.1, rfl, rfl⟩⟩)⟩) (fun v_2 w_2 hp_2 => ?_)
  obtain ⟨rfl, rfl, hpp_2⟩ := hp_2
  have hpp9_2 := wf_p hw p hpp_2
  show tm_V x (tm_H x Λ) 7 826 5 [(0, .ref (k_o κ)), (1, .int (I (p))), (2, .int (I (b))), (3, .int (I (pl)))] [.ref (k_pa κ p)]
  refine tm_astore [(4, .ref (k_pa κ p)), (0, .ref (k_o κ)), (1, .int (I (p))), (2, .int (I (b))), (3, .int (I (pl)))] hC dX5_cut_5 (by rw [hB.2.1]; exact Nat.le_of_ble_eq_true rfl) rfl ?_
  refine tm_aload_n 1 hC dX5_cut_7 rfl rfl ?_
  refine tm_iload_n 3 hC dX5_cut_8 rfl rfl ?_
  refine tm_less (b' := 1 + 6) (n' := 6 + 820) ⟨by omega, by omega⟩ ?_
  refine tm_callVX (b := 6) (n := 820) (rest := []) hC hR hnt (c_T_board (tm_g x) hst Λ κ σ hM hw b (by omega)) k_X5_72 (by rw [hB.2.2.1]; exact ⟨Nat.le_of_ble_eq_true rfl, Nat.le_of_ble_eq_true rfl⟩) rfl (tm_rec2 hC (rc_o hM) rfl) rfl (by decide) dX5_cut_9 (fun E9 w9 z9 => ⟨z9.1, Or.inl (⟨z9.2.1, Or.inl ⟨fun q => z9.2.2 q.2, rfl, rfl⟩⟩)⟩) (fun v_9 w_9 hp_9 => ?_)
  obtain ⟨rfl, rfl, hbb_9⟩ := hp_9
  have hbb9_9 := wf_b hw b hbb_9
  have hkl_9 := rc_len hM hw b hbb_9
  show tm_V x (tm_H x Λ) 6 820 12 [(4, .ref (k_pa κ p)), (0, .ref (k_o κ)), (1, .int (I (p))), (2, .int (I (b))), (3, .int (I (pl)))] [.ref (k_bo κ b)]
  refine tm_astore [(5, .ref (k_bo κ b)), (4, .ref (k_pa κ p)), (0, .ref (k_o κ)), (1, .int (I (p))), (2, .int (I (b))), (3, .int (I (pl)))] hC dX5_cut_12 (by rw [hB.2.1]; exact Nat.le_of_ble_eq_true rfl) rfl ?_
  refine tm_aload 1 hC dX5_cut_14 rfl ?_
  have hx1 := rc_P hM p (by omega)
  refine tm_getf2 hC f_X5_159 hx1 rfl dX5_cut_16 ?_
  refine tm_if_gt 32 hC dX5_cut_19 (by decide) (by omega) (fun c_19 => ?_) (fun c_19 => ?_)
  · have hrm9 := wf_room hW (p := p) hpp_2 (by omega)
    refine tm_aload 0 hC dX5_cut_32 rfl ?_
    refine tm_aload 1 hC dX5_cut_34 rfl ?_
    refine tm_iload_n 5 hC dX5_cut_36 rfl rfl ?_
    refine tm_aload 1 hC dX5_cut_37 rfl ?_
    refine tm_getf2 hC f_X5_150 hx1 rfl dX5_cut_39 ?_
    refine tm_aload_n 2 hC dX5_cut_42 rfl rfl ?_
    have hx2 := rc_o hM
    refine tm_getf2 hC f_X5_33 hx2 rfl dX5_cut_43 ?_
    refine tm_callVN (b := 6) (n := 820) (rest := []) hC (c_B_canGive (tm_g x) hst Λ κ σ hM hw b (by omega) p (by omega) pl (s_wa σ (4 * p + 0)) (by omega)) k_X5_151 (by rw [hB.2.2.1]; exact ⟨Nat.le_of_ble_eq_true rfl, Nat.le_of_ble_eq_true rfl⟩) rfl (tm_rec2 hC (rc_B hM b (by omega)) rfl) rfl (by decide) dX5_cut_46 (fun v_46 w_46 hp_46 => ?_)
    obtain ⟨rfl, rfl⟩ := hp_46
    show tm_V x (tm_H x Λ) 6 820 49 [(5, .ref (k_bo κ b)), (4, .ref (k_pa κ p)), (0, .ref (k_o κ)), (1, .int (I (p))), (2, .int (I (b))), (3, .int (I (pl)))] [.int (I (bi (Poss σ p (s_wa σ (4 * p + 0)) b pl)))]
    refine tm_ifb_ne 62 hC dX5_cut_49 (by decide) (fun c_49 => ?_) (fun c_49 => ?_)
    · refine tm_aload_n 2 hC dX5_cut_62 rfl rfl ?_
      refine tm_aload 1 hC dX5_cut_63 rfl ?_
      refine tm_aload 0 hC dX5_cut_65 rfl ?_
      refine tm_iload_n 5 hC dX5_cut_67 rfl rfl ?_
      refine tm_less (b' := 4 + 2) (n' := 808 + 12) ⟨by omega, by omega⟩ ?_
      refine tm_callV (b := 2) (n := 12) (rest := []) hC (c_T_cutS (tm_g x) hst _ κ σ hM hw p hpp_2 b hbb_9 pl (by omega) c_49 (by omega) hG) k_X5_166 (by rw [hB.2.2.1]; exact ⟨Nat.le_of_ble_eq_true rfl, Nat.le_of_ble_eq_true rfl⟩) rfl (tm_rec2 hC (rc_o hM) rfl) rfl (by decide) dX5_cut_68 (fun v_68 w_68 hp_68 => ?_)
      obtain ⟨⟨κ9, hRC9, hg9, hko9, hka9, hkb9, hkr9⟩, rfl⟩ := hp_68
      have hpx9 := rc_P hRC9 p hpp_2
      rw [hka9] at hpx9
      show tm_V x (tm_H x w_68) 2 12 71 [(5, .ref (k_bo κ b)), (4, .ref (k_pa κ p)), (0, .ref (k_o κ)), (1, .int (I (p))), (2, .int (I (b))), (3, .int (I (pl)))] []
      refine tm_aload 1 hC dX5_cut_71 rfl ?_
      refine tm_getf2 hC f_X5_159 hpx9 rfl dX5_cut_73 ?_
      exact tm_iretX hC hR dX5_cut_76 (⟨κ9, _, _, hRC9, hg9, hko9, rfl, Or.inr (Or.inr ⟨by rw [okPB_i]; omega, by omega, c_49, rfl, rfl, by show tm_ui _ _ _ _ = _; rw [tm_ui_s]; rfl⟩)⟩)
    · refine tm_less (b' := 1 + 0) (n' := 6 + 0) ⟨by omega, by omega⟩ ?_
      exact tm_throw hC hR hnt tm_kp2 th_ise sr_164 (by rw [hB.2.2.1]; exact ⟨Nat.le_of_ble_eq_true rfl, Nat.le_of_ble_eq_true rfl⟩) (by decide) dX5_cut_52 dX5_cut_55 dX5_cut_56 dX5_cut_58 dX5_cut_61 (⟨rfl, Or.inr ⟨rfl, Or.inr (Or.inl ⟨by rw [okPB_i]; omega, Or.inr c_49, rfl, rfl⟩)⟩⟩)
  · refine tm_less (b' := 1 + 0) (n' := 6 + 0) ⟨by omega, by omega⟩ ?_
    exact tm_throw hC hR hnt tm_kp2 th_ise sr_162 (by rw [hB.2.2.1]; exact ⟨Nat.le_of_ble_eq_true rfl, Nat.le_of_ble_eq_true rfl⟩) (by decide) dX5_cut_22 dX5_cut_25 dX5_cut_26 dX5_cut_28 dX5_cut_31 (⟨rfl, Or.inr ⟨rfl, Or.inr (Or.inl ⟨by rw [okPB_i]; omega, Or.inl (by omega), rfl, rfl⟩)⟩⟩)
