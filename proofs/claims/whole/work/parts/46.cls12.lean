set_option maxHeartbeats 4000000 in
set_option maxRecDepth 100000 in
theorem c_B_remP (γ : tmG) (hst : γ.1.stackTraces = false) (Λ : tmL) (κ : KP) (σ : ST) (hM : RC γ.2.2.1 Λ κ σ) (hw : WF0 σ) (b : Int) (hb : 0 ≤ b ∧ b < s_nb σ) (m : Int) (hm : (0 ≤ m ∧ m < s_nm σ) ∧ s_cu σ (4 * m) = b) : tm_Con γ (tm_h2 γ.2.1 γ.2.2.1 γ.2.2.2.1) M_X0_removePiece 4 0 0 [.ref (k_bo κ b), .ref (k_pc κ m)] Λ (fun r w' => ∃ i : Nat, (k_ks κ b)[i]? = some m ∧ tm_ul Λ (k_bp κ b) (((k_ks κ b).map (k_pc κ)).eraseIdx i) = w' ∧ r = none) := by
  refine tm_con hst (by decide) (Nat.le_of_ble_eq_true rfl) (fun x hB hR => ?_)
  have hg := hB.1
  subst hg
  have hC : tm_C x cX0_removePiece RX0 (none) := hB.2.2.2.1
  have hn := wf_n hw
  have hb9 := wf_b hw b hb
  have hkl := rc_len hM hw b hb
  show tm_V x (tm_H x Λ) 0 0 0 [(0, .ref (k_bo κ b)), (1, .ref (k_pc κ m))] []
  refine tm_iconst hC dX0_removePiece_0 ?_
  refine tm_istore_n [(2, .int (I (0))), (0, .ref (k_bo κ b)), (1, .ref (k_pc κ m))] hC dX0_removePiece_1 rfl (by rw [hB.2.1]; exact Nat.le_of_ble_eq_true rfl) rfl ?_
  have hL_2 : ∀ (fu : Nat) (i : Nat), ((i : Int) ≤ ((k_ks κ b).length : Int) ∧ upto (k_ks κ b) i (fun k => k ≠ m)) → ((((k_ks κ b).length : Int) - i).toNat) < fu → tm_V x (tm_H x Λ) 0 0 2 [(0, .ref (k_bo κ b)), (1, .ref (k_pc κ m)), (2, .int (I ((i : Int))))] [] := by
    intro fu
    induction fu with
    | zero => intro i hinv hm; exact absurd hm (Nat.not_lt_zero _)
    | succ fu ih_2 =>
      intro i hinv_2 hm_2
      obtain ⟨hi, hu⟩ := hinv_2
      refine tm_iload_n 2 hC dX0_removePiece_2 rfl rfl ?_
      refine tm_aload_n 0 hC dX0_removePiece_3 rfl rfl ?_
      have hx1 := rc_B hM b (by omega)
      refine tm_getf2 hC f_X0_16 hx1 rfl dX0_removePiece_4 ?_
      refine tm_callV (b := 0) (n := 0) (rest := [.int (I ((i : Int)))]) hC (c_Lsz (tm_g x) hst _ _ _ (((k_ks κ b).length : Int)) (rc_bp hM b (by omega)) (len_m _ _)) k_X0_29 (by rw [hB.2.2.1]; exact ⟨Nat.le_of_ble_eq_true rfl, Nat.le_of_ble_eq_true rfl⟩) rfl (tm_recL hC (rc_bp hM b (by omega))) rfl (by simp [Value.category]) dX0_removePiece_7 (fun v_7 w_7 hp_7 => ?_)
      obtain ⟨rfl, rfl⟩ := hp_7
      show tm_V x (tm_H x Λ) 0 0 10 [(0, .ref (k_bo κ b)), (1, .ref (k_pc κ m)), (2, .int (I ((i : Int))))] [.int (I (((k_ks κ b).length : Int))), .int (I ((i : Int)))]
      refine tm_icmp_ge 41 hC dX0_removePiece_10 (by decide) (by omega) (fun c_10 => ?_) (fun c_10 => ?_)
      · exact tm_vret hC hR dX0_removePiece_41 ((absurd rfl (upto_a hu (by omega) m (srt_in hw (rc_srt hM b hb) hm.1 hm.2))))
      · refine tm_aload_n 0 hC dX0_removePiece_13 rfl rfl ?_
        refine tm_getf2 hC f_X0_16 hx1 rfl dX0_removePiece_14 ?_
        refine tm_iload_n 2 hC dX0_removePiece_17 rfl rfl ?_
        obtain ⟨k_18, hga_18, hgb_18, hgc_18, hgd_18⟩ := rc_kat hM hw b (by omega) i (by omega)
        have hg9_18 := wf_k hw k_18 hgc_18
        refine tm_callV (b := 0) (n := 0) (rest := []) hC (c_Lget (tm_g x) hst _ _ _ (i : Int) (k_pc κ k_18) (rc_bp hM b (by omega)) (by omega) (hga_18)) k_X0_33 (by rw [hB.2.2.1]; exact ⟨Nat.le_of_ble_eq_true rfl, Nat.le_of_ble_eq_true rfl⟩) rfl (tm_recL hC (rc_bp hM b (by omega))) rfl (by decide) dX0_removePiece_18 (fun v_18 w_18 hp_18 => ?_)
        obtain ⟨rfl, rfl⟩ := hp_18
        show tm_V x (tm_H x Λ) 0 0 21 [(0, .ref (k_bo κ b)), (1, .ref (k_pc κ m)), (2, .int (I ((i : Int))))] [.ref (k_pc κ k_18)]
        refine tm_aload_n 1 hC dX0_removePiece_21 rfl rfl ?_
        refine tm_acmp_ne 35 hC dX0_removePiece_22 (by decide) (fun c_22 => ?_) (fun c_22 => ?_)
        · refine tm_iinc 2 [(2, .int (I ((i : Int) + 1))), (0, .ref (k_bo κ b)), (1, .ref (k_pc κ m))] hC dX0_removePiece_35 rfl (by rw [hB.2.1]; exact Nat.le_of_ble_eq_true rfl) rfl ?_
          refine tm_goto 2 hC dX0_removePiece_38 (by decide) ?_
          refine tm_sub (L' := [(0, .ref (k_bo κ b)), (1, .ref (k_pc κ m)), (2, .int (I ((i : Int) + 1)))]) [1, 2, 0] rfl ?_
          exact ih_2  (i + 1) (⟨by omega, upto_s hu hgb_18 (fun z => c_22 (by rw [z]))⟩) (by omega)
        · refine tm_aload_n 0 hC dX0_removePiece_25 rfl rfl ?_
          refine tm_getf2 hC f_X0_16 hx1 rfl dX0_removePiece_26 ?_
          refine tm_iload_n 2 hC dX0_removePiece_29 rfl rfl ?_
          refine tm_callV (b := 0) (n := 0) (rest := []) hC (c_Lrem (tm_g x) hst _ _ (i : Int) (k_pc κ k_18) ((k_ks κ b).map (k_pc κ)) (rc_bp hM b (by omega)) (by omega) hga_18) k_X0_49 (by rw [hB.2.2.1]; exact ⟨Nat.le_of_ble_eq_true rfl, Nat.le_of_ble_eq_true rfl⟩) rfl (tm_recL hC (rc_bp hM b (by omega))) rfl (by decide) dX0_removePiece_30 (fun v_30 w_30 hp_30 => ?_)
          obtain ⟨hwr, rfl⟩ := hp_30
          show tm_V x (tm_H x w_30) 0 0 33 [(0, .ref (k_bo κ b)), (1, .ref (k_pc κ m)), (2, .int (I ((i : Int))))] [.ref (k_pc κ k_18)]
          refine tm_pop hC dX0_removePiece_33 rfl ?_
          exact tm_vret hC hR dX0_removePiece_34 (⟨i, by rw [hgb_18, (rc_ap hM).2.2.2.2 k_18 m hgc_18 hm.1 c_22], hwr, rfl⟩)
  refine tm_sub (L' := [(0, .ref (k_bo κ b)), (1, .ref (k_pc κ m)), (2, .int (I (0)))]) [1, 2, 0] rfl ?_
  exact hL_2 _ 0 (⟨by omega, upto_0⟩) (Nat.lt_succ_self _)
