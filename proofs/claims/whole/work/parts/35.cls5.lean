theorem l2d_i2d {z : Int} (hz : -2147483648 ≤ z ∧ z ≤ 2147483647) : FP.l2d (L64 z) = FP.i2d (I z) := by
  show UInt64.ofNat (FP.Core.fromInt FP.Core.b64 (L64 z).toInt) = UInt64.ofNat (FP.Core.fromInt FP.Core.b64 (I z).toInt)
  rw [L64_toInt (by omega), show (I z).toInt = z from Int32.toInt_ofInt_of_le (by omega) (by omega)]
theorem n64I {p a : Int} (hp : 0 ≤ p ∧ p ≤ 1000000000) (ha : 0 ≤ a ∧ a ≤ 1000000000) (h0 : ¬ a = 0) : vf_n64 (FP.ddiv (FP.i2d (I p)) (FP.i2d (I a))) := by
  rw [← l2d_i2d (by omega), ← l2d_i2d (by omega)]
  exact n64Z hp ha h0

set_option maxHeartbeats 4000000 in
set_option maxRecDepth 100000 in
theorem c_T_next (γ : tmG) (hst : γ.1.stackTraces = false) (Λ : tmL) (d9 x9 : Int64) : tm_Con γ (tm_h2 γ.2.1 γ.2.2.1 γ.2.2.2.1) M_X5_withNext 1 0 0 [.long (d9), .long (x9)] Λ (fun r w' => Λ = w' ∧ r = some (.long (d9 * 31 + x9))) := by
  refine tm_con hst (by decide) (Nat.le_of_ble_eq_true rfl) (fun x hB hR => ?_)
  have hg := hB.1
  subst hg
  have hC : tm_C x cX5_withNext RX5 (some FieldType.long) := hB.2.2.2.1
  show tm_V x (tm_H x Λ) 0 0 0 [(0, .long (d9)), (2, .long (x9))] []
  refine tm_lload_n 0 hC dX5_withNext_0 rfl rfl ?_
  refine tm_ldc2 hC w_X5_313 dX5_withNext_1 ?_
  refine tm_lmul hC dX5_withNext_4 ?_
  refine tm_lload_n 1 hC dX5_withNext_5 rfl rfl ?_
  refine tm_ladd hC dX5_withNext_6 ?_
  exact tm_lret hC hR dX5_withNext_7 (⟨rfl, rfl⟩)

set_option maxHeartbeats 4000000 in
set_option maxRecDepth 100000 in
theorem c_T_wp (γ : tmG) (hst : γ.1.stackTraces = false) (Λ : tmL) (κ : KP) (σ : ST) (hM : RC γ.2.2.1 Λ κ σ) (hw : WF0 σ) (b : Int) (hb : 0 ≤ b ∧ b < s_nb σ) (d9 : Int64) : tm_Con γ (tm_h2 γ.2.1 γ.2.2.1 γ.2.2.2.1) M_X5_withPieces 4 0 0 [.long (d9), .ref (k_bp κ b)] Λ (fun r w' => Λ = w' ∧ r = some (.long (dgP σ (k_ks κ b) (d9 * 31 + (I ((k_ks κ b).length : Int)).toInt64)))) := by
  refine tm_con hst (by decide) (Nat.le_of_ble_eq_true rfl) (fun x hB hR => ?_)
  have hg := hB.1
  subst hg
  have hC : tm_C x cX5_withPieces RX5 (some FieldType.long) := hB.2.2.2.1
  have hn := wf_n hw
  have hb9 := wf_b hw b hb
  have hkl := rc_len hM hw b hb
  show tm_V x (tm_H x Λ) 0 0 0 [(0, .long (d9)), (2, .ref (k_bp κ b))] []
  refine tm_lload_n 0 hC dX5_withPieces_0 rfl rfl ?_
  refine tm_aload_n 1 hC dX5_withPieces_1 rfl rfl ?_
  refine tm_callV (b := 0) (n := 0) (rest := [.long (d9)]) hC (c_Lsz (tm_g x) hst _ _ _ (((k_ks κ b).length : Int)) (rc_bp hM b (by omega)) (len_m _ _)) k_X5_54 (by rw [hB.2.2.1]; exact ⟨Nat.le_of_ble_eq_true rfl, Nat.le_of_ble_eq_true rfl⟩) rfl (tm_recL hC (rc_bp hM b (by omega))) rfl (by simp [Value.category]) dX5_withPieces_2 (fun v_2 w_2 hp_2 => ?_)
  obtain ⟨rfl, rfl⟩ := hp_2
  show tm_V x (tm_H x Λ) 0 0 5 [(0, .long (d9)), (2, .ref (k_bp κ b))] [.int (I (((k_ks κ b).length : Int))), .long (d9)]
  refine tm_i2l hC dX5_withPieces_5 ?_
  refine tm_callS (b := 0) (n := 0) (rest := []) hC (c_T_next (tm_g x) hst _ (d9) ((I (((k_ks κ b).length : Int))).toInt64)) k_X5_279 (by rw [hB.2.2.1]; exact ⟨Nat.le_of_ble_eq_true rfl, Nat.le_of_ble_eq_true rfl⟩) rfl rfl (by decide) dX5_withPieces_6 (fun v_6 w_6 hp_6 => ?_)
  obtain ⟨rfl, rfl⟩ := hp_6
  show tm_V x (tm_H x Λ) 0 0 9 [(0, .long (d9)), (2, .ref (k_bp κ b))] [.long ((d9) * 31 + ((I (((k_ks κ b).length : Int))).toInt64))]
  refine tm_lstore_n [(3, .long ((d9) * 31 + ((I (((k_ks κ b).length : Int))).toInt64))), (0, .long (d9)), (2, .ref (k_bp κ b))] hC dX5_withPieces_9 rfl (by rw [hB.2.1]; exact Nat.le_of_ble_eq_true rfl) rfl ?_
  refine tm_iconst hC dX5_withPieces_10 ?_
  refine tm_istore [(5, .int (I (0))), (3, .long ((d9) * 31 + ((I (((k_ks κ b).length : Int))).toInt64))), (0, .long (d9)), (2, .ref (k_bp κ b))] hC dX5_withPieces_11 (by rw [hB.2.1]; exact Nat.le_of_ble_eq_true rfl) rfl ?_
  have hL_13 : ∀ (fu : Nat) (dC : Int64) (i : Nat), ((i : Int) ≤ ((k_ks κ b).length : Int) ∧ dgP σ ((k_ks κ b).drop i) dC = dgP σ (k_ks κ b) (d9 * 31 + (I ((k_ks κ b).length : Int)).toInt64)) → ((((k_ks κ b).length : Int) - i).toNat) < fu → tm_V x (tm_H x Λ) 0 0 13 [(2, .ref (k_bp κ b)), (3, .long (dC)), (5, .int (I ((i : Int))))] [] := by
    intro fu
    induction fu with
    | zero => intro dC i hinv hm; exact absurd hm (Nat.not_lt_zero _)
    | succ fu ih_13 =>
      intro dC i hinv_13 hm_13
      obtain ⟨hi, hct⟩ := hinv_13
      refine tm_iload 2 hC dX5_withPieces_13 rfl ?_
      refine tm_aload_n 0 hC dX5_withPieces_15 rfl rfl ?_
      refine tm_callV (b := 0) (n := 0) (rest := [.int (I ((i : Int)))]) hC (c_Lsz (tm_g x) hst _ _ _ (((k_ks κ b).length : Int)) (rc_bp hM b (by omega)) (len_m _ _)) k_X5_54 (by rw [hB.2.2.1]; exact ⟨Nat.le_of_ble_eq_true rfl, Nat.le_of_ble_eq_true rfl⟩) rfl (tm_recL hC (rc_bp hM b (by omega))) rfl (by simp [Value.category]) dX5_withPieces_16 (fun v_16 w_16 hp_16 => ?_)
      obtain ⟨rfl, rfl⟩ := hp_16
      show tm_V x (tm_H x Λ) 0 0 19 [(2, .ref (k_bp κ b)), (3, .long (dC)), (5, .int (I ((i : Int))))] [.int (I (((k_ks κ b).length : Int))), .int (I ((i : Int)))]
      refine tm_icmp_ge 63 hC dX5_withPieces_19 (by decide) (by omega) (fun c_19 => ?_) (fun c_19 => ?_)
      · refine tm_lload_n 1 hC dX5_withPieces_63 rfl rfl ?_
        exact tm_lret hC hR dX5_withPieces_64 (⟨rfl, by rw [List.drop_eq_nil_of_le (by omega)] at hct; rw [← hct]; rfl⟩)
      · obtain ⟨k0, hk0a, hk0b, hk0c, hk0d⟩ := rc_kat hM hw b hb i (by omega)
        refine tm_iconst hC dX5_withPieces_22 ?_
        refine tm_istore [(6, .int (I (0))), (2, .ref (k_bp κ b)), (3, .long (dC)), (5, .int (I ((i : Int))))] hC dX5_withPieces_23 (by rw [hB.2.1]; exact Nat.le_of_ble_eq_true rfl) rfl ?_
        have hL_25 : ∀ (fu : Nat) (dD : Int64) (kw : Nat), ((kw : Int) ≤ 4 ∧ dD = dgW σ k0 dC kw) → (4 - kw) < fu → tm_V x (tm_H x Λ) 0 0 25 [(2, .ref (k_bp κ b)), (3, .long (dD)), (5, .int (I ((i : Int)))), (6, .int (I ((kw : Int))))] [] := by
          intro fu
          induction fu with
          | zero => intro dD kw hinv hm; exact absurd hm (Nat.not_lt_zero _)
          | succ fu ih_25 =>
            intro dD kw hinv_25 hm_25
            obtain ⟨hkw, hdD⟩ := hinv_25
            refine tm_iload 3 hC dX5_withPieces_25 rfl ?_
            refine tm_iconst hC dX5_withPieces_27 ?_
            refine tm_icmp_gt 57 hC dX5_withPieces_28 (by decide) (by omega) (fun c_28 => ?_) (fun c_28 => ?_)
            · refine tm_iinc 2 [(5, .int (I ((i : Int) + 1))), (2, .ref (k_bp κ b)), (3, .long (dD)), (6, .int (I ((kw : Int))))] hC dX5_withPieces_57 rfl (by rw [hB.2.1]; exact Nat.le_of_ble_eq_true rfl) rfl ?_
              refine tm_goto 13 hC dX5_withPieces_60 (by decide) ?_
              refine tm_sub (L' := [(2, .ref (k_bp κ b)), (3, .long (dD)), (5, .int (I ((i : Int) + 1)))]) [1, 2, 0] rfl ?_
              exact ih_13  dD (i + 1) (⟨by omega, by rw [drop_at hk0b] at hct; rw [hdD, show kw = 4 by omega]; exact hct⟩) (by omega)
            · refine tm_lload_n 1 hC dX5_withPieces_31 rfl rfl ?_
              refine tm_aload_n 0 hC dX5_withPieces_32 rfl rfl ?_
              refine tm_iload 2 hC dX5_withPieces_33 rfl ?_
              obtain ⟨k_35, hga_35, hgb_35, hgc_35, hgd_35⟩ := rc_kat hM hw b (by omega) i (by omega)
              have hg9_35 := wf_k hw k_35 hgc_35
              refine tm_callV (b := 0) (n := 0) (rest := [.long (dD)]) hC (c_Lget (tm_g x) hst _ _ _ (i : Int) (k_pc κ k_35) (rc_bp hM b (by omega)) (by omega) (hga_35)) k_X5_230 (by rw [hB.2.2.1]; exact ⟨Nat.le_of_ble_eq_true rfl, Nat.le_of_ble_eq_true rfl⟩) rfl (tm_recL hC (rc_bp hM b (by omega))) rfl (by simp [Value.category]) dX5_withPieces_35 (fun v_35 w_35 hp_35 => ?_)
              obtain ⟨rfl, rfl⟩ := hp_35
              show tm_V x (tm_H x Λ) 0 0 38 [(2, .ref (k_bp κ b)), (3, .long (dD)), (5, .int (I ((i : Int)))), (6, .int (I ((kw : Int))))] [.ref (k_pc κ k_35), .long (dD)]
              have e35 : k_35 = k0 := by
                have h1 := hgb_35
                rw [hk0b] at h1
                cases h1
                rfl
              have hx1 := rc_K hM k_35 (by omega)
              refine tm_cast2 hC hx1 rfl w_X5_180 dX5_withPieces_38 ?_
              refine tm_iload 3 hC dX5_withPieces_41 rfl ?_
              refine tm_callVN (b := 0) (n := 0) (rest := [.long (dD)]) hC (c_K_tell (tm_g x) hst Λ κ σ hM hw k_35 (by omega) (kw : Int) (by omega)) k_X5_244 (by rw [hB.2.2.1]; exact ⟨Nat.le_of_ble_eq_true rfl, Nat.le_of_ble_eq_true rfl⟩) rfl (tm_rec2 hC (rc_K hM k_35 (by omega)) rfl) rfl (by simp [Value.category]) dX5_withPieces_43 (fun v_43 w_43 hp_43 => ?_)
              obtain ⟨rfl, rfl⟩ := hp_43
              show tm_V x (tm_H x Λ) 0 0 46 [(2, .ref (k_bp κ b)), (3, .long (dD)), (5, .int (I ((i : Int)))), (6, .int (I ((kw : Int))))] [.int (I (tellS σ k_35 (kw : Int))), .long (dD)]
              refine tm_i2l hC dX5_withPieces_46 ?_
              refine tm_callS (b := 0) (n := 0) (rest := []) hC (c_T_next (tm_g x) hst _ (dD) ((I (tellS σ k_35 (kw : Int))).toInt64)) k_X5_279 (by rw [hB.2.2.1]; exact ⟨Nat.le_of_ble_eq_true rfl, Nat.le_of_ble_eq_true rfl⟩) rfl rfl (by decide) dX5_withPieces_47 (fun v_47 w_47 hp_47 => ?_)
              obtain ⟨rfl, rfl⟩ := hp_47
              show tm_V x (tm_H x Λ) 0 0 50 [(2, .ref (k_bp κ b)), (3, .long (dD)), (5, .int (I ((i : Int)))), (6, .int (I ((kw : Int))))] [.long ((dD) * 31 + ((I (tellS σ k_35 (kw : Int))).toInt64))]
              refine tm_lstore_n [(3, .long ((dD) * 31 + ((I (tellS σ k_35 (kw : Int))).toInt64))), (2, .ref (k_bp κ b)), (5, .int (I ((i : Int)))), (6, .int (I ((kw : Int))))] hC dX5_withPieces_50 rfl (by rw [hB.2.1]; exact Nat.le_of_ble_eq_true rfl) rfl ?_
              refine tm_iinc 3 [(6, .int (I ((kw : Int) + 1))), (3, .long ((dD) * 31 + ((I (tellS σ k_35 (kw : Int))).toInt64))), (2, .ref (k_bp κ b)), (5, .int (I ((i : Int))))] hC dX5_withPieces_51 rfl (by rw [hB.2.1]; exact Nat.le_of_ble_eq_true rfl) rfl ?_
              refine tm_goto 25 hC dX5_withPieces_54 (by decide) ?_
              refine tm_sub (L' := [(2, .ref (k_bp κ b)), (3, .long ((dD) * 31 + ((I (tellS σ k_35 (kw : Int))).toInt64))), (5, .int (I ((i : Int)))), (6, .int (I ((kw : Int) + 1)))]) [2, 1, 3, 0] rfl ?_
              exact ih_25  ((dD) * 31 + ((I (tellS σ k_35 (kw : Int))).toInt64)) (kw + 1) (⟨by omega, by rw [hdD, e35]; rfl⟩) (by omega)
        refine tm_sub (L' := [(2, .ref (k_bp κ b)), (3, .long (dC)), (5, .int (I ((i : Int)))), (6, .int (I (0)))]) [1, 2, 3, 0] rfl ?_
        exact hL_25 _ dC 0 (⟨by omega, rfl⟩) (Nat.lt_succ_self _)
  refine tm_sub (L' := [(2, .ref (k_bp κ b)), (3, .long ((d9) * 31 + ((I (((k_ks κ b).length : Int))).toInt64))), (5, .int (I (0)))]) [3, 1, 0] rfl ?_
  exact hL_13 _ ((d9) * 31 + ((I (((k_ks κ b).length : Int))).toInt64)) 0 (⟨by omega, rfl⟩) (Nat.lt_succ_self _)

set_option maxHeartbeats 4000000 in
set_option maxRecDepth 100000 in
theorem c_T_digest (γ : tmG) (hst : γ.1.stackTraces = false) (Λ : tmL) (κ : KP) (σ : ST) (hM : RC γ.2.2.1 Λ κ σ) (hw : WF0 σ) : tm_Con γ (tm_h2 γ.2.1 γ.2.2.1 γ.2.2.2.1) M_X5_digest 6 0 0 [.ref (k_o κ)] Λ (fun v w' => Λ = w' ∧ ∃ r, v = some (.long r) ∧ dgB σ (s_nb σ).toNat r) := by
  refine tm_con hst (by decide) (Nat.le_of_ble_eq_true rfl) (fun x hB hR => ?_)
  have hg := hB.1
  subst hg
  have hC : tm_C x cX5_digest RX5 (some FieldType.long) := hB.2.2.2.1
  have hn := wf_n hw
  show tm_V x (tm_H x Λ) 0 0 0 [(0, .ref (k_o κ))] []
  refine tm_ldc2 hC w_X5_277 dX5_digest_0 ?_
  refine tm_lstore_n [(1, .long (269)), (0, .ref (k_o κ))] hC dX5_digest_3 rfl (by rw [hB.2.1]; exact Nat.le_of_ble_eq_true rfl) rfl ?_
  refine tm_lload_n 0 hC dX5_digest_4 rfl rfl ?_
  refine tm_aload_n 1 hC dX5_digest_5 rfl rfl ?_
  have hx1 := rc_o hM
  refine tm_getf2 hC f_X5_33 hx1 rfl dX5_digest_6 ?_
  refine tm_i2l hC dX5_digest_9 ?_
  refine tm_callS (b := 0) (n := 0) (rest := []) hC (c_T_next (tm_g x) hst _ (269) ((I (s_sw σ)).toInt64)) k_X5_279 (by rw [hB.2.2.1]; exact ⟨Nat.le_of_ble_eq_true rfl, Nat.le_of_ble_eq_true rfl⟩) rfl rfl (by decide) dX5_digest_10 (fun v_10 w_10 hp_10 => ?_)
  obtain ⟨rfl, rfl⟩ := hp_10
  show tm_V x (tm_H x Λ) 0 0 13 [(1, .long (269)), (0, .ref (k_o κ))] [.long ((269) * 31 + ((I (s_sw σ)).toInt64))]
  refine tm_lstore_n [(1, .long ((269) * 31 + ((I (s_sw σ)).toInt64))), (0, .ref (k_o κ))] hC dX5_digest_13 rfl (by rw [hB.2.1]; exact Nat.le_of_ble_eq_true rfl) rfl ?_
  refine tm_lload_n 0 hC dX5_digest_14 rfl rfl ?_
  refine tm_aload_n 1 hC dX5_digest_15 rfl rfl ?_
  refine tm_getf2 hC f_X5_36 hx1 rfl dX5_digest_16 ?_
  refine tm_i2l hC dX5_digest_19 ?_
  refine tm_callS (b := 0) (n := 0) (rest := []) hC (c_T_next (tm_g x) hst _ ((269) * 31 + ((I (s_sw σ)).toInt64)) ((I (s_jt σ)).toInt64)) k_X5_279 (by rw [hB.2.2.1]; exact ⟨Nat.le_of_ble_eq_true rfl, Nat.le_of_ble_eq_true rfl⟩) rfl rfl (by decide) dX5_digest_20 (fun v_20 w_20 hp_20 => ?_)
  obtain ⟨rfl, rfl⟩ := hp_20
  show tm_V x (tm_H x Λ) 0 0 23 [(1, .long ((269) * 31 + ((I (s_sw σ)).toInt64))), (0, .ref (k_o κ))] [.long (((269) * 31 + ((I (s_sw σ)).toInt64)) * 31 + ((I (s_jt σ)).toInt64))]
  refine tm_lstore_n [(1, .long (((269) * 31 + ((I (s_sw σ)).toInt64)) * 31 + ((I (s_jt σ)).toInt64))), (0, .ref (k_o κ))] hC dX5_digest_23 rfl (by rw [hB.2.1]; exact Nat.le_of_ble_eq_true rfl) rfl ?_
  refine tm_lload_n 0 hC dX5_digest_24 rfl rfl ?_
  refine tm_aload_n 1 hC dX5_digest_25 rfl rfl ?_
  refine tm_getf2 hC f_X5_29 hx1 rfl dX5_digest_26 ?_
  refine tm_i2l hC dX5_digest_29 ?_
  refine tm_callS (b := 0) (n := 0) (rest := []) hC (c_T_next (tm_g x) hst _ (((269) * 31 + ((I (s_sw σ)).toInt64)) * 31 + ((I (s_jt σ)).toInt64)) ((I (s_nd σ)).toInt64)) k_X5_279 (by rw [hB.2.2.1]; exact ⟨Nat.le_of_ble_eq_true rfl, Nat.le_of_ble_eq_true rfl⟩) rfl rfl (by decide) dX5_digest_30 (fun v_30 w_30 hp_30 => ?_)
  obtain ⟨rfl, rfl⟩ := hp_30
  show tm_V x (tm_H x Λ) 0 0 33 [(1, .long (((269) * 31 + ((I (s_sw σ)).toInt64)) * 31 + ((I (s_jt σ)).toInt64))), (0, .ref (k_o κ))] [.long ((((269) * 31 + ((I (s_sw σ)).toInt64)) * 31 + ((I (s_jt σ)).toInt64)) * 31 + ((I (s_nd σ)).toInt64))]
  refine tm_lstore_n [(1, .long ((((269) * 31 + ((I (s_sw σ)).toInt64)) * 31 + ((I (s_jt σ)).toInt64)) * 31 + ((I (s_nd σ)).toInt64))), (0, .ref (k_o κ))] hC dX5_digest_33 rfl (by rw [hB.2.1]; exact Nat.le_of_ble_eq_true rfl) rfl ?_
  refine tm_lload_n 0 hC dX5_digest_34 rfl rfl ?_
  refine tm_aload_n 1 hC dX5_digest_35 rfl rfl ?_
  refine tm_getf2 hC f_X5_16 hx1 rfl dX5_digest_36 ?_
  refine tm_callV (b := 0) (n := 0) (rest := [.long ((((269) * 31 + ((I (s_sw σ)).toInt64)) * 31 + ((I (s_jt σ)).toInt64)) * 31 + ((I (s_nd σ)).toInt64))]) hC (c_Lsz (tm_g x) hst _ _ _ (s_np σ) (rc_lp hM) (len_p hw)) k_X5_54 (by rw [hB.2.2.1]; exact ⟨Nat.le_of_ble_eq_true rfl, Nat.le_of_ble_eq_true rfl⟩) rfl (tm_recL hC (rc_lp hM)) rfl (by simp [Value.category]) dX5_digest_39 (fun v_39 w_39 hp_39 => ?_)
  obtain ⟨rfl, rfl⟩ := hp_39
  show tm_V x (tm_H x Λ) 0 0 42 [(1, .long ((((269) * 31 + ((I (s_sw σ)).toInt64)) * 31 + ((I (s_jt σ)).toInt64)) * 31 + ((I (s_nd σ)).toInt64))), (0, .ref (k_o κ))] [.int (I (s_np σ)), .long ((((269) * 31 + ((I (s_sw σ)).toInt64)) * 31 + ((I (s_jt σ)).toInt64)) * 31 + ((I (s_nd σ)).toInt64))]
  refine tm_i2l hC dX5_digest_42 ?_
  refine tm_callS (b := 0) (n := 0) (rest := []) hC (c_T_next (tm_g x) hst _ ((((269) * 31 + ((I (s_sw σ)).toInt64)) * 31 + ((I (s_jt σ)).toInt64)) * 31 + ((I (s_nd σ)).toInt64)) ((I (s_np σ)).toInt64)) k_X5_279 (by rw [hB.2.2.1]; exact ⟨Nat.le_of_ble_eq_true rfl, Nat.le_of_ble_eq_true rfl⟩) rfl rfl (by decide) dX5_digest_43 (fun v_43 w_43 hp_43 => ?_)
  obtain ⟨rfl, rfl⟩ := hp_43
  show tm_V x (tm_H x Λ) 0 0 46 [(1, .long ((((269) * 31 + ((I (s_sw σ)).toInt64)) * 31 + ((I (s_jt σ)).toInt64)) * 31 + ((I (s_nd σ)).toInt64))), (0, .ref (k_o κ))] [.long (((((269) * 31 + ((I (s_sw σ)).toInt64)) * 31 + ((I (s_jt σ)).toInt64)) * 31 + ((I (s_nd σ)).toInt64)) * 31 + ((I (s_np σ)).toInt64))]
  refine tm_lstore_n [(1, .long (((((269) * 31 + ((I (s_sw σ)).toInt64)) * 31 + ((I (s_jt σ)).toInt64)) * 31 + ((I (s_nd σ)).toInt64)) * 31 + ((I (s_np σ)).toInt64))), (0, .ref (k_o κ))] hC dX5_digest_46 rfl (by rw [hB.2.1]; exact Nat.le_of_ble_eq_true rfl) rfl ?_
  refine tm_iconst hC dX5_digest_47 ?_
  refine tm_istore_n [(3, .int (I (0))), (1, .long (((((269) * 31 + ((I (s_sw σ)).toInt64)) * 31 + ((I (s_jt σ)).toInt64)) * 31 + ((I (s_nd σ)).toInt64)) * 31 + ((I (s_np σ)).toInt64))), (0, .ref (k_o κ))] hC dX5_digest_48 rfl (by rw [hB.2.1]; exact Nat.le_of_ble_eq_true rfl) rfl ?_
  have hL_49 : ∀ (fu : Nat) (dA : Int64) (ka : Nat), ((ka : Int) ≤ s_np σ ∧ dA = dgA σ ka) → ((s_np σ - ka).toNat) < fu → tm_V x (tm_H x Λ) 0 0 49 [(0, .ref (k_o κ)), (1, .long (dA)), (3, .int (I ((ka : Int))))] [] := by
    intro fu
    induction fu with
    | zero => intro dA ka hinv hm; exact absurd hm (Nat.not_lt_zero _)
    | succ fu ih_49 =>
      intro dA ka hinv_49 hm_49
      obtain ⟨hka, hdA⟩ := hinv_49
      refine tm_iload_n 2 hC dX5_digest_49 rfl rfl ?_
      refine tm_aload_n 0 hC dX5_digest_50 rfl rfl ?_
      refine tm_getf2 hC f_X5_16 hx1 rfl dX5_digest_51 ?_
      refine tm_callV (b := 0) (n := 0) (rest := [.int (I ((ka : Int)))]) hC (c_Lsz (tm_g x) hst _ _ _ (s_np σ) (rc_lp hM) (len_p hw)) k_X5_54 (by rw [hB.2.2.1]; exact ⟨Nat.le_of_ble_eq_true rfl, Nat.le_of_ble_eq_true rfl⟩) rfl (tm_recL hC (rc_lp hM)) rfl (by simp [Value.category]) dX5_digest_54 (fun v_54 w_54 hp_54 => ?_)
      obtain ⟨rfl, rfl⟩ := hp_54
      show tm_V x (tm_H x Λ) 0 0 57 [(0, .ref (k_o κ)), (1, .long (dA)), (3, .int (I ((ka : Int))))] [.int (I (s_np σ)), .int (I ((ka : Int)))]
      refine tm_icmp_ge 86 hC dX5_digest_57 (by decide) (by omega) (fun c_57 => ?_) (fun c_57 => ?_)
      · refine tm_lload_n 1 hC dX5_digest_86 rfl rfl ?_
        refine tm_aload_n 0 hC dX5_digest_87 rfl rfl ?_
        refine tm_getf2 hC f_X5_10 hx1 rfl dX5_digest_88 ?_
        refine tm_callV (b := 0) (n := 0) (rest := [.long (dA)]) hC (c_Lsz (tm_g x) hst _ _ _ (s_nb σ) (rc_lb hM) (len_b hw)) k_X5_54 (by rw [hB.2.2.1]; exact ⟨Nat.le_of_ble_eq_true rfl, Nat.le_of_ble_eq_true rfl⟩) rfl (tm_recL hC (rc_lb hM)) rfl (by simp [Value.category]) dX5_digest_91 (fun v_91 w_91 hp_91 => ?_)
        obtain ⟨rfl, rfl⟩ := hp_91
        show tm_V x (tm_H x Λ) 0 0 94 [(0, .ref (k_o κ)), (1, .long (dA)), (3, .int (I ((ka : Int))))] [.int (I (s_nb σ)), .long (dA)]
        refine tm_i2l hC dX5_digest_94 ?_
        refine tm_callS (b := 0) (n := 0) (rest := []) hC (c_T_next (tm_g x) hst _ (dA) ((I (s_nb σ)).toInt64)) k_X5_279 (by rw [hB.2.2.1]; exact ⟨Nat.le_of_ble_eq_true rfl, Nat.le_of_ble_eq_true rfl⟩) rfl rfl (by decide) dX5_digest_95 (fun v_95 w_95 hp_95 => ?_)
        obtain ⟨rfl, rfl⟩ := hp_95
        show tm_V x (tm_H x Λ) 0 0 98 [(0, .ref (k_o κ)), (1, .long (dA)), (3, .int (I ((ka : Int))))] [.long ((dA) * 31 + ((I (s_nb σ)).toInt64))]
        refine tm_lstore_n [(1, .long ((dA) * 31 + ((I (s_nb σ)).toInt64))), (0, .ref (k_o κ)), (3, .int (I ((ka : Int))))] hC dX5_digest_98 rfl (by rw [hB.2.1]; exact Nat.le_of_ble_eq_true rfl) rfl ?_
        refine tm_iconst hC dX5_digest_99 ?_
        refine tm_istore_n [(3, .int (I (0))), (1, .long ((dA) * 31 + ((I (s_nb σ)).toInt64))), (0, .ref (k_o κ))] hC dX5_digest_100 rfl (by rw [hB.2.1]; exact Nat.le_of_ble_eq_true rfl) rfl ?_
        have hL_101 : ∀ (fu : Nat) (dB : Int64) (kb : Nat), ((kb : Int) ≤ s_nb σ ∧ dgB σ kb dB) → ((s_nb σ - kb).toNat) < fu → tm_V x (tm_H x Λ) 0 0 101 [(0, .ref (k_o κ)), (1, .long (dB)), (3, .int (I ((kb : Int))))] [] := by
          intro fu
          induction fu with
          | zero => intro dB kb hinv hm; exact absurd hm (Nat.not_lt_zero _)
          | succ fu ih_101 =>
            intro dB kb hinv_101 hm_101
            obtain ⟨hkb, hdB⟩ := hinv_101
            refine tm_iload_n 2 hC dX5_digest_101 rfl rfl ?_
            refine tm_aload_n 0 hC dX5_digest_102 rfl rfl ?_
            refine tm_getf2 hC f_X5_10 hx1 rfl dX5_digest_103 ?_
            refine tm_callV (b := 0) (n := 0) (rest := [.int (I ((kb : Int)))]) hC (c_Lsz (tm_g x) hst _ _ _ (s_nb σ) (rc_lb hM) (len_b hw)) k_X5_54 (by rw [hB.2.2.1]; exact ⟨Nat.le_of_ble_eq_true rfl, Nat.le_of_ble_eq_true rfl⟩) rfl (tm_recL hC (rc_lb hM)) rfl (by simp [Value.category]) dX5_digest_106 (fun v_106 w_106 hp_106 => ?_)
            obtain ⟨rfl, rfl⟩ := hp_106
            show tm_V x (tm_H x Λ) 0 0 109 [(0, .ref (k_o κ)), (1, .long (dB)), (3, .int (I ((kb : Int))))] [.int (I (s_nb σ)), .int (I ((kb : Int)))]
            refine tm_icmp_ge 137 hC dX5_digest_109 (by decide) (by omega) (fun c_109 => ?_) (fun c_109 => ?_)
            · refine tm_lload_n 1 hC dX5_digest_137 rfl rfl ?_
              exact tm_lret hC hR dX5_digest_138 (⟨rfl, dB, rfl, by rw [show (s_nb σ).toNat = kb by omega]; exact hdB⟩)
            · refine tm_lload_n 1 hC dX5_digest_112 rfl rfl ?_
              refine tm_aload_n 0 hC dX5_digest_113 rfl rfl ?_
              refine tm_getf2 hC f_X5_10 hx1 rfl dX5_digest_114 ?_
              refine tm_iload_n 2 hC dX5_digest_117 rfl rfl ?_
              refine tm_callV (b := 0) (n := 0) (rest := [.long (dB)]) hC (c_Lget (tm_g x) hst _ _ _ (kb : Int) (k_bo κ (kb : Int)) (rc_lb hM) (by omega) (rc_bat (kb : Int) (by omega))) k_X5_230 (by rw [hB.2.2.1]; exact ⟨Nat.le_of_ble_eq_true rfl, Nat.le_of_ble_eq_true rfl⟩) rfl (tm_recL hC (rc_lb hM)) rfl (by simp [Value.category]) dX5_digest_118 (fun v_118 w_118 hp_118 => ?_)
              obtain ⟨rfl, rfl⟩ := hp_118
              show tm_V x (tm_H x Λ) 0 0 121 [(0, .ref (k_o κ)), (1, .long (dB)), (3, .int (I ((kb : Int))))] [.ref (k_bo κ (kb : Int)), .long (dB)]
              have hx2 := rc_B hM (kb : Int) (by omega)
              refine tm_cast2 hC hx2 rfl w_X5_63 dX5_digest_121 ?_
              refine tm_getf2 hC f_X5_237 hx2 rfl dX5_digest_124 ?_
              refine tm_callS (b := 0) (n := 0) (rest := []) hC (c_T_wp (tm_g x) hst Λ κ σ hM hw (kb : Int) (by omega) (dB)) k_X5_283 (by rw [hB.2.2.1]; exact ⟨Nat.le_of_ble_eq_true rfl, Nat.le_of_ble_eq_true rfl⟩) rfl rfl (by decide) dX5_digest_127 (fun v_127 w_127 hp_127 => ?_)
              obtain ⟨rfl, rfl⟩ := hp_127
              show tm_V x (tm_H x Λ) 0 0 130 [(0, .ref (k_o κ)), (1, .long (dB)), (3, .int (I ((kb : Int))))] [.long (dgP σ (k_ks κ (kb : Int)) ((dB) * 31 + (I ((k_ks κ (kb : Int)).length : Int)).toInt64))]
              refine tm_lstore_n [(1, .long (dgP σ (k_ks κ (kb : Int)) ((dB) * 31 + (I ((k_ks κ (kb : Int)).length : Int)).toInt64))), (0, .ref (k_o κ)), (3, .int (I ((kb : Int))))] hC dX5_digest_130 rfl (by rw [hB.2.1]; exact Nat.le_of_ble_eq_true rfl) rfl ?_
              refine tm_iinc 2 [(3, .int (I ((kb : Int) + 1))), (1, .long (dgP σ (k_ks κ (kb : Int)) ((dB) * 31 + (I ((k_ks κ (kb : Int)).length : Int)).toInt64))), (0, .ref (k_o κ))] hC dX5_digest_131 rfl (by rw [hB.2.1]; exact Nat.le_of_ble_eq_true rfl) rfl ?_
              refine tm_goto 101 hC dX5_digest_134 (by decide) ?_
              refine tm_sub (L' := [(0, .ref (k_o κ)), (1, .long (dgP σ (k_ks κ (kb : Int)) ((dB) * 31 + (I ((k_ks κ (kb : Int)).length : Int)).toInt64))), (3, .int (I ((kb : Int) + 1)))]) [2, 1, 0] rfl ?_
              exact ih_101  (dgP σ (k_ks κ (kb : Int)) ((dB) * 31 + (I ((k_ks κ (kb : Int)).length : Int)).toInt64)) (kb + 1) (⟨by omega, dB, _, hdB, rc_srt hM kb (by omega), rfl⟩) (by omega)
        refine tm_sub (L' := [(0, .ref (k_o κ)), (1, .long ((dA) * 31 + ((I (s_nb σ)).toInt64))), (3, .int (I (0)))]) [2, 1, 0] rfl ?_
        exact hL_101 _ ((dA) * 31 + ((I (s_nb σ)).toInt64)) 0 (⟨by omega, by rw [hdA]; show _ = dg2 σ; unfold dg2; rw [show (s_np σ).toNat = ka by omega]⟩) (Nat.lt_succ_self _)
      · refine tm_lload_n 1 hC dX5_digest_60 rfl rfl ?_
        refine tm_aload_n 0 hC dX5_digest_61 rfl rfl ?_
        refine tm_getf2 hC f_X5_16 hx1 rfl dX5_digest_62 ?_
        refine tm_iload_n 2 hC dX5_digest_65 rfl rfl ?_
        refine tm_callV (b := 0) (n := 0) (rest := [.long (dA)]) hC (c_Lget (tm_g x) hst _ _ _ (ka : Int) (k_pa κ (ka : Int)) (rc_lp hM) (by omega) (rc_pat (ka : Int) (by omega))) k_X5_230 (by rw [hB.2.2.1]; exact ⟨Nat.le_of_ble_eq_true rfl, Nat.le_of_ble_eq_true rfl⟩) rfl (tm_recL hC (rc_lp hM)) rfl (by simp [Value.category]) dX5_digest_66 (fun v_66 w_66 hp_66 => ?_)
        obtain ⟨rfl, rfl⟩ := hp_66
        show tm_V x (tm_H x Λ) 0 0 69 [(0, .ref (k_o κ)), (1, .long (dA)), (3, .int (I ((ka : Int))))] [.ref (k_pa κ (ka : Int)), .long (dA)]
        have hx3 := rc_P hM (ka : Int) (by omega)
        refine tm_cast2 hC hx3 rfl w_X5_99 dX5_digest_69 ?_
        refine tm_getf2 hC f_X5_159 hx3 rfl dX5_digest_72 ?_
        refine tm_i2l hC dX5_digest_75 ?_
        refine tm_callS (b := 0) (n := 0) (rest := []) hC (c_T_next (tm_g x) hst _ (dA) ((I (s_wa σ (4 * (ka : Int) + 3))).toInt64)) k_X5_279 (by rw [hB.2.2.1]; exact ⟨Nat.le_of_ble_eq_true rfl, Nat.le_of_ble_eq_true rfl⟩) rfl rfl (by decide) dX5_digest_76 (fun v_76 w_76 hp_76 => ?_)
        obtain ⟨rfl, rfl⟩ := hp_76
        show tm_V x (tm_H x Λ) 0 0 79 [(0, .ref (k_o κ)), (1, .long (dA)), (3, .int (I ((ka : Int))))] [.long ((dA) * 31 + ((I (s_wa σ (4 * (ka : Int) + 3))).toInt64))]
        refine tm_lstore_n [(1, .long ((dA) * 31 + ((I (s_wa σ (4 * (ka : Int) + 3))).toInt64))), (0, .ref (k_o κ)), (3, .int (I ((ka : Int))))] hC dX5_digest_79 rfl (by rw [hB.2.1]; exact Nat.le_of_ble_eq_true rfl) rfl ?_
        refine tm_iinc 2 [(3, .int (I ((ka : Int) + 1))), (1, .long ((dA) * 31 + ((I (s_wa σ (4 * (ka : Int) + 3))).toInt64))), (0, .ref (k_o κ))] hC dX5_digest_80 rfl (by rw [hB.2.1]; exact Nat.le_of_ble_eq_true rfl) rfl ?_
        refine tm_goto 49 hC dX5_digest_83 (by decide) ?_
        refine tm_sub (L' := [(0, .ref (k_o κ)), (1, .long ((dA) * 31 + ((I (s_wa σ (4 * (ka : Int) + 3))).toInt64))), (3, .int (I ((ka : Int) + 1)))]) [2, 1, 0] rfl ?_
        exact ih_49  ((dA) * 31 + ((I (s_wa σ (4 * (ka : Int) + 3))).toInt64)) (ka + 1) (⟨by omega, by rw [hdA]; rfl⟩) (by omega)
  refine tm_sub (L' := [(0, .ref (k_o κ)), (1, .long (((((269) * 31 + ((I (s_sw σ)).toInt64)) * 31 + ((I (s_jt σ)).toInt64)) * 31 + ((I (s_nd σ)).toInt64)) * 31 + ((I (s_np σ)).toInt64))), (3, .int (I (0)))]) [2, 1, 0] rfl ?_
  exact hL_49 _ (((((269) * 31 + ((I (s_sw σ)).toInt64)) * 31 + ((I (s_jt σ)).toInt64)) * 31 + ((I (s_nd σ)).toInt64)) * 31 + ((I (s_np σ)).toInt64)) 0 (⟨by omega, by show _ = dg1 σ; unfold dg1; rw [show (8339 : Int64) = 269 * 31 from rfl]⟩) (Nat.lt_succ_self _)

set_option maxHeartbeats 4000000 in
set_option maxRecDepth 100000 in
theorem c_T_used (γ : tmG) (hst : γ.1.stackTraces = false) (Λ : tmL) (κ : KP) (σ : ST) (hM : RC γ.2.2.1 Λ κ σ) (hw : WF0 σ) : tm_Con γ (tm_h2 γ.2.1 γ.2.2.1 γ.2.2.2.1) M_X5_used 6 0 0 [.ref (k_o κ)] Λ (fun v w' => Λ = w' ∧ ∃ r, v = some (.double r) ∧ Sp_used σ r) := by
  refine tm_con hst (by decide) (Nat.le_of_ble_eq_true rfl) (fun x hB hR => ?_)
  have hg := hB.1
  subst hg
  have hC : tm_C x cX5_used RX5 (some FieldType.double) := hB.2.2.2.1
  have hn := wf_n hw
  show tm_V x (tm_H x Λ) 0 0 0 [(0, .ref (k_o κ))] []
  refine tm_iconst hC dX5_used_0 ?_
  refine tm_istore_n [(1, .int (I (0))), (0, .ref (k_o κ))] hC dX5_used_1 rfl (by rw [hB.2.1]; exact Nat.le_of_ble_eq_true rfl) rfl ?_
  refine tm_iconst hC dX5_used_2 ?_
  refine tm_istore_n [(2, .int (I (0))), (1, .int (I (0))), (0, .ref (k_o κ))] hC dX5_used_3 rfl (by rw [hB.2.1]; exact Nat.le_of_ble_eq_true rfl) rfl ?_
  refine tm_iconst hC dX5_used_4 ?_
  refine tm_istore_n [(3, .int (I (0))), (2, .int (I (0))), (1, .int (I (0))), (0, .ref (k_o κ))] hC dX5_used_5 rfl (by rw [hB.2.1]; exact Nat.le_of_ble_eq_true rfl) rfl ?_
  have hL_6 : ∀ (fu : Nat) (pA : Int) (aA : Int) (kb : Nat), ((kb : Int) ≤ s_nb σ ∧ usR σ kb aA pA) → ((s_nb σ - kb).toNat) < fu → tm_V x (tm_H x Λ) 0 0 6 [(0, .ref (k_o κ)), (1, .int (I (pA))), (2, .int (I (aA))), (3, .int (I ((kb : Int))))] [] := by
    intro fu
    induction fu with
    | zero => intro pA aA kb hinv hm; exact absurd hm (Nat.not_lt_zero _)
    | succ fu ih_6 =>
      intro pA aA kb hinv_6 hm_6
      obtain ⟨hkb, hus⟩ := hinv_6
      have hub := usR_b hw kb hkb hus
      refine tm_iload_n 3 hC dX5_used_6 rfl rfl ?_
      refine tm_aload_n 0 hC dX5_used_7 rfl rfl ?_
      have hx1 := rc_o hM
      refine tm_getf2 hC f_X5_10 hx1 rfl dX5_used_8 ?_
      refine tm_callV (b := 0) (n := 0) (rest := [.int (I ((kb : Int)))]) hC (c_Lsz (tm_g x) hst _ _ _ (s_nb σ) (rc_lb hM) (len_b hw)) k_X5_54 (by rw [hB.2.2.1]; exact ⟨Nat.le_of_ble_eq_true rfl, Nat.le_of_ble_eq_true rfl⟩) rfl (tm_recL hC (rc_lb hM)) rfl (by simp [Value.category]) dX5_used_11 (fun v_11 w_11 hp_11 => ?_)
      obtain ⟨rfl, rfl⟩ := hp_11
      show tm_V x (tm_H x Λ) 0 0 14 [(0, .ref (k_o κ)), (1, .int (I (pA))), (2, .int (I (aA))), (3, .int (I ((kb : Int))))] [.int (I (s_nb σ)), .int (I ((kb : Int)))]
      refine tm_icmp_ge 69 hC dX5_used_14 (by decide) (by omega) (fun c_14 => ?_) (fun c_14 => ?_)
      · refine tm_iload_n 2 hC dX5_used_69 rfl rfl ?_
        refine tm_if_ne 77 hC dX5_used_70 (by decide) (by omega) (fun c_70 => ?_) (fun c_70 => ?_)
        · refine tm_iload_n 1 hC dX5_used_77 rfl rfl ?_
          refine tm_i2d hC dX5_used_78 ?_
          refine tm_iload_n 2 hC dX5_used_79 rfl rfl ?_
          refine tm_i2d hC dX5_used_80 ?_
          refine tm_ddiv hC (n64I (by omega) (by omega) (by omega)) dX5_used_81 ?_
          exact tm_dret hC hR dX5_used_82 (⟨rfl, _, rfl, aA, pA, by rw [show (s_nb σ).toNat = kb by omega]; exact hus, by rw [usV_i (by omega) (by omega), if_neg (by omega)]⟩)
        · refine tm_dconst0 hC dX5_used_73 ?_
          refine tm_goto 82 hC dX5_used_74 (by decide) ?_
          exact tm_dret hC hR dX5_used_82 (⟨rfl, _, rfl, aA, pA, by rw [show (s_nb σ).toNat = kb by omega]; exact hus, by rw [usV_i (by omega) (by omega), if_pos (by omega)]⟩)
      · refine tm_aload_n 0 hC dX5_used_17 rfl rfl ?_
        refine tm_getf2 hC f_X5_10 hx1 rfl dX5_used_18 ?_
        refine tm_iload_n 3 hC dX5_used_21 rfl rfl ?_
        refine tm_callV (b := 0) (n := 0) (rest := []) hC (c_Lget (tm_g x) hst _ _ _ (kb : Int) (k_bo κ (kb : Int)) (rc_lb hM) (by omega) (rc_bat (kb : Int) (by omega))) k_X5_230 (by rw [hB.2.2.1]; exact ⟨Nat.le_of_ble_eq_true rfl, Nat.le_of_ble_eq_true rfl⟩) rfl (tm_recL hC (rc_lb hM)) rfl (by decide) dX5_used_22 (fun v_22 w_22 hp_22 => ?_)
        obtain ⟨rfl, rfl⟩ := hp_22
        show tm_V x (tm_H x Λ) 0 0 25 [(0, .ref (k_o κ)), (1, .int (I (pA))), (2, .int (I (aA))), (3, .int (I ((kb : Int))))] [.ref (k_bo κ (kb : Int))]
        have hx2 := rc_B hM (kb : Int) (by omega)
        refine tm_cast2 hC hx2 rfl w_X5_63 dX5_used_25 ?_
        refine tm_astore [(4, .ref (k_bo κ (kb : Int))), (0, .ref (k_o κ)), (1, .int (I (pA))), (2, .int (I (aA))), (3, .int (I ((kb : Int))))] hC dX5_used_28 (by rw [hB.2.1]; exact Nat.le_of_ble_eq_true rfl) rfl ?_
        refine tm_aload 0 hC dX5_used_30 rfl ?_
        refine tm_getf2 hC f_X5_237 hx2 rfl dX5_used_32 ?_
        refine tm_callV (b := 0) (n := 0) (rest := []) hC (c_LisE (tm_g x) hst _ _ _ (rc_bp hM (kb : Int) (by omega))) k_X5_113 (by rw [hB.2.2.1]; exact ⟨Nat.le_of_ble_eq_true rfl, Nat.le_of_ble_eq_true rfl⟩) rfl (tm_recL hC (rc_bp hM (kb : Int) (by omega))) rfl (by decide) dX5_used_35 (fun v_35 w_35 hp_35 => ?_)
        obtain ⟨rfl, rfl⟩ := hp_35
        show tm_V x (tm_H x Λ) 0 0 38 [(4, .ref (k_bo κ (kb : Int))), (0, .ref (k_o κ)), (1, .int (I (pA))), (2, .int (I (aA))), (3, .int (I ((kb : Int))))] [.int (I (bi (((k_ks κ (kb : Int)).map (k_pc κ)).length = 0)))]
        refine tm_ifb_ne 63 hC dX5_used_38 (by decide) (fun c_38 => ?_) (fun c_38 => ?_)
        · refine tm_iinc 4 [(3, .int (I ((kb : Int) + 1))), (4, .ref (k_bo κ (kb : Int))), (0, .ref (k_o κ)), (1, .int (I (pA))), (2, .int (I (aA)))] hC dX5_used_63 rfl (by rw [hB.2.1]; exact Nat.le_of_ble_eq_true rfl) rfl ?_
          refine tm_goto 6 hC dX5_used_66 (by decide) ?_
          refine tm_sub (L' := [(0, .ref (k_o κ)), (1, .int (I (pA))), (2, .int (I (aA))), (3, .int (I ((kb : Int) + 1)))]) [2, 3, 4, 0] rfl ?_
          exact ih_6  pA aA (kb + 1) (⟨by omega, aA, pA, _, hus, rc_srt hM kb (by omega), Or.inl ⟨List.length_eq_zero_iff.mp (by rw [List.length_map] at c_38; exact c_38), rfl, rfl⟩⟩) (by omega)
        · refine tm_iload_n 2 hC dX5_used_41 rfl rfl ?_
          refine tm_aload 0 hC dX5_used_42 rfl ?_
          refine tm_callVN (b := 0) (n := 0) (rest := [.int (I (pA))]) hC (c_B_area (tm_g x) hst Λ κ σ hM hw (kb : Int) (by omega)) k_X5_274 (by rw [hB.2.2.1]; exact ⟨Nat.le_of_ble_eq_true rfl, Nat.le_of_ble_eq_true rfl⟩) rfl (tm_rec2 hC (rc_B hM (kb : Int) (by omega)) rfl) rfl (by simp [Value.category]) dX5_used_44 (fun v_44 w_44 hp_44 => ?_)
          obtain ⟨rfl, rfl⟩ := hp_44
          show tm_V x (tm_H x Λ) 0 0 47 [(4, .ref (k_bo κ (kb : Int))), (0, .ref (k_o κ)), (1, .int (I (pA))), (2, .int (I (aA))), (3, .int (I ((kb : Int))))] [.int (I (lsum (usC σ) (k_ks κ (kb : Int)))), .int (I (pA))]
          refine tm_iadd hC dX5_used_47 ?_
          refine tm_istore_n [(1, .int (I (pA + (lsum (usC σ) (k_ks κ (kb : Int)))))), (4, .ref (k_bo κ (kb : Int))), (0, .ref (k_o κ)), (2, .int (I (aA))), (3, .int (I ((kb : Int))))] hC dX5_used_48 rfl (by rw [hB.2.1]; exact Nat.le_of_ble_eq_true rfl) rfl ?_
          refine tm_iload_n 3 hC dX5_used_49 rfl rfl ?_
          refine tm_aload 1 hC dX5_used_50 rfl ?_
          refine tm_getf2 hC f_X5_76 hx2 rfl dX5_used_52 ?_
          refine tm_aload 1 hC dX5_used_55 rfl ?_
          refine tm_getf2 hC f_X5_266 hx2 rfl dX5_used_57 ?_
          refine tm_imul hC dX5_used_60 ?_
          refine tm_iadd hC dX5_used_61 ?_
          refine tm_istore_n [(2, .int (I (aA + ((s_wo σ (3 * (kb : Int))) * (s_wo σ (3 * (kb : Int) + 1)))))), (1, .int (I (pA + (lsum (usC σ) (k_ks κ (kb : Int)))))), (4, .ref (k_bo κ (kb : Int))), (0, .ref (k_o κ)), (3, .int (I ((kb : Int))))] hC dX5_used_62 rfl (by rw [hB.2.1]; exact Nat.le_of_ble_eq_true rfl) rfl ?_
          refine tm_iinc 4 [(3, .int (I ((kb : Int) + 1))), (2, .int (I (aA + ((s_wo σ (3 * (kb : Int))) * (s_wo σ (3 * (kb : Int) + 1)))))), (1, .int (I (pA + (lsum (usC σ) (k_ks κ (kb : Int)))))), (4, .ref (k_bo κ (kb : Int))), (0, .ref (k_o κ))] hC dX5_used_63 rfl (by rw [hB.2.1]; exact Nat.le_of_ble_eq_true rfl) rfl ?_
          refine tm_goto 6 hC dX5_used_66 (by decide) ?_
          refine tm_sub (L' := [(0, .ref (k_o κ)), (1, .int (I (pA + (lsum (usC σ) (k_ks κ (kb : Int)))))), (2, .int (I (aA + ((s_wo σ (3 * (kb : Int))) * (s_wo σ (3 * (kb : Int) + 1)))))), (3, .int (I ((kb : Int) + 1)))]) [4, 2, 1, 0] rfl ?_
          exact ih_6  (pA + (lsum (usC σ) (k_ks κ (kb : Int)))) (aA + ((s_wo σ (3 * (kb : Int))) * (s_wo σ (3 * (kb : Int) + 1)))) (kb + 1) (⟨by omega, aA, pA, _, hus, rc_srt hM kb (by omega), Or.inr ⟨fun z => c_38 (by rw [z]; rfl), rfl, rfl⟩⟩) (by omega)
  refine tm_sub (L' := [(0, .ref (k_o κ)), (1, .int (I (0))), (2, .int (I (0))), (3, .int (I (0)))]) [3, 2, 1, 0] rfl ?_
  exact hL_6 _ 0 0 0 (⟨by omega, rfl, rfl⟩) (Nat.lt_succ_self _)
