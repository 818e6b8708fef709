theorem w_X5_63 : Cond.classLink RX5 63 "TimberList$Board" ∈ ALL := tm_in1 121 rfl rfl
theorem w_X5_99 : Cond.classLink RX5 99 "TimberList$Part" ∈ ALL := tm_in1 112 rfl rfl
theorem w_X5_180 : Cond.classLink RX5 180 "TimberList$Piece" ∈ ALL := tm_in1 164 rfl rfl
theorem c_B_startZ (γ : tmG) (hst : γ.1.stackTraces = false) (Λ : tmL) (κ : KP) (σ : ST) (hM : RC γ.2.2.1 Λ κ σ) (hw : WF0 σ) (b : Int) (hb : 0 ≤ b ∧ b < s_nb σ) (g : Int) (hg : 0 ≤ g ∧ g ≤ 3) (n : Int) (h0 : 0 ≤ n) (ss0 : List (Int × Int)) (hss0 : StrP σ b g ss0 0) (hm9 : n < (ss0.length : Int)) (hl25 : (ss0.length : Int) ≤ 25) : tm_Con γ (tm_h2 γ.2.1 γ.2.2.1 γ.2.2.2.1) M_X0_stretchStart 6 0 0 [.ref (k_bo κ b), .int (I n), .int (I g)] Λ (fun v w' => Λ = w' ∧ ∃ s e, v = some (.int (I s)) ∧ ss0[n.toNat]? = some (s, e)) := by
  obtain ⟨m, rfl⟩ := Int.eq_ofNat_of_zero_le h0
  exact c_B_start γ hst Λ κ σ hM hw b hb g hg m ss0 hss0 (by omega) hl25

set_option maxHeartbeats 4000000 in
set_option maxRecDepth 100000 in
theorem c_T_within (γ : tmG) (hst : γ.1.stackTraces = false) (Λ : tmL) (v l g : Int) (hr : (-2147483648 ≤ v ∧ v ≤ 2147483647) ∧ (-2147483648 ≤ l ∧ l ≤ 2147483647) ∧ (-2147483648 ≤ g ∧ g ≤ 2147483647)) : tm_Con γ (tm_h2 γ.2.1 γ.2.2.1 γ.2.2.2.1) M_X5_isWithin 1 0 0 [.int (I (v)), .int (I (l)), .int (I (g))] Λ (fun r w' => Λ = w' ∧ r = some (.int (I (bi (l ≤ v ∧ v ≤ g))))) := by
  refine tm_con hst (by decide) (Nat.le_of_ble_eq_true rfl) (fun x hB hR => ?_)
  have hg := hB.1
  subst hg
  have hC : tm_C x cX5_isWithin RX5 (some FieldType.boolean) := hB.2.2.2.1
  have hr9 := hr
  show tm_V x (tm_H x Λ) 0 0 0 [(0, .int (I (v))), (1, .int (I (l))), (2, .int (I (g)))] []
  refine tm_iload_n 0 hC dX5_isWithin_0 rfl rfl ?_
  refine tm_iload_n 1 hC dX5_isWithin_1 rfl rfl ?_
  refine tm_icmp_lt 14 hC dX5_isWithin_2 (by decide) (by omega) (fun c_2 => ?_) (fun c_2 => ?_)
  · refine tm_iconst hC dX5_isWithin_14 ?_
    exact tm_zret hC hR dX5_isWithin_15 (by omega) (⟨rfl, by rw [bi_f (by omega)]⟩)
  · refine tm_iload_n 0 hC dX5_isWithin_5 rfl rfl ?_
    refine tm_iload_n 2 hC dX5_isWithin_6 rfl rfl ?_
    refine tm_icmp_gt 14 hC dX5_isWithin_7 (by decide) (by omega) (fun c_7 => ?_) (fun c_7 => ?_)
    · refine tm_iconst hC dX5_isWithin_14 ?_
      exact tm_zret hC hR dX5_isWithin_15 (by omega) (⟨rfl, by rw [bi_f (by omega)]⟩)
    · refine tm_iconst hC dX5_isWithin_10 ?_
      refine tm_goto 15 hC dX5_isWithin_11 (by decide) ?_
      exact tm_zret hC hR dX5_isWithin_15 (by omega) (⟨rfl, by rw [bi_t (by omega)]⟩)

set_option maxHeartbeats 4000000 in
set_option maxRecDepth 100000 in
theorem c_T_isGrade (γ : tmG) (hst : γ.1.stackTraces = false) (Λ : tmL) (g : Int) (hr : (-2147483648 ≤ g ∧ g ≤ 2147483647)) : tm_Con γ (tm_h2 γ.2.1 γ.2.2.1 γ.2.2.2.1) M_X5_isGrade 2 0 0 [.int (I (g))] Λ (fun r w' => Λ = w' ∧ r = some (.int (I (bi (0 ≤ g ∧ g ≤ 3))))) := by
  refine tm_con hst (by decide) (Nat.le_of_ble_eq_true rfl) (fun x hB hR => ?_)
  have hg := hB.1
  subst hg
  have hC : tm_C x cX5_isGrade RX5 (some FieldType.boolean) := hB.2.2.2.1
  have hr9 := hr
  show tm_V x (tm_H x Λ) 0 0 0 [(0, .int (I (g)))] []
  refine tm_iload_n 0 hC dX5_isGrade_0 rfl rfl ?_
  refine tm_iconst hC dX5_isGrade_1 ?_
  refine tm_iconst hC dX5_isGrade_2 ?_
  refine tm_callS (b := 0) (n := 0) (rest := []) hC (c_T_within (tm_g x) hst _ g 0 3 (by omega)) k_X5_39 (by rw [hB.2.2.1]; exact ⟨Nat.le_of_ble_eq_true rfl, Nat.le_of_ble_eq_true rfl⟩) rfl rfl (by decide) dX5_isGrade_3 (fun v_3 w_3 hp_3 => ?_)
  obtain ⟨rfl, rfl⟩ := hp_3
  show tm_V x (tm_H x Λ) 0 0 6 [(0, .int (I (g)))] [.int (I (bi (0 ≤ g ∧ g ≤ 3)))]
  exact tm_zret hC hR dX5_isGrade_6 (bi_01 _) (⟨rfl, rfl⟩)

set_option maxHeartbeats 4000000 in
set_option maxRecDepth 100000 in
theorem c_T_check (γ : tmG) (hst : γ.1.stackTraces = false) (Λ : tmL) (g : Int) (hr : (-2147483648 ≤ g ∧ g ≤ 2147483647)) : tm_ConX γ (tm_h2 γ.2.1 γ.2.2.1 γ.2.2.2.1) M_X5_checkGrade 6 1 6 [.int (I (g))] Λ (fun r w' => Λ = w' ∧ r = none ∧ 0 ≤ g ∧ g ≤ 3) (fun E w' => Λ = w' ∧ E = "java/lang/IllegalArgumentException" ∧ ¬ (0 ≤ g ∧ g ≤ 3)) := by
  refine tm_conX hst (by decide) (Nat.le_of_ble_eq_true rfl) (fun x hB hR hnt => ?_)
  have hg := hB.1
  subst hg
  have hC : tm_C x cX5_checkGrade RX5 (none) := hB.2.2.2.1
  have hr9 := hr
  show tm_V x (tm_H x Λ) 1 6 0 [(0, .int (I (g)))] []
  refine tm_iload_n 0 hC dX5_checkGrade_0 rfl rfl ?_
  refine tm_callS (b := 1) (n := 6) (rest := []) hC (c_T_isGrade (tm_g x) hst _ g (by omega)) k_X5_43 (by rw [hB.2.2.1]; exact ⟨Nat.le_of_ble_eq_true rfl, Nat.le_of_ble_eq_true rfl⟩) rfl rfl (by decide) dX5_checkGrade_1 (fun v_1 w_1 hp_1 => ?_)
  obtain ⟨rfl, rfl⟩ := hp_1
  show tm_V x (tm_H x Λ) 1 6 4 [(0, .int (I (g)))] [.int (I (bi (0 ≤ g ∧ g ≤ 3)))]
  refine tm_ifb_ne 18 hC dX5_checkGrade_4 (by decide) (fun c_4 => ?_) (fun c_4 => ?_)
  · exact tm_vretX hC hR dX5_checkGrade_18 (⟨rfl, rfl, by omega⟩)
  · refine tm_less (b' := 1 + 0) (n' := 6 + 0) ⟨by omega, by omega⟩ ?_
    exact tm_throwW hC hR hnt tm_kp2 th_iae sr_287 (by rw [hB.2.2.1]; exact ⟨Nat.le_of_ble_eq_true rfl, Nat.le_of_ble_eq_true rfl⟩) (by decide) dX5_checkGrade_7 dX5_checkGrade_10 dX5_checkGrade_11 dX5_checkGrade_14 dX5_checkGrade_17 (⟨rfl, rfl, c_4⟩)

set_option maxHeartbeats 4000000 in
set_option maxRecDepth 100000 in
theorem c_T_board (γ : tmG) (hst : γ.1.stackTraces = false) (Λ : tmL) (κ : KP) (σ : ST) (hM : RC γ.2.2.1 Λ κ σ) (hw : WF0 σ) (b : Int) (hr : (-2147483648 ≤ b ∧ b ≤ 2147483647)) : tm_ConX γ (tm_h2 γ.2.1 γ.2.2.1 γ.2.2.2.1) M_X5_boardNumbered 6 1 6 [.ref (k_o κ), .int (I (b))] Λ (fun r w' => Λ = w' ∧ r = some (.ref (k_bo κ b)) ∧ 0 ≤ b ∧ b < s_nb σ) (fun E w' => Λ = w' ∧ E = "java/lang/IndexOutOfBoundsException" ∧ ¬ (0 ≤ b ∧ b < s_nb σ)) := by
  refine tm_conX hst (by decide) (Nat.le_of_ble_eq_true rfl) (fun x hB hR hnt => ?_)
  have hg := hB.1
  subst hg
  have hC : tm_C x cX5_boardNumbered RX5 (some (FieldType.object "TimberList$Board")) := hB.2.2.2.1
  have hn := wf_n hw
  show tm_V x (tm_H x Λ) 1 6 0 [(0, .ref (k_o κ)), (1, .int (I (b)))] []
  refine tm_iload_n 1 hC dX5_boardNumbered_0 rfl rfl ?_
  refine tm_if_lt 15 hC dX5_boardNumbered_1 (by decide) (by omega) (fun c_1 => ?_) (fun c_1 => ?_)
  · refine tm_less (b' := 1 + 0) (n' := 6 + 0) ⟨by omega, by omega⟩ ?_
    exact tm_throwW hC hR hnt tm_kp2 th_iob sr_289 (by rw [hB.2.2.1]; exact ⟨Nat.le_of_ble_eq_true rfl, Nat.le_of_ble_eq_true rfl⟩) (by decide) dX5_boardNumbered_15 dX5_boardNumbered_18 dX5_boardNumbered_19 dX5_boardNumbered_22 dX5_boardNumbered_25 (⟨rfl, rfl, by omega⟩)
  · refine tm_iload_n 1 hC dX5_boardNumbered_4 rfl rfl ?_
    refine tm_aload_n 0 hC dX5_boardNumbered_5 rfl rfl ?_
    have hx1 := rc_o hM
    refine tm_getf2 hC f_X5_10 hx1 rfl dX5_boardNumbered_6 ?_
    refine tm_callV (b := 1) (n := 6) (rest := [.int (I (b))]) hC (c_Lsz (tm_g x) hst _ _ _ (s_nb σ) (rc_lb hM) (len_b hw)) k_X5_54 (by rw [hB.2.2.1]; exact ⟨Nat.le_of_ble_eq_true rfl, Nat.le_of_ble_eq_true rfl⟩) rfl (tm_recL hC (rc_lb hM)) rfl (by simp [Value.category]) dX5_boardNumbered_9 (fun v_9 w_9 hp_9 => ?_)
    obtain ⟨rfl, rfl⟩ := hp_9
    show tm_V x (tm_H x Λ) 1 6 12 [(0, .ref (k_o κ)), (1, .int (I (b)))] [.int (I (s_nb σ)), .int (I (b))]
    refine tm_icmp_lt 26 hC dX5_boardNumbered_12 (by decide) (by omega) (fun c_12 => ?_) (fun c_12 => ?_)
    · refine tm_aload_n 0 hC dX5_boardNumbered_26 rfl rfl ?_
      refine tm_getf2 hC f_X5_10 hx1 rfl dX5_boardNumbered_27 ?_
      refine tm_iload_n 1 hC dX5_boardNumbered_30 rfl rfl ?_
      refine tm_callV (b := 1) (n := 6) (rest := []) hC (c_Lget (tm_g x) hst _ _ _ b (k_bo κ b) (rc_lb hM) (by omega) (rc_bat b (by omega))) k_X5_230 (by rw [hB.2.2.1]; exact ⟨Nat.le_of_ble_eq_true rfl, Nat.le_of_ble_eq_true rfl⟩) rfl (tm_recL hC (rc_lb hM)) rfl (by decide) dX5_boardNumbered_31 (fun v_31 w_31 hp_31 => ?_)
      obtain ⟨rfl, rfl⟩ := hp_31
      show tm_V x (tm_H x Λ) 1 6 34 [(0, .ref (k_o κ)), (1, .int (I (b)))] [.ref (k_bo κ b)]
      have hx2 := rc_B hM b (by omega)
      refine tm_cast2 hC hx2 rfl w_X5_63 dX5_boardNumbered_34 ?_
      exact tm_aretX hC hR (Or.inl ⟨_, rfl⟩) dX5_boardNumbered_37 (⟨rfl, rfl, by omega⟩)
    · refine tm_less (b' := 1 + 0) (n' := 6 + 0) ⟨by omega, by omega⟩ ?_
      exact tm_throwW hC hR hnt tm_kp2 th_iob sr_289 (by rw [hB.2.2.1]; exact ⟨Nat.le_of_ble_eq_true rfl, Nat.le_of_ble_eq_true rfl⟩) (by decide) dX5_boardNumbered_15 dX5_boardNumbered_18 dX5_boardNumbered_19 dX5_boardNumbered_22 dX5_boardNumbered_25 (⟨rfl, rfl, by omega⟩)

set_option maxHeartbeats 4000000 in
set_option maxRecDepth 100000 in
theorem c_T_part (γ : tmG) (hst : γ.1.stackTraces = false) (Λ : tmL) (κ : KP) (σ : ST) (hM : RC γ.2.2.1 Λ κ σ) (hw : WF0 σ) (p : Int) (hr : (-2147483648 ≤ p ∧ p ≤ 2147483647)) : tm_ConX γ (tm_h2 γ.2.1 γ.2.2.1 γ.2.2.2.1) M_X5_partNumbered 6 1 6 [.ref (k_o κ), .int (I (p))] Λ (fun r w' => Λ = w' ∧ r = some (.ref (k_pa κ p)) ∧ 0 ≤ p ∧ p < s_np σ) (fun E w' => Λ = w' ∧ E = "java/lang/IndexOutOfBoundsException" ∧ ¬ (0 ≤ p ∧ p < s_np σ)) := by
  refine tm_conX hst (by decide) (Nat.le_of_ble_eq_true rfl) (fun x hB hR hnt => ?_)
  have hg := hB.1
  subst hg
  have hC : tm_C x cX5_partNumbered RX5 (some (FieldType.object "TimberList$Part")) := hB.2.2.2.1
  have hn := wf_n hw
  show tm_V x (tm_H x Λ) 1 6 0 [(0, .ref (k_o κ)), (1, .int (I (p)))] []
  refine tm_iload_n 1 hC dX5_partNumbered_0 rfl rfl ?_
  refine tm_if_lt 15 hC dX5_partNumbered_1 (by decide) (by omega) (fun c_1 => ?_) (fun c_1 => ?_)
  · refine tm_less (b' := 1 + 0) (n' := 6 + 0) ⟨by omega, by omega⟩ ?_
    exact tm_throwW hC hR hnt tm_kp2 th_iob sr_291 (by rw [hB.2.2.1]; exact ⟨Nat.le_of_ble_eq_true rfl, Nat.le_of_ble_eq_true rfl⟩) (by decide) dX5_partNumbered_15 dX5_partNumbered_18 dX5_partNumbered_19 dX5_partNumbered_22 dX5_partNumbered_25 (⟨rfl, rfl, by omega⟩)
  · refine tm_iload_n 1 hC dX5_partNumbered_4 rfl rfl ?_
    refine tm_aload_n 0 hC dX5_partNumbered_5 rfl rfl ?_
    have hx1 := rc_o hM
    refine tm_getf2 hC f_X5_16 hx1 rfl dX5_partNumbered_6 ?_
    refine tm_callV (b := 1) (n := 6) (rest := [.int (I (p))]) hC (c_Lsz (tm_g x) hst _ _ _ (s_np σ) (rc_lp hM) (len_p hw)) k_X5_54 (by rw [hB.2.2.1]; exact ⟨Nat.le_of_ble_eq_true rfl, Nat.le_of_ble_eq_true rfl⟩) rfl (tm_recL hC (rc_lp hM)) rfl (by simp [Value.category]) dX5_partNumbered_9 (fun v_9 w_9 hp_9 => ?_)
    obtain ⟨rfl, rfl⟩ := hp_9
    show tm_V x (tm_H x Λ) 1 6 12 [(0, .ref (k_o κ)), (1, .int (I (p)))] [.int (I (s_np σ)), .int (I (p))]
    refine tm_icmp_lt 26 hC dX5_partNumbered_12 (by decide) (by omega) (fun c_12 => ?_) (fun c_12 => ?_)
    · refine tm_aload_n 0 hC dX5_partNumbered_26 rfl rfl ?_
      refine tm_getf2 hC f_X5_16 hx1 rfl dX5_partNumbered_27 ?_
      refine tm_iload_n 1 hC dX5_partNumbered_30 rfl rfl ?_
      refine tm_callV (b := 1) (n := 6) (rest := []) hC (c_Lget (tm_g x) hst _ _ _ p (k_pa κ p) (rc_lp hM) (by omega) (rc_pat p (by omega))) k_X5_230 (by rw [hB.2.2.1]; exact ⟨Nat.le_of_ble_eq_true rfl, Nat.le_of_ble_eq_true rfl⟩) rfl (tm_recL hC (rc_lp hM)) rfl (by decide) dX5_partNumbered_31 (fun v_31 w_31 hp_31 => ?_)
      obtain ⟨rfl, rfl⟩ := hp_31
      show tm_V x (tm_H x Λ) 1 6 34 [(0, .ref (k_o κ)), (1, .int (I (p)))] [.ref (k_pa κ p)]
      have hx2 := rc_P hM p (by omega)
      refine tm_cast2 hC hx2 rfl w_X5_99 dX5_partNumbered_34 ?_
      exact tm_aretX hC hR (Or.inl ⟨_, rfl⟩) dX5_partNumbered_37 (⟨rfl, rfl, by omega⟩)
    · refine tm_less (b' := 1 + 0) (n' := 6 + 0) ⟨by omega, by omega⟩ ?_
      exact tm_throwW hC hR hnt tm_kp2 th_iob sr_291 (by rw [hB.2.2.1]; exact ⟨Nat.le_of_ble_eq_true rfl, Nat.le_of_ble_eq_true rfl⟩) (by decide) dX5_partNumbered_15 dX5_partNumbered_18 dX5_partNumbered_19 dX5_partNumbered_22 dX5_partNumbered_25 (⟨rfl, rfl, by omega⟩)

set_option maxHeartbeats 4000000 in
set_option maxRecDepth 100000 in
theorem c_T_grade (γ : tmG) (hst : γ.1.stackTraces = false) (Λ : tmL) (κ : KP) (σ : ST) (hM : RC γ.2.2.1 Λ κ σ) (hw : WF0 σ) (b pl : Int) (hr : (-2147483648 ≤ b ∧ b ≤ 2147483647) ∧ (-2147483648 ≤ pl ∧ pl ≤ 2147483647)) : tm_ConX γ (tm_h2 γ.2.1 γ.2.2.1 γ.2.2.2.1) M_X5_grade 7 2 12 [.ref (k_o κ), .int (I (b)), .int (I (pl))] Λ (fun v w' => Λ = w' ∧ ∃ r, v = some (.int (I r)) ∧ Sp_grade σ b pl 0 r) (fun E w' => Λ = w' ∧ ((E = "java/lang/IndexOutOfBoundsException" ∧ Sp_grade σ b pl 1 0))) := by
  refine tm_conX hst (by decide) (Nat.le_of_ble_eq_true rfl) (fun x hB hR hnt => ?_)
  have hg := hB.1
  subst hg
  have hC : tm_C x cX5_grade RX5 (some FieldType.int) := hB.2.2.2.1
  have hn := wf_n hw
  show tm_V x (tm_H x Λ) 2 12 0 [(0, .ref (k_o κ)), (1, .int (I (b))), (2, .int (I (pl)))] []
  refine tm_aload_n 0 hC dX5_grade_0 rfl rfl ?_
  refine tm_iload_n 1 hC dX5_grade_1 rfl rfl ?_
  refine tm_less (b' := 1 + 1) (n' := 6 + 6) ⟨by omega, by omega⟩ ?_
  refine tm_callVX (b := 1) (n := 6) (rest := []) hC hR hnt (c_T_board (tm_g x) hst Λ κ σ hM hw b (by omega)) k_X5_72 (by rw [hB.2.2.1]; exact ⟨Nat.le_of_ble_eq_true rfl, Nat.le_of_ble_eq_true rfl⟩) rfl (tm_rec2 hC (rc_o hM) rfl) rfl (by decide) dX5_grade_2 (fun E9 w9 z9 => ⟨z9.1, ⟨z9.2.1, Or.inl ⟨fun q => z9.2.2 q.1, rfl⟩⟩⟩) (fun v_2 w_2 hp_2 => ?_)
  obtain ⟨rfl, rfl, hbb_2⟩ := hp_2
  have hbb9_2 := wf_b hw b hbb_2
  have hkl_2 := rc_len hM hw b hbb_2
  show tm_V x (tm_H x Λ) 1 6 5 [(0, .ref (k_o κ)), (1, .int (I (b))), (2, .int (I (pl)))] [.ref (k_bo κ b)]
  refine tm_astore_n [(3, .ref (k_bo κ b)), (0, .ref (k_o κ)), (1, .int (I (b))), (2, .int (I (pl)))] hC dX5_grade_5 rfl (by rw [hB.2.1]; exact Nat.le_of_ble_eq_true rfl) rfl ?_
  refine tm_iload_n 3 hC dX5_grade_6 rfl rfl ?_
  refine tm_if_lt 18 hC dX5_grade_7 (by decide) (by omega) (fun c_7 => ?_) (fun c_7 => ?_)
  · refine tm_less (b' := 1 + 0) (n' := 6 + 0) ⟨by omega, by omega⟩ ?_
    exact tm_throw hC hR hnt tm_kp2 th_iob sr_123 (by rw [hB.2.2.1]; exact ⟨Nat.le_of_ble_eq_true rfl, Nat.le_of_ble_eq_true rfl⟩) (by decide) dX5_grade_18 dX5_grade_21 dX5_grade_22 dX5_grade_24 dX5_grade_27 (⟨rfl, ⟨rfl, Or.inl ⟨by omega, rfl⟩⟩⟩)
  · refine tm_iload_n 3 hC dX5_grade_10 rfl rfl ?_
    refine tm_aload_n 0 hC dX5_grade_11 rfl rfl ?_
    have hx1 := rc_B hM b (by omega)
    refine tm_getf2 hC f_X5_76 hx1 rfl dX5_grade_12 ?_
    refine tm_icmp_lt 28 hC dX5_grade_15 (by decide) (by omega) (fun c_15 => ?_) (fun c_15 => ?_)
    · refine tm_aload_n 0 hC dX5_grade_28 rfl rfl ?_
      refine tm_iload_n 3 hC dX5_grade_29 rfl rfl ?_
      refine tm_callVN (b := 1) (n := 6) (rest := []) hC (c_B_gradeAt (tm_g x) hst Λ κ σ hM hw b (by omega) pl (by omega)) k_X5_126 (by rw [hB.2.2.1]; exact ⟨Nat.le_of_ble_eq_true rfl, Nat.le_of_ble_eq_true rfl⟩) rfl (tm_rec2 hC (rc_B hM b (by omega)) rfl) rfl (by decide) dX5_grade_30 (fun v_30 w_30 hp_30 => ?_)
      obtain ⟨rfl, gr_30, rfl, hgr_30⟩ := hp_30
      show tm_V x (tm_H x Λ) 1 6 33 [(3, .ref (k_bo κ b)), (0, .ref (k_o κ)), (1, .int (I (b))), (2, .int (I (pl)))] [.int (I (gr_30))]
      exact tm_iretX hC hR dX5_grade_33 (⟨rfl, _, rfl, Or.inr ⟨by omega, rfl, hgr_30⟩⟩)
    · refine tm_less (b' := 1 + 0) (n' := 6 + 0) ⟨by omega, by omega⟩ ?_
      exact tm_throw hC hR hnt tm_kp2 th_iob sr_123 (by rw [hB.2.2.1]; exact ⟨Nat.le_of_ble_eq_true rfl, Nat.le_of_ble_eq_true rfl⟩) (by decide) dX5_grade_18 dX5_grade_21 dX5_grade_22 dX5_grade_24 dX5_grade_27 (⟨rfl, ⟨rfl, Or.inl ⟨by omega, rfl⟩⟩⟩)

set_option maxHeartbeats 4000000 in
set_option maxRecDepth 100000 in
theorem c_T_stretches (γ : tmG) (hst : γ.1.stackTraces = false) (Λ : tmL) (κ : KP) (σ : ST) (hM : RC γ.2.2.1 Λ κ σ) (hw : WF0 σ) (b g : Int) (hr : (-2147483648 ≤ b ∧ b ≤ 2147483647) ∧ (-2147483648 ≤ g ∧ g ≤ 2147483647)) : tm_ConX γ (tm_h2 γ.2.1 γ.2.2.1 γ.2.2.2.1) M_X5_stretches 8 2 12 [.ref (k_o κ), .int (I (b)), .int (I (g))] Λ (fun v w' => Λ = w' ∧ ∃ r, v = some (.int (I r)) ∧ Sp_stretches σ b g 0 r) (fun E w' => Λ = w' ∧ ((E = "java/lang/IndexOutOfBoundsException" ∧ Sp_stretches σ b g 1 0) ∨ (E = "java/lang/IllegalArgumentException" ∧ Sp_stretches σ b g 2 0))) := by
  refine tm_conX hst (by decide) (Nat.le_of_ble_eq_true rfl) (fun x hB hR hnt => ?_)
  have hg := hB.1
  subst hg
  have hC : tm_C x cX5_stretches RX5 (some FieldType.int) := hB.2.2.2.1
  have hn := wf_n hw
  show tm_V x (tm_H x Λ) 2 12 0 [(0, .ref (k_o κ)), (1, .int (I (b))), (2, .int (I (g)))] []
  refine tm_aload_n 0 hC dX5_stretches_0 rfl rfl ?_
  refine tm_iload_n 1 hC dX5_stretches_1 rfl rfl ?_
  refine tm_less (b' := 1 + 1) (n' := 6 + 6) ⟨by omega, by omega⟩ ?_
  refine tm_callVX (b := 1) (n := 6) (rest := []) hC hR hnt (c_T_board (tm_g x) hst Λ κ σ hM hw b (by omega)) k_X5_72 (by rw [hB.2.2.1]; exact ⟨Nat.le_of_ble_eq_true rfl, Nat.le_of_ble_eq_true rfl⟩) rfl (tm_rec2 hC (rc_o hM) rfl) rfl (by decide) dX5_stretches_2 (fun E9 w9 z9 => ⟨z9.1, Or.inl (⟨z9.2.1, Or.inl ⟨z9.2.2, rfl⟩⟩)⟩) (fun v_2 w_2 hp_2 => ?_)
  obtain ⟨rfl, rfl, hbb_2⟩ := hp_2
  have hbb9_2 := wf_b hw b hbb_2
  have hkl_2 := rc_len hM hw b hbb_2
  show tm_V x (tm_H x Λ) 1 6 5 [(0, .ref (k_o κ)), (1, .int (I (b))), (2, .int (I (g)))] [.ref (k_bo κ b)]
  refine tm_astore_n [(3, .ref (k_bo κ b)), (0, .ref (k_o κ)), (1, .int (I (b))), (2, .int (I (g)))] hC dX5_stretches_5 rfl (by rw [hB.2.1]; exact Nat.le_of_ble_eq_true rfl) rfl ?_
  refine tm_iload_n 3 hC dX5_stretches_6 rfl rfl ?_
  refine tm_less (b' := 1 + 0) (n' := 6 + 0) ⟨by omega, by omega⟩ ?_
  refine tm_callSX (b := 0) (n := 0) (rest := []) hC hR hnt (c_T_check (tm_g x) hst Λ g (by omega)) k_X5_130 (by rw [hB.2.2.1]; exact ⟨Nat.le_of_ble_eq_true rfl, Nat.le_of_ble_eq_true rfl⟩) rfl rfl (by decide) dX5_stretches_7 (fun E9 w9 z9 => ⟨z9.1, Or.inr (⟨z9.2.1, Or.inr (Or.inl ⟨by omega, z9.2.2, rfl⟩)⟩)⟩) (fun v_7 w_7 hp_7 => ?_)
  obtain ⟨rfl, rfl, hcg_7⟩ := hp_7
  show tm_V x (tm_H x Λ) 0 0 10 [(3, .ref (k_bo κ b)), (0, .ref (k_o κ)), (1, .int (I (b))), (2, .int (I (g)))] []
  refine tm_aload_n 0 hC dX5_stretches_10 rfl rfl ?_
  refine tm_iload_n 3 hC dX5_stretches_11 rfl rfl ?_
  refine tm_callVN (b := 0) (n := 0) (rest := []) hC (c_B_count (tm_g x) hst Λ κ σ hM hw b (by omega) g (by omega)) k_X5_134 (by rw [hB.2.2.1]; exact ⟨Nat.le_of_ble_eq_true rfl, Nat.le_of_ble_eq_true rfl⟩) rfl (tm_rec2 hC (rc_B hM b (by omega)) rfl) rfl (by decide) dX5_stretches_12 (fun v_12 w_12 hp_12 => ?_)
  obtain ⟨rfl, ss_12, rfl, hss_12, hsl_12⟩ := hp_12
  show tm_V x (tm_H x Λ) 0 0 15 [(3, .ref (k_bo κ b)), (0, .ref (k_o κ)), (1, .int (I (b))), (2, .int (I (g)))] [.int (I ((ss_12.length : Int)))]
  exact tm_iretX hC hR dX5_stretches_15 (⟨rfl, _, rfl, Or.inr (Or.inr ⟨by omega, by omega, rfl, ss_12, hss_12, rfl⟩)⟩)

set_option maxHeartbeats 4000000 in
set_option maxRecDepth 100000 in
theorem c_T_stretch (γ : tmG) (hst : γ.1.stackTraces = false) (Λ : tmL) (κ : KP) (σ : ST) (hM : RC γ.2.2.1 Λ κ σ) (hw : WF0 σ) (b g n e : Int) (hr : (-2147483648 ≤ b ∧ b ≤ 2147483647) ∧ (-2147483648 ≤ g ∧ g ≤ 2147483647) ∧ (-2147483648 ≤ n ∧ n ≤ 2147483647) ∧ (e = 0 ∨ e = 1)) : tm_ConX γ (tm_h2 γ.2.1 γ.2.2.1 γ.2.2.2.1) M_X5_stretch 8 3 18 [.ref (k_o κ), .int (I (b)), .int (I (g)), .int (I (n)), .int (I (e))] Λ (fun v w' => Λ = w' ∧ ∃ r, v = some (.int (I r)) ∧ Sp_stretch σ b g n e 0 r) (fun E w' => Λ = w' ∧ ((E = "java/lang/IndexOutOfBoundsException" ∧ Sp_stretch σ b g n e 1 0) ∨ (E = "java/lang/IllegalArgumentException" ∧ Sp_stretch σ b g n e 2 0))) := by
  refine tm_conX hst (by decide) (Nat.le_of_ble_eq_true rfl) (fun x hB hR hnt => ?_)
  have hg := hB.1
  subst hg
  have hC : tm_C x cX5_stretch RX5 (some FieldType.int) := hB.2.2.2.1
  have hn := wf_n hw
  show tm_V x (tm_H x Λ) 3 18 0 [(0, .ref (k_o κ)), (1, .int (I (b))), (2, .int (I (g))), (3, .int (I (n))), (4, .int (I (e)))] []
  refine tm_aload_n 0 hC dX5_stretch_0 rfl rfl ?_
  refine tm_iload_n 1 hC dX5_stretch_1 rfl rfl ?_
  refine tm_less (b' := 1 + 2) (n' := 6 + 12) ⟨by omega, by omega⟩ ?_
  refine tm_callVX (b := 2) (n := 12) (rest := []) hC hR hnt (c_T_board (tm_g x) hst Λ κ σ hM hw b (by omega)) k_X5_72 (by rw [hB.2.2.1]; exact ⟨Nat.le_of_ble_eq_true rfl, Nat.le_of_ble_eq_true rfl⟩) rfl (tm_rec2 hC (rc_o hM) rfl) rfl (by decide) dX5_stretch_2 (fun E9 w9 z9 => ⟨z9.1, Or.inl (⟨z9.2.1, Or.inl ⟨z9.2.2, rfl⟩⟩)⟩) (fun v_2 w_2 hp_2 => ?_)
  obtain ⟨rfl, rfl, hbb_2⟩ := hp_2
  have hbb9_2 := wf_b hw b hbb_2
  have hkl_2 := rc_len hM hw b hbb_2
  show tm_V x (tm_H x Λ) 2 12 5 [(0, .ref (k_o κ)), (1, .int (I (b))), (2, .int (I (g))), (3, .int (I (n))), (4, .int (I (e)))] [.ref (k_bo κ b)]
  refine tm_astore [(5, .ref (k_bo κ b)), (0, .ref (k_o κ)), (1, .int (I (b))), (2, .int (I (g))), (3, .int (I (n))), (4, .int (I (e)))] hC dX5_stretch_5 (by rw [hB.2.1]; exact Nat.le_of_ble_eq_true rfl) rfl ?_
  refine tm_iload_n 3 hC dX5_stretch_7 rfl rfl ?_
  refine tm_less (b' := 1 + 1) (n' := 6 + 6) ⟨by omega, by omega⟩ ?_
  refine tm_callSX (b := 1) (n := 6) (rest := []) hC hR hnt (c_T_check (tm_g x) hst Λ g (by omega)) k_X5_130 (by rw [hB.2.2.1]; exact ⟨Nat.le_of_ble_eq_true rfl, Nat.le_of_ble_eq_true rfl⟩) rfl rfl (by decide) dX5_stretch_8 (fun E9 w9 z9 => ⟨z9.1, Or.inr (⟨z9.2.1, Or.inr (Or.inl ⟨by omega, rfl, Or.inl z9.2.2⟩)⟩)⟩) (fun v_8 w_8 hp_8 => ?_)
  obtain ⟨rfl, rfl, hcg_8⟩ := hp_8
  show tm_V x (tm_H x Λ) 1 6 11 [(5, .ref (k_bo κ b)), (0, .ref (k_o κ)), (1, .int (I (b))), (2, .int (I (g))), (3, .int (I (n))), (4, .int (I (e)))] []
  refine tm_iload_n 4 hC dX5_stretch_11 rfl rfl ?_
  refine tm_if_lt 25 hC dX5_stretch_12 (by decide) (by omega) (fun c_12 => ?_) (fun c_12 => ?_)
  · refine tm_less (b' := 1 + 0) (n' := 6 + 0) ⟨by omega, by omega⟩ ?_
    exact tm_throw hC hR hnt tm_kp2 th_iae sr_137 (by rw [hB.2.2.1]; exact ⟨Nat.le_of_ble_eq_true rfl, Nat.le_of_ble_eq_true rfl⟩) (by decide) dX5_stretch_25 dX5_stretch_28 dX5_stretch_29 dX5_stretch_31 dX5_stretch_34 (⟨rfl, Or.inr ⟨rfl, Or.inr (Or.inl ⟨by omega, rfl, Or.inr (Or.inl (by omega))⟩)⟩⟩)
  · refine tm_iload_n 4 hC dX5_stretch_15 rfl rfl ?_
    refine tm_aload 0 hC dX5_stretch_16 rfl ?_
    refine tm_iload_n 3 hC dX5_stretch_18 rfl rfl ?_
    refine tm_callVN (b := 1) (n := 6) (rest := [.int (I (n))]) hC (c_B_count (tm_g x) hst Λ κ σ hM hw b (by omega) g (by omega)) k_X5_134 (by rw [hB.2.2.1]; exact ⟨Nat.le_of_ble_eq_true rfl, Nat.le_of_ble_eq_true rfl⟩) rfl (tm_rec2 hC (rc_B hM b (by omega)) rfl) rfl (by simp [Value.category]) dX5_stretch_19 (fun v_19 w_19 hp_19 => ?_)
    obtain ⟨rfl, ss_19, rfl, hss_19, hsl_19⟩ := hp_19
    show tm_V x (tm_H x Λ) 1 6 22 [(5, .ref (k_bo κ b)), (0, .ref (k_o κ)), (1, .int (I (b))), (2, .int (I (g))), (3, .int (I (n))), (4, .int (I (e)))] [.int (I ((ss_19.length : Int))), .int (I (n))]
    refine tm_icmp_lt 35 hC dX5_stretch_22 (by decide) (by omega) (fun c_22 => ?_) (fun c_22 => ?_)
    · refine tm_aload 0 hC dX5_stretch_35 rfl ?_
      refine tm_iload_n 4 hC dX5_stretch_37 rfl rfl ?_
      refine tm_iload_n 3 hC dX5_stretch_38 rfl rfl ?_
      refine tm_callVN (b := 1) (n := 6) (rest := []) hC (c_B_startZ (tm_g x) hst Λ κ σ hM hw b (by omega) g (by omega) n (by omega) ss_19 hss_19 (by omega) (by omega)) k_X5_139 (by rw [hB.2.2.1]; exact ⟨Nat.le_of_ble_eq_true rfl, Nat.le_of_ble_eq_true rfl⟩) rfl (tm_rec2 hC (rc_B hM b (by omega)) rfl) rfl (by decide) dX5_stretch_39 (fun v_39 w_39 hp_39 => ?_)
      obtain ⟨rfl, s9, e9, rfl, hat9⟩ := hp_39
      obtain ⟨hsa9, hfw9⟩ := str_at ss_19 0 hss_19 n.toNat s9 e9 hat9
      show tm_V x (tm_H x Λ) 1 6 42 [(5, .ref (k_bo κ b)), (0, .ref (k_o κ)), (1, .int (I (b))), (2, .int (I (g))), (3, .int (I (n))), (4, .int (I (e)))] [.int (I (s9))]
      refine tm_istore [(6, .int (I (s9))), (5, .ref (k_bo κ b)), (0, .ref (k_o κ)), (1, .int (I (b))), (2, .int (I (g))), (3, .int (I (n))), (4, .int (I (e)))] hC dX5_stretch_42 (by rw [hB.2.1]; exact Nat.le_of_ble_eq_true rfl) rfl ?_
      refine tm_iload 6 hC dX5_stretch_44 rfl ?_
      refine tm_if_eq 60 hC dX5_stretch_46 (by decide) (by omega) (fun c_46 => ?_) (fun c_46 => ?_)
      · refine tm_iload 0 hC dX5_stretch_60 rfl ?_
        exact tm_iretX hC hR dX5_stretch_62 (⟨rfl, _, rfl, Or.inr (Or.inr ⟨by omega, by omega, by omega, rfl, ss_19, s9, e9, hss_19, hat9, (if_pos (by omega)).symm⟩)⟩)
      · refine tm_aload 1 hC dX5_stretch_49 rfl ?_
        refine tm_iload 0 hC dX5_stretch_51 rfl ?_
        refine tm_iload_n 4 hC dX5_stretch_53 rfl rfl ?_
        refine tm_callVN (b := 1) (n := 6) (rest := []) hC (c_B_firstWorse (tm_g x) hst Λ κ σ hM hw b (by omega) s9 g (by omega)) k_X5_143 (by rw [hB.2.2.1]; exact ⟨Nat.le_of_ble_eq_true rfl, Nat.le_of_ble_eq_true rfl⟩) rfl (tm_rec2 hC (rc_B hM b (by omega)) rfl) rfl (by decide) dX5_stretch_54 (fun v_54 w_54 hp_54 => ?_)
        obtain ⟨rfl, fw_54, rfl, hfw_54⟩ := hp_54
        show tm_V x (tm_H x Λ) 1 6 57 [(6, .int (I (s9))), (5, .ref (k_bo κ b)), (0, .ref (k_o κ)), (1, .int (I (b))), (2, .int (I (g))), (3, .int (I (n))), (4, .int (I (e)))] [.int (I (fw_54))]
        refine tm_goto 62 hC dX5_stretch_57 (by decide) ?_
        exact tm_iretX hC hR dX5_stretch_62 (⟨rfl, _, rfl, Or.inr (Or.inr ⟨by omega, by omega, by omega, rfl, ss_19, s9, e9, hss_19, hat9, (by rw [if_neg (by omega)]; exact isFW_u hfw_54 hfw9)⟩)⟩)
    · refine tm_less (b' := 1 + 0) (n' := 6 + 0) ⟨by omega, by omega⟩ ?_
      exact tm_throw hC hR hnt tm_kp2 th_iae sr_137 (by rw [hB.2.2.1]; exact ⟨Nat.le_of_ble_eq_true rfl, Nat.le_of_ble_eq_true rfl⟩) (by decide) dX5_stretch_25 dX5_stretch_28 dX5_stretch_29 dX5_stretch_31 dX5_stretch_34 (⟨rfl, Or.inr ⟨rfl, Or.inr (Or.inl ⟨by omega, rfl, Or.inr (Or.inr ⟨by omega, ss_19, hss_19, by omega⟩)⟩)⟩⟩)

set_option maxHeartbeats 4000000 in
set_option maxRecDepth 100000 in
theorem c_T_fits (γ : tmG) (hst : γ.1.stackTraces = false) (Λ : tmL) (κ : KP) (σ : ST) (hM : RC γ.2.2.1 Λ κ σ) (hw : WF0 σ) (p b pl : Int) (hr : (-2147483648 ≤ p ∧ p ≤ 2147483647) ∧ (-2147483648 ≤ b ∧ b ≤ 2147483647) ∧ (-2147483648 ≤ pl ∧ pl ≤ 2147483647)) : tm_ConX γ (tm_h2 γ.2.1 γ.2.2.1 γ.2.2.2.1) M_X5_fits 7 2 12 [.ref (k_o κ), .int (I (p)), .int (I (b)), .int (I (pl))] Λ (fun v w' => Λ = w' ∧ ∃ r, v = some (.int (I r)) ∧ Sp_fits σ p b pl 0 r) (fun E w' => Λ = w' ∧ ((E = "java/lang/IndexOutOfBoundsException" ∧ Sp_fits σ p b pl 1 0))) := by
  refine tm_conX hst (by decide) (Nat.le_of_ble_eq_true rfl) (fun x hB hR hnt => ?_)
  have hg := hB.1
  subst hg
  have hC : tm_C x cX5_fits RX5 (some FieldType.boolean) := hB.2.2.2.1
  have hn := wf_n hw
  show tm_V x (tm_H x Λ) 2 12 0 [(0, .ref (k_o κ)), (1, .int (I (p))), (2, .int (I (b))), (3, .int (I (pl)))] []
  refine tm_aload_n 0 hC dX5_fits_0 rfl rfl ?_
  refine tm_iload_n 1 hC dX5_fits_1 rfl rfl ?_
  refine tm_less (b' := 1 + 1) (n' := 6 + 6) ⟨by omega, by omega⟩ ?_
  refine tm_callVX (b := 1) (n := 6) (rest := []) hC hR hnt (c_T_part (tm_g x) hst Λ κ σ hM hw p (by omega)) k_X5_146 (by rw [hB.2.2.1]; exact ⟨Nat.le_of_ble_eq_true rfl, Nat.le_of_ble_eq_true rfl⟩) rfl (tm_rec2 hC (rc_o hM) rfl) rfl (by decide) dX5_fits_2 (fun E9 w9 z9 => ⟨z9.1, ⟨z9.2.1, Or.inl ⟨fun q => z9.2.2 q.1, rfl⟩⟩⟩) (fun v_2 w_2 hp_2 => ?_)
  obtain ⟨rfl, rfl, hpp_2⟩ := hp_2
  have hpp9_2 := wf_p hw p hpp_2
  show tm_V x (tm_H x Λ) 1 6 5 [(0, .ref (k_o κ)), (1, .int (I (p))), (2, .int (I (b))), (3, .int (I (pl)))] [.ref (k_pa κ p)]
  refine tm_astore [(4, .ref (k_pa κ p)), (0, .ref (k_o κ)), (1, .int (I (p))), (2, .int (I (b))), (3, .int (I (pl)))] hC dX5_fits_5 (by rw [hB.2.1]; exact Nat.le_of_ble_eq_true rfl) rfl ?_
  refine tm_aload_n 1 hC dX5_fits_7 rfl rfl ?_
  refine tm_iload_n 3 hC dX5_fits_8 rfl rfl ?_
  refine tm_less (b' := 1 + 0) (n' := 6 + 0) ⟨by omega, by omega⟩ ?_
  refine tm_callVX (b := 0) (n := 0) (rest := []) hC hR hnt (c_T_board (tm_g x) hst Λ κ σ hM hw b (by omega)) k_X5_72 (by rw [hB.2.2.1]; exact ⟨Nat.le_of_ble_eq_true rfl, Nat.le_of_ble_eq_true rfl⟩) rfl (tm_rec2 hC (rc_o hM) rfl) rfl (by decide) dX5_fits_9 (fun E9 w9 z9 => ⟨z9.1, ⟨z9.2.1, Or.inl ⟨fun q => z9.2.2 q.2, rfl⟩⟩⟩) (fun v_9 w_9 hp_9 => ?_)
  obtain ⟨rfl, rfl, hbb_9⟩ := hp_9
  have hbb9_9 := wf_b hw b hbb_9
  have hkl_9 := rc_len hM hw b hbb_9
  show tm_V x (tm_H x Λ) 0 0 12 [(4, .ref (k_pa κ p)), (0, .ref (k_o κ)), (1, .int (I (p))), (2, .int (I (b))), (3, .int (I (pl)))] [.ref (k_bo κ b)]
  refine tm_aload 0 hC dX5_fits_12 rfl ?_
  refine tm_iload_n 4 hC dX5_fits_14 rfl rfl ?_
  refine tm_aload 0 hC dX5_fits_15 rfl ?_
  have hx1 := rc_P hM p (by omega)
  refine tm_getf2 hC f_X5_150 hx1 rfl dX5_fits_17 ?_
  refine tm_aload_n 1 hC dX5_fits_20 rfl rfl ?_
  have hx2 := rc_o hM
  refine tm_getf2 hC f_X5_33 hx2 rfl dX5_fits_21 ?_
  refine tm_callVN (b := 0) (n := 0) (rest := []) hC (c_B_canGive (tm_g x) hst Λ κ σ hM hw b (by omega) p (by omega) pl (s_wa σ (4 * p + 0)) (by omega)) k_X5_151 (by rw [hB.2.2.1]; exact ⟨Nat.le_of_ble_eq_true rfl, Nat.le_of_ble_eq_true rfl⟩) rfl (tm_rec2 hC (rc_B hM b (by omega)) rfl) rfl (by decide) dX5_fits_24 (fun v_24 w_24 hp_24 => ?_)
  obtain ⟨rfl, rfl⟩ := hp_24
  show tm_V x (tm_H x Λ) 0 0 27 [(4, .ref (k_pa κ p)), (0, .ref (k_o κ)), (1, .int (I (p))), (2, .int (I (b))), (3, .int (I (pl)))] [.int (I (bi (Poss σ p (s_wa σ (4 * p + 0)) b pl)))]
  exact tm_zretX hC hR dX5_fits_27 (bi_01 _) (⟨rfl, _, rfl, Or.inr ⟨by rw [okPB_i]; omega, rfl, rfl⟩⟩)

set_option maxHeartbeats 4000000 in
set_option maxRecDepth 100000 in
theorem c_T_earliest (γ : tmG) (hst : γ.1.stackTraces = false) (Λ : tmL) (κ : KP) (σ : ST) (hM : RC γ.2.2.1 Λ κ σ) (hw : WF0 σ) (p b : Int) (hr : (-2147483648 ≤ p ∧ p ≤ 2147483647) ∧ (-2147483648 ≤ b ∧ b ≤ 2147483647)) : tm_ConX γ (tm_h2 γ.2.1 γ.2.2.1 γ.2.2.2.1) M_X5_earliest 8 2 12 [.ref (k_o κ), .int (I (p)), .int (I (b))] Λ (fun v w' => Λ = w' ∧ ∃ r, v = some (.int (I r)) ∧ Sp_earliest σ p b 0 r) (fun E w' => Λ = w' ∧ ((E = "java/lang/IndexOutOfBoundsException" ∧ Sp_earliest σ p b 1 0))) := by
  refine tm_conX hst (by decide) (Nat.le_of_ble_eq_true rfl) (fun x hB hR hnt => ?_)
  have hg := hB.1
  subst hg
  have hC : tm_C x cX5_earliest RX5 (some FieldType.int) := hB.2.2.2.1
  have hn := wf_n hw
  show tm_V x (tm_H x Λ) 2 12 0 [(0, .ref (k_o κ)), (1, .int (I (p))), (2, .int (I (b)))] []
  refine tm_aload_n 0 hC dX5_earliest_0 rfl rfl ?_
  refine tm_iload_n 1 hC dX5_earliest_1 rfl rfl ?_
  refine tm_less (b' := 1 + 1) (n' := 6 + 6) ⟨by omega, by omega⟩ ?_
  refine tm_callVX (b := 1) (n := 6) (rest := []) hC hR hnt (c_T_part (tm_g x) hst Λ κ σ hM hw p (by omega)) k_X5_146 (by rw [hB.2.2.1]; exact ⟨Nat.le_of_ble_eq_true rfl, Nat.le_of_ble_eq_true rfl⟩) rfl (tm_rec2 hC (rc_o hM) rfl) rfl (by decide) dX5_earliest_2 (fun E9 w9 z9 => ⟨z9.1, ⟨z9.2.1, Or.inl ⟨fun q => z9.2.2 q.1, rfl⟩⟩⟩) (fun v_2 w_2 hp_2 => ?_)
  obtain ⟨rfl, rfl, hpp_2⟩ := hp_2
  have hpp9_2 := wf_p hw p hpp_2
  show tm_V x (tm_H x Λ) 1 6 5 [(0, .ref (k_o κ)), (1, .int (I (p))), (2, .int (I (b)))] [.ref (k_pa κ p)]
  refine tm_astore_n [(3, .ref (k_pa κ p)), (0, .ref (k_o κ)), (1, .int (I (p))), (2, .int (I (b)))] hC dX5_earliest_5 rfl (by rw [hB.2.1]; exact Nat.le_of_ble_eq_true rfl) rfl ?_
  refine tm_aload_n 1 hC dX5_earliest_6 rfl rfl ?_
  refine tm_iload_n 3 hC dX5_earliest_7 rfl rfl ?_
  refine tm_less (b' := 1 + 0) (n' := 6 + 0) ⟨by omega, by omega⟩ ?_
  refine tm_callVX (b := 0) (n := 0) (rest := []) hC hR hnt (c_T_board (tm_g x) hst Λ κ σ hM hw b (by omega)) k_X5_72 (by rw [hB.2.2.1]; exact ⟨Nat.le_of_ble_eq_true rfl, Nat.le_of_ble_eq_true rfl⟩) rfl (tm_rec2 hC (rc_o hM) rfl) rfl (by decide) dX5_earliest_8 (fun E9 w9 z9 => ⟨z9.1, ⟨z9.2.1, Or.inl ⟨fun q => z9.2.2 q.2, rfl⟩⟩⟩) (fun v_8 w_8 hp_8 => ?_)
  obtain ⟨rfl, rfl, hbb_8⟩ := hp_8
  have hbb9_8 := wf_b hw b hbb_8
  have hkl_8 := rc_len hM hw b hbb_8
  show tm_V x (tm_H x Λ) 0 0 11 [(3, .ref (k_pa κ p)), (0, .ref (k_o κ)), (1, .int (I (p))), (2, .int (I (b)))] [.ref (k_bo κ b)]
  refine tm_aload_n 0 hC dX5_earliest_11 rfl rfl ?_
  refine tm_aload_n 1 hC dX5_earliest_12 rfl rfl ?_
  have hx1 := rc_o hM
  refine tm_getf2 hC f_X5_33 hx1 rfl dX5_earliest_13 ?_
  refine tm_callVN (b := 0) (n := 0) (rest := []) hC (c_B_earliest (tm_g x) hst Λ κ σ hM hw b (by omega) p (by omega)) k_X5_155 (by rw [hB.2.2.1]; exact ⟨Nat.le_of_ble_eq_true rfl, Nat.le_of_ble_eq_true rfl⟩) rfl (tm_rec2 hC (rc_B hM b (by omega)) rfl) rfl (by decide) dX5_earliest_16 (fun v_16 w_16 hp_16 => ?_)
  obtain ⟨rfl, r_16, rfl, he_16, heb_16, hex_16⟩ := hp_16
  show tm_V x (tm_H x Λ) 0 0 19 [(3, .ref (k_pa κ p)), (0, .ref (k_o κ)), (1, .int (I (p))), (2, .int (I (b)))] [.int (I (r_16))]
  exact tm_iretX hC hR dX5_earliest_19 (⟨rfl, _, rfl, Or.inr ⟨by rw [okPB_i]; omega, rfl, he_16⟩⟩)

set_option maxHeartbeats 4000000 in
set_option maxRecDepth 100000 in
theorem c_T_left (γ : tmG) (hst : γ.1.stackTraces = false) (Λ : tmL) (κ : KP) (σ : ST) (hM : RC γ.2.2.1 Λ κ σ) (hw : WF0 σ) (p : Int) (hr : (-2147483648 ≤ p ∧ p ≤ 2147483647)) : tm_ConX γ (tm_h2 γ.2.1 γ.2.2.1 γ.2.2.2.1) M_X5_left 7 1 6 [.ref (k_o κ), .int (I (p))] Λ (fun v w' => Λ = w' ∧ ∃ r, v = some (.int (I r)) ∧ Sp_left σ p 0 r) (fun E w' => Λ = w' ∧ ((E = "java/lang/IndexOutOfBoundsException" ∧ Sp_left σ p 1 0))) := by
  refine tm_conX hst (by decide) (Nat.le_of_ble_eq_true rfl) (fun x hB hR hnt => ?_)
  have hg := hB.1
  subst hg
  have hC : tm_C x cX5_left RX5 (some FieldType.int) := hB.2.2.2.1
  have hn := wf_n hw
  show tm_V x (tm_H x Λ) 1 6 0 [(0, .ref (k_o κ)), (1, .int (I (p)))] []
  refine tm_aload_n 0 hC dX5_left_0 rfl rfl ?_
  refine tm_iload_n 1 hC dX5_left_1 rfl rfl ?_
  refine tm_less (b' := 1 + 0) (n' := 6 + 0) ⟨by omega, by omega⟩ ?_
  refine tm_callVX (b := 0) (n := 0) (rest := []) hC hR hnt (c_T_part (tm_g x) hst Λ κ σ hM hw p (by omega)) k_X5_146 (by rw [hB.2.2.1]; exact ⟨Nat.le_of_ble_eq_true rfl, Nat.le_of_ble_eq_true rfl⟩) rfl (tm_rec2 hC (rc_o hM) rfl) rfl (by decide) dX5_left_2 (fun E9 w9 z9 => ⟨z9.1, ⟨z9.2.1, Or.inl ⟨z9.2.2, rfl⟩⟩⟩) (fun v_2 w_2 hp_2 => ?_)
  obtain ⟨rfl, rfl, hpp_2⟩ := hp_2
  have hpp9_2 := wf_p hw p hpp_2
  show tm_V x (tm_H x Λ) 0 0 5 [(0, .ref (k_o κ)), (1, .int (I (p)))] [.ref (k_pa κ p)]
  have hx1 := rc_P hM p (by omega)
  refine tm_getf2 hC f_X5_159 hx1 rfl dX5_left_5 ?_
  exact tm_iretX hC hR dX5_left_8 (⟨rfl, _, rfl, Or.inr ⟨by omega, rfl, rfl⟩⟩)

set_option maxHeartbeats 4000000 in
set_option maxRecDepth 100000 in
theorem c_T_pieces (γ : tmG) (hst : γ.1.stackTraces = false) (Λ : tmL) (κ : KP) (σ : ST) (hM : RC γ.2.2.1 Λ κ σ) (hw : WF0 σ) (b : Int) (hr : (-2147483648 ≤ b ∧ b ≤ 2147483647)) : tm_ConX γ (tm_h2 γ.2.1 γ.2.2.1 γ.2.2.2.1) M_X5_pieces 7 1 6 [.ref (k_o κ), .int (I (b))] Λ (fun v w' => Λ = w' ∧ ∃ r, v = some (.int (I r)) ∧ Sp_pieces σ b 0 r) (fun E w' => Λ = w' ∧ ((E = "java/lang/IndexOutOfBoundsException" ∧ Sp_pieces σ b 1 0))) := by
  refine tm_conX hst (by decide) (Nat.le_of_ble_eq_true rfl) (fun x hB hR hnt => ?_)
  have hg := hB.1
  subst hg
  have hC : tm_C x cX5_pieces RX5 (some FieldType.int) := hB.2.2.2.1
  have hn := wf_n hw
  show tm_V x (tm_H x Λ) 1 6 0 [(0, .ref (k_o κ)), (1, .int (I (b)))] []
  refine tm_aload_n 0 hC dX5_pieces_0 rfl rfl ?_
  refine tm_iload_n 1 hC dX5_pieces_1 rfl rfl ?_
  refine tm_less (b' := 1 + 0) (n' := 6 + 0) ⟨by omega, by omega⟩ ?_
  refine tm_callVX (b := 0) (n := 0) (rest := []) hC hR hnt (c_T_board (tm_g x) hst Λ κ σ hM hw b (by omega)) k_X5_72 (by rw [hB.2.2.1]; exact ⟨Nat.le_of_ble_eq_true rfl, Nat.le_of_ble_eq_true rfl⟩) rfl (tm_rec2 hC (rc_o hM) rfl) rfl (by decide) dX5_pieces_2 (fun E9 w9 z9 => ⟨z9.1, ⟨z9.2.1, Or.inl ⟨z9.2.2, rfl⟩⟩⟩) (fun v_2 w_2 hp_2 => ?_)
  obtain ⟨rfl, rfl, hbb_2⟩ := hp_2
  have hbb9_2 := wf_b hw b hbb_2
  have hkl_2 := rc_len hM hw b hbb_2
  show tm_V x (tm_H x Λ) 0 0 5 [(0, .ref (k_o κ)), (1, .int (I (b)))] [.ref (k_bo κ b)]
  have hx1 := rc_B hM b (by omega)
  refine tm_getf2 hC f_X5_237 hx1 rfl dX5_pieces_5 ?_
  refine tm_callV (b := 0) (n := 0) (rest := []) hC (c_Lsz (tm_g x) hst _ _ _ (((k_ks κ b).length : Int)) (rc_bp hM b (by omega)) (len_m _ _)) k_X5_54 (by rw [hB.2.2.1]; exact ⟨Nat.le_of_ble_eq_true rfl, Nat.le_of_ble_eq_true rfl⟩) rfl (tm_recL hC (rc_bp hM b (by omega))) rfl (by decide) dX5_pieces_8 (fun v_8 w_8 hp_8 => ?_)
  obtain ⟨rfl, rfl⟩ := hp_8
  show tm_V x (tm_H x Λ) 0 0 11 [(0, .ref (k_o κ)), (1, .int (I (b)))] [.int (I (((k_ks κ b).length : Int)))]
  exact tm_iretX hC hR dX5_pieces_11 (⟨rfl, _, rfl, Or.inr ⟨by omega, rfl, _, rc_srt hM b (by omega), rfl⟩⟩)

set_option maxHeartbeats 4000000 in
set_option maxRecDepth 100000 in
theorem c_T_piece (γ : tmG) (hst : γ.1.stackTraces = false) (Λ : tmL) (κ : KP) (σ : ST) (hM : RC γ.2.2.1 Λ κ σ) (hw : WF0 σ) (b i w : Int) (hr : (-2147483648 ≤ b ∧ b ≤ 2147483647) ∧ (-2147483648 ≤ i ∧ i ≤ 2147483647) ∧ (-2147483648 ≤ w ∧ w ≤ 2147483647)) : tm_ConX γ (tm_h2 γ.2.1 γ.2.2.1 γ.2.2.2.1) M_X5_piece 7 3 18 [.ref (k_o κ), .int (I (b)), .int (I (i)), .int (I (w))] Λ (fun v w' => Λ = w' ∧ ∃ r, v = some (.int (I r)) ∧ Sp_piece σ b i w 0 r) (fun E w' => Λ = w' ∧ ((E = "java/lang/IndexOutOfBoundsException" ∧ Sp_piece σ b i w 1 0))) := by
  refine tm_conX hst (by decide) (Nat.le_of_ble_eq_true rfl) (fun x hB hR hnt => ?_)
  have hg := hB.1
  subst hg
  have hC : tm_C x cX5_piece RX5 (some FieldType.int) := hB.2.2.2.1
  have hn := wf_n hw
  show tm_V x (tm_H x Λ) 3 18 0 [(0, .ref (k_o κ)), (1, .int (I (b))), (2, .int (I (i))), (3, .int (I (w)))] []
  refine tm_aload_n 0 hC dX5_piece_0 rfl rfl ?_
  refine tm_iload_n 1 hC dX5_piece_1 rfl rfl ?_
  refine tm_less (b' := 1 + 2) (n' := 6 + 12) ⟨by omega, by omega⟩ ?_
  refine tm_callVX (b := 2) (n := 12) (rest := []) hC hR hnt (c_T_board (tm_g x) hst Λ κ σ hM hw b (by omega)) k_X5_72 (by rw [hB.2.2.1]; exact ⟨Nat.le_of_ble_eq_true rfl, Nat.le_of_ble_eq_true rfl⟩) rfl (tm_rec2 hC (rc_o hM) rfl) rfl (by decide) dX5_piece_2 (fun E9 w9 z9 => ⟨z9.1, ⟨z9.2.1, Or.inl ⟨z9.2.2, rfl⟩⟩⟩) (fun v_2 w_2 hp_2 => ?_)
  obtain ⟨rfl, rfl, hbb_2⟩ := hp_2
  have hbb9_2 := wf_b hw b hbb_2
  have hkl_2 := rc_len hM hw b hbb_2
  show tm_V x (tm_H x Λ) 2 12 5 [(0, .ref (k_o κ)), (1, .int (I (b))), (2, .int (I (i))), (3, .int (I (w)))] [.ref (k_bo κ b)]
  have hx1 := rc_B hM b (by omega)
  refine tm_getf2 hC f_X5_237 hx1 rfl dX5_piece_5 ?_
  refine tm_astore [(4, .ref (k_bp κ b)), (0, .ref (k_o κ)), (1, .int (I (b))), (2, .int (I (i))), (3, .int (I (w)))] hC dX5_piece_8 (by rw [hB.2.1]; exact Nat.le_of_ble_eq_true rfl) rfl ?_
  refine tm_iload_n 3 hC dX5_piece_10 rfl rfl ?_
  refine tm_if_lt 23 hC dX5_piece_11 (by decide) (by omega) (fun c_11 => ?_) (fun c_11 => ?_)
  · refine tm_less (b' := 1 + 0) (n' := 6 + 0) ⟨by omega, by omega⟩ ?_
    exact tm_throw hC hR hnt tm_kp2 th_iob sr_240 (by rw [hB.2.2.1]; exact ⟨Nat.le_of_ble_eq_true rfl, Nat.le_of_ble_eq_true rfl⟩) (by decide) dX5_piece_23 dX5_piece_26 dX5_piece_27 dX5_piece_29 dX5_piece_32 (⟨rfl, rfl, Or.inr ⟨by omega, _, rc_srt hM b (by omega), Or.inl ⟨by omega, rfl⟩⟩⟩)
  · refine tm_iload_n 3 hC dX5_piece_14 rfl rfl ?_
    refine tm_aload 0 hC dX5_piece_15 rfl ?_
    refine tm_callV (b := 2) (n := 12) (rest := [.int (I (i))]) hC (c_Lsz (tm_g x) hst _ _ _ (((k_ks κ b).length : Int)) (rc_bp hM b (by omega)) (len_m _ _)) k_X5_54 (by rw [hB.2.2.1]; exact ⟨Nat.le_of_ble_eq_true rfl, Nat.le_of_ble_eq_true rfl⟩) rfl (tm_recL hC (rc_bp hM b (by omega))) rfl (by simp [Value.category]) dX5_piece_17 (fun v_17 w_17 hp_17 => ?_)
    obtain ⟨rfl, rfl⟩ := hp_17
    show tm_V x (tm_H x Λ) 2 12 20 [(4, .ref (k_bp κ b)), (0, .ref (k_o κ)), (1, .int (I (b))), (2, .int (I (i))), (3, .int (I (w)))] [.int (I (((k_ks κ b).length : Int))), .int (I (i))]
    refine tm_icmp_lt 33 hC dX5_piece_20 (by decide) (by omega) (fun c_20 => ?_) (fun c_20 => ?_)
    · refine tm_iload_n 4 hC dX5_piece_33 rfl rfl ?_
      refine tm_iconst hC dX5_piece_34 ?_
      refine tm_iconst hC dX5_piece_35 ?_
      refine tm_callS (b := 2) (n := 12) (rest := []) hC (c_T_within (tm_g x) hst _ w 0 3 (by omega)) k_X5_39 (by rw [hB.2.2.1]; exact ⟨Nat.le_of_ble_eq_true rfl, Nat.le_of_ble_eq_true rfl⟩) rfl rfl (by decide) dX5_piece_36 (fun v_36 w_36 hp_36 => ?_)
      obtain ⟨rfl, rfl⟩ := hp_36
      show tm_V x (tm_H x Λ) 2 12 39 [(4, .ref (k_bp κ b)), (0, .ref (k_o κ)), (1, .int (I (b))), (2, .int (I (i))), (3, .int (I (w)))] [.int (I (bi (0 ≤ w ∧ w ≤ 3)))]
      refine tm_ifb_ne 52 hC dX5_piece_39 (by decide) (fun c_39 => ?_) (fun c_39 => ?_)
      · refine tm_aload 0 hC dX5_piece_52 rfl ?_
        refine tm_iload_n 3 hC dX5_piece_54 rfl rfl ?_
        obtain ⟨k_55, hga_55, hgb_55, hgc_55, hgd_55⟩ := rc_kai hM hw b (by omega) i (by omega)
        have hg9_55 := wf_k hw k_55 hgc_55
        refine tm_callV (b := 2) (n := 12) (rest := []) hC (c_Lget (tm_g x) hst _ _ _ i (k_pc κ k_55) (rc_bp hM b (by omega)) (by omega) (hga_55)) k_X5_230 (by rw [hB.2.2.1]; exact ⟨Nat.le_of_ble_eq_true rfl, Nat.le_of_ble_eq_true rfl⟩) rfl (tm_recL hC (rc_bp hM b (by omega))) rfl (by decide) dX5_piece_55 (fun v_55 w_55 hp_55 => ?_)
        obtain ⟨rfl, rfl⟩ := hp_55
        show tm_V x (tm_H x Λ) 2 12 58 [(4, .ref (k_bp κ b)), (0, .ref (k_o κ)), (1, .int (I (b))), (2, .int (I (i))), (3, .int (I (w)))] [.ref (k_pc κ k_55)]
        have hx2 := rc_K hM k_55 (by omega)
        refine tm_cast2 hC hx2 rfl w_X5_180 dX5_piece_58 ?_
        refine tm_iload_n 4 hC dX5_piece_61 rfl rfl ?_
        refine tm_callVN (b := 2) (n := 12) (rest := []) hC (c_K_tell (tm_g x) hst Λ κ σ hM hw k_55 (by omega) w (by omega)) k_X5_244 (by rw [hB.2.2.1]; exact ⟨Nat.le_of_ble_eq_true rfl, Nat.le_of_ble_eq_true rfl⟩) rfl (tm_rec2 hC (rc_K hM k_55 (by omega)) rfl) rfl (by decide) dX5_piece_62 (fun v_62 w_62 hp_62 => ?_)
        obtain ⟨rfl, rfl⟩ := hp_62
        show tm_V x (tm_H x Λ) 2 12 65 [(4, .ref (k_bp κ b)), (0, .ref (k_o κ)), (1, .int (I (b))), (2, .int (I (i))), (3, .int (I (w)))] [.int (I (tellS σ k_55 w))]
        exact tm_iretX hC hR dX5_piece_65 (⟨rfl, _, rfl, Or.inr ⟨by omega, _, rc_srt hM b (by omega), Or.inr ⟨by omega, rfl, k_55, hgb_55, rfl⟩⟩⟩)
      · refine tm_less (b' := 1 + 0) (n' := 6 + 0) ⟨by omega, by omega⟩ ?_
        exact tm_throw hC hR hnt tm_kp2 th_iob sr_242 (by rw [hB.2.2.1]; exact ⟨Nat.le_of_ble_eq_true rfl, Nat.le_of_ble_eq_true rfl⟩) (by decide) dX5_piece_42 dX5_piece_45 dX5_piece_46 dX5_piece_48 dX5_piece_51 (⟨rfl, rfl, Or.inr ⟨by omega, _, rc_srt hM b (by omega), Or.inl ⟨by omega, rfl⟩⟩⟩)
    · refine tm_less (b' := 1 + 0) (n' := 6 + 0) ⟨by omega, by omega⟩ ?_
      exact tm_throw hC hR hnt tm_kp2 th_iob sr_240 (by rw [hB.2.2.1]; exact ⟨Nat.le_of_ble_eq_true rfl, Nat.le_of_ble_eq_true rfl⟩) (by decide) dX5_piece_23 dX5_piece_26 dX5_piece_27 dX5_piece_29 dX5_piece_32 (⟨rfl, rfl, Or.inr ⟨by omega, _, rc_srt hM b (by omega), Or.inl ⟨by omega, rfl⟩⟩⟩)

set_option maxHeartbeats 4000000 in
set_option maxRecDepth 100000 in
theorem c_T_cuts (γ : tmG) (hst : γ.1.stackTraces = false) (Λ : tmL) (κ : KP) (σ : ST) (hM : RC γ.2.2.1 Λ κ σ) (hw : WF0 σ) (b : Int) (hr : (-2147483648 ≤ b ∧ b ≤ 2147483647)) : tm_ConX γ (tm_h2 γ.2.1 γ.2.2.1 γ.2.2.2.1) M_X5_cuts 7 1 6 [.ref (k_o κ), .int (I (b))] Λ (fun v w' => Λ = w' ∧ ∃ r, v = some (.int (I r)) ∧ Sp_cuts σ b 0 r) (fun E w' => Λ = w' ∧ ((E = "java/lang/IndexOutOfBoundsException" ∧ Sp_cuts σ b 1 0))) := by
  refine tm_conX hst (by decide) (Nat.le_of_ble_eq_true rfl) (fun x hB hR hnt => ?_)
  have hg := hB.1
  subst hg
  have hC : tm_C x cX5_cuts RX5 (some FieldType.int) := hB.2.2.2.1
  have hn := wf_n hw
  show tm_V x (tm_H x Λ) 1 6 0 [(0, .ref (k_o κ)), (1, .int (I (b)))] []
  refine tm_aload_n 0 hC dX5_cuts_0 rfl rfl ?_
  refine tm_iload_n 1 hC dX5_cuts_1 rfl rfl ?_
  refine tm_less (b' := 1 + 0) (n' := 6 + 0) ⟨by omega, by omega⟩ ?_
  refine tm_callVX (b := 0) (n := 0) (rest := []) hC hR hnt (c_T_board (tm_g x) hst Λ κ σ hM hw b (by omega)) k_X5_72 (by rw [hB.2.2.1]; exact ⟨Nat.le_of_ble_eq_true rfl, Nat.le_of_ble_eq_true rfl⟩) rfl (tm_rec2 hC (rc_o hM) rfl) rfl (by decide) dX5_cuts_2 (fun E9 w9 z9 => ⟨z9.1, ⟨z9.2.1, Or.inl ⟨z9.2.2, rfl⟩⟩⟩) (fun v_2 w_2 hp_2 => ?_)
  obtain ⟨rfl, rfl, hbb_2⟩ := hp_2
  have hbb9_2 := wf_b hw b hbb_2
  have hkl_2 := rc_len hM hw b hbb_2
  show tm_V x (tm_H x Λ) 0 0 5 [(0, .ref (k_o κ)), (1, .int (I (b)))] [.ref (k_bo κ b)]
  refine tm_aload_n 0 hC dX5_cuts_5 rfl rfl ?_
  have hx1 := rc_o hM
  refine tm_getf2 hC f_X5_33 hx1 rfl dX5_cuts_6 ?_
  refine tm_callVN (b := 0) (n := 0) (rest := []) hC (c_B_cuts (tm_g x) hst Λ κ σ hM hw b (by omega)) k_X5_247 (by rw [hB.2.2.1]; exact ⟨Nat.le_of_ble_eq_true rfl, Nat.le_of_ble_eq_true rfl⟩) rfl (tm_rec2 hC (rc_B hM b (by omega)) rfl) rfl (by decide) dX5_cuts_9 (fun v_9 w_9 hp_9 => ?_)
  obtain ⟨rfl, rfl⟩ := hp_9
  show tm_V x (tm_H x Λ) 0 0 12 [(0, .ref (k_o κ)), (1, .int (I (b)))] [.int (I (cutF σ b (k_ks κ b) (-1)))]
  exact tm_iretX hC hR dX5_cuts_12 (⟨rfl, _, rfl, Or.inr ⟨by omega, rfl, _, rc_srt hM b (by omega), rfl⟩⟩)

set_option maxHeartbeats 4000000 in
set_option maxRecDepth 100000 in
theorem c_T_longest (γ : tmG) (hst : γ.1.stackTraces = false) (Λ : tmL) (κ : KP) (σ : ST) (hM : RC γ.2.2.1 Λ κ σ) (hw : WF0 σ) (b : Int) (hr : (-2147483648 ≤ b ∧ b ≤ 2147483647)) : tm_ConX γ (tm_h2 γ.2.1 γ.2.2.1 γ.2.2.2.1) M_X5_longestRoom 7 1 6 [.ref (k_o κ), .int (I (b))] Λ (fun v w' => Λ = w' ∧ ∃ r, v = some (.int (I r)) ∧ Sp_longest σ b 0 r) (fun E w' => Λ = w' ∧ ((E = "java/lang/IndexOutOfBoundsException" ∧ Sp_longest σ b 1 0))) := by
  refine tm_conX hst (by decide) (Nat.le_of_ble_eq_true rfl) (fun x hB hR hnt => ?_)
  have hg := hB.1
  subst hg
  have hC : tm_C x cX5_longestRoom RX5 (some FieldType.int) := hB.2.2.2.1
  have hn := wf_n hw
  show tm_V x (tm_H x Λ) 1 6 0 [(0, .ref (k_o κ)), (1, .int (I (b)))] []
  refine tm_aload_n 0 hC dX5_longestRoom_0 rfl rfl ?_
  refine tm_iload_n 1 hC dX5_longestRoom_1 rfl rfl ?_
  refine tm_less (b' := 1 + 0) (n' := 6 + 0) ⟨by omega, by omega⟩ ?_
  refine tm_callVX (b := 0) (n := 0) (rest := []) hC hR hnt (c_T_board (tm_g x) hst Λ κ σ hM hw b (by omega)) k_X5_72 (by rw [hB.2.2.1]; exact ⟨Nat.le_of_ble_eq_true rfl, Nat.le_of_ble_eq_true rfl⟩) rfl (tm_rec2 hC (rc_o hM) rfl) rfl (by decide) dX5_longestRoom_2 (fun E9 w9 z9 => ⟨z9.1, ⟨z9.2.1, Or.inl ⟨z9.2.2, rfl⟩⟩⟩) (fun v_2 w_2 hp_2 => ?_)
  obtain ⟨rfl, rfl, hbb_2⟩ := hp_2
  have hbb9_2 := wf_b hw b hbb_2
  have hkl_2 := rc_len hM hw b hbb_2
  show tm_V x (tm_H x Λ) 0 0 5 [(0, .ref (k_o κ)), (1, .int (I (b)))] [.ref (k_bo κ b)]
  refine tm_aload_n 0 hC dX5_longestRoom_5 rfl rfl ?_
  have hx1 := rc_o hM
  refine tm_getf2 hC f_X5_33 hx1 rfl dX5_longestRoom_6 ?_
  refine tm_callVN (b := 0) (n := 0) (rest := []) hC (c_B_longest (tm_g x) hst Λ κ σ hM hw b (by omega)) k_X5_250 (by rw [hB.2.2.1]; exact ⟨Nat.le_of_ble_eq_true rfl, Nat.le_of_ble_eq_true rfl⟩) rfl (tm_rec2 hC (rc_B hM b (by omega)) rfl) rfl (by decide) dX5_longestRoom_9 (fun v_9 w_9 hp_9 => ?_)
  obtain ⟨rfl, rfl⟩ := hp_9
  show tm_V x (tm_H x Λ) 0 0 12 [(0, .ref (k_o κ)), (1, .int (I (b)))] [.int (I (lngF σ b (k_ks κ b) 0 0))]
  exact tm_iretX hC hR dX5_longestRoom_12 (⟨rfl, _, rfl, Or.inr ⟨by omega, rfl, _, rc_srt hM b (by omega), rfl⟩⟩)
