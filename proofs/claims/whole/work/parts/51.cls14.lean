set_option maxHeartbeats 4000000 in
set_option maxRecDepth 100000 in
theorem c_T_addBoard (γ : tmG) (hst : γ.1.stackTraces = false) (Λ : tmL) (κ : KP) (σ : ST) (hM : RC γ.2.2.1 Λ κ σ) (hw : WF0 σ) (l w g : Int) (hr : (-2147483648 ≤ l ∧ l ≤ 2147483647) ∧ (-2147483648 ≤ w ∧ w ≤ 2147483647) ∧ (-2147483648 ≤ g ∧ g ≤ 2147483647)) (hW : WF σ) (hG : grp (s_aj σ) (s_cu σ) (k_cs κ) 0 (s_nm σ)) : tm_ConX γ (tm_h2 γ.2.1 γ.2.2.1 γ.2.2.2.1) M_X5_addBoard 8 4 411 [.ref (k_o κ), .int (I (l)), .int (I (w)), .int (I (g))] Λ (fun v w' => ∃ κ' σ' r, RC γ.2.2.1 w' κ' σ' ∧ grp (s_aj σ') (s_cu σ') (k_cs κ') 0 (s_nm σ') ∧ k_o κ' = k_o κ ∧ v = some (.int (I r)) ∧ Sp_addBoard σ l w g 0 σ' r) (fun E w' => Λ = w' ∧ ((E = "java/lang/IllegalArgumentException" ∧ Sp_addBoard σ l w g 1 σ 0) ∨ (E = "java/lang/IllegalStateException" ∧ Sp_addBoard σ l w g 2 σ 0))) := by
  refine tm_conX hst (by decide) (Nat.le_of_ble_eq_true rfl) (fun x hB hR hnt => ?_)
  have hg := hB.1
  subst hg
  have hC : tm_C x cX5_addBoard RX5 (some FieldType.int) := hB.2.2.2.1
  have hn := wf_n hw
  show tm_V x (tm_H x Λ) 4 411 0 [(0, .ref (k_o κ)), (1, .int (I (l))), (2, .int (I (w))), (3, .int (I (g)))] []
  refine tm_iload_n 1 hC dX5_addBoard_0 rfl rfl ?_
  refine tm_bipush hC dX5_addBoard_1 rfl ?_
  refine tm_sipush hC dX5_addBoard_3 rfl ?_
  refine tm_callS (b := 4) (n := 411) (rest := []) hC (c_T_within (tm_g x) hst _ l 100 3000 (by omega)) k_X5_39 (by rw [hB.2.2.1]; exact ⟨Nat.le_of_ble_eq_true rfl, Nat.le_of_ble_eq_true rfl⟩) rfl rfl (by decide) dX5_addBoard_6 (fun v_6 w_6 hp_6 => ?_)
  obtain ⟨rfl, rfl⟩ := hp_6
  show tm_V x (tm_H x Λ) 4 411 9 [(0, .ref (k_o κ)), (1, .int (I (l))), (2, .int (I (w))), (3, .int (I (g)))] [.int (I (bi (100 ≤ l ∧ l ≤ 3000)))]
  refine tm_ifb_eq 31 hC dX5_addBoard_9 (by decide) (fun c_9 => ?_) (fun c_9 => ?_)
  · refine tm_less (b' := 1 + 0) (n' := 6 + 0) ⟨by omega, by omega⟩ ?_
    exact tm_throw hC hR hnt tm_kp2 th_iae sr_49 (by rw [hB.2.2.1]; exact ⟨Nat.le_of_ble_eq_true rfl, Nat.le_of_ble_eq_true rfl⟩) (by decide) dX5_addBoard_31 dX5_addBoard_34 dX5_addBoard_35 dX5_addBoard_37 dX5_addBoard_40 (⟨rfl, Or.inl ⟨rfl, Or.inl ⟨fun z => by rw [okB_i] at z; omega, rfl, rfl⟩⟩⟩)
  · refine tm_iload_n 2 hC dX5_addBoard_12 rfl rfl ?_
    refine tm_bipush hC dX5_addBoard_13 rfl ?_
    refine tm_sipush hC dX5_addBoard_15 rfl ?_
    refine tm_callS (b := 4) (n := 411) (rest := []) hC (c_T_within (tm_g x) hst _ w 10 400 (by omega)) k_X5_39 (by rw [hB.2.2.1]; exact ⟨Nat.le_of_ble_eq_true rfl, Nat.le_of_ble_eq_true rfl⟩) rfl rfl (by decide) dX5_addBoard_18 (fun v_18 w_18 hp_18 => ?_)
    obtain ⟨rfl, rfl⟩ := hp_18
    show tm_V x (tm_H x Λ) 4 411 21 [(0, .ref (k_o κ)), (1, .int (I (l))), (2, .int (I (w))), (3, .int (I (g)))] [.int (I (bi (10 ≤ w ∧ w ≤ 400)))]
    refine tm_ifb_eq 31 hC dX5_addBoard_21 (by decide) (fun c_21 => ?_) (fun c_21 => ?_)
    · refine tm_less (b' := 1 + 0) (n' := 6 + 0) ⟨by omega, by omega⟩ ?_
      exact tm_throw hC hR hnt tm_kp2 th_iae sr_49 (by rw [hB.2.2.1]; exact ⟨Nat.le_of_ble_eq_true rfl, Nat.le_of_ble_eq_true rfl⟩) (by decide) dX5_addBoard_31 dX5_addBoard_34 dX5_addBoard_35 dX5_addBoard_37 dX5_addBoard_40 (⟨rfl, Or.inl ⟨rfl, Or.inl ⟨fun z => by rw [okB_i] at z; omega, rfl, rfl⟩⟩⟩)
    · refine tm_iload_n 3 hC dX5_addBoard_24 rfl rfl ?_
      refine tm_callS (b := 4) (n := 411) (rest := []) hC (c_T_isGrade (tm_g x) hst _ g (by omega)) k_X5_43 (by rw [hB.2.2.1]; exact ⟨Nat.le_of_ble_eq_true rfl, Nat.le_of_ble_eq_true rfl⟩) rfl rfl (by decide) dX5_addBoard_25 (fun v_25 w_25 hp_25 => ?_)
      obtain ⟨rfl, rfl⟩ := hp_25
      show tm_V x (tm_H x Λ) 4 411 28 [(0, .ref (k_o κ)), (1, .int (I (l))), (2, .int (I (w))), (3, .int (I (g)))] [.int (I (bi (0 ≤ g ∧ g ≤ 3)))]
      refine tm_ifb_ne 41 hC dX5_addBoard_28 (by decide) (fun c_28 => ?_) (fun c_28 => ?_)
      · refine tm_aload_n 0 hC dX5_addBoard_41 rfl rfl ?_
        have hx1 := rc_o hM
        refine tm_getf2 hC f_X5_10 hx1 rfl dX5_addBoard_42 ?_
        refine tm_callV (b := 4) (n := 411) (rest := []) hC (c_Lsz (tm_g x) hst _ _ _ (s_nb σ) (rc_lb hM) (len_b hw)) k_X5_54 (by rw [hB.2.2.1]; exact ⟨Nat.le_of_ble_eq_true rfl, Nat.le_of_ble_eq_true rfl⟩) rfl (tm_recL hC (rc_lb hM)) rfl (by decide) dX5_addBoard_45 (fun v_45 w_45 hp_45 => ?_)
        obtain ⟨rfl, rfl⟩ := hp_45
        show tm_V x (tm_H x Λ) 4 411 48 [(0, .ref (k_o κ)), (1, .int (I (l))), (2, .int (I (w))), (3, .int (I (g)))] [.int (I (s_nb σ))]
        refine tm_bipush hC dX5_addBoard_48 rfl ?_
        refine tm_icmp_lt 63 hC dX5_addBoard_50 (by decide) (by omega) (fun c_50 => ?_) (fun c_50 => ?_)
        · refine tm_aload_n 0 hC dX5_addBoard_63 rfl rfl ?_
          refine tm_getf2 hC f_X5_10 hx1 rfl dX5_addBoard_64 ?_
          refine tm_less (b' := 1 + 3) (n' := 5 + 406) ⟨by omega, by omega⟩ ?_
          refine tm_new2 hC n_X5_63 dX5_addBoard_67 (fun q2 hq3 => ?_)
          obtain ⟨w4, hw5⟩ : ∃ z, z = tm_u2 Λ q2 (.inr (1, [.int (I (0)), .int (I (0)), .int (I (0)), .null, .null])) := ⟨_, rfl⟩
          show tm_V x (tm_H x (tm_u2 Λ q2 (.inr (1, [.int (I (0)), .int (I (0)), .int (I (0)), .null, .null])))) 3 406 70 [(0, .ref (k_o κ)), (1, .int (I (l))), (2, .int (I (w))), (3, .int (I (g)))] [.ref (q2), .ref (k_lb κ)]
          rw [← hw5]
          have hw4_q2 : w4 q2 = some (.inl (.inr (1, [.int (I (0)), .int (I (0)), .int (I (0)), .null, .null]))) := by rw [hw5]; first | done | exact tm_u2_s
          have hw4_k_o_κ := (show w4 (k_o κ) = _ by rw [hw5]; exact tm_u2_n (fun z => by subst z; rw [hx1] at hq3; cases hq3)).trans hx1
          have hMn_w4 : RC (tm_T x) w4 κ σ := by rw [hw5]; exact RC_new hM hq3 _
          refine tm_dup hC dX5_addBoard_70 rfl ?_
          refine tm_iload_n 1 hC dX5_addBoard_71 rfl rfl ?_
          refine tm_iload_n 2 hC dX5_addBoard_72 rfl rfl ?_
          refine tm_iload_n 3 hC dX5_addBoard_73 rfl rfl ?_
          refine tm_less (b' := 2 + 1) (n' := 6 + 400) ⟨by omega, by omega⟩ ?_
          refine tm_callIN (b := 1) (n := 400) (rest := [.ref (q2), .ref (k_lb κ)]) hC (c_X0_init (tm_g x) hst _ q2 hw4_q2 l w g) k_X5_65 (by rw [hB.2.2.1]; exact ⟨Nat.le_of_ble_eq_true rfl, Nat.le_of_ble_eq_true rfl⟩) rfl rfl (by simp [Value.category]) dX5_addBoard_74 (fun v_74 w_74 hp_74 => ?_)
          obtain ⟨u9, z9, hqo9, hgr9, rfl⟩ := hp_74
          rw [hw5] at hgr9
          obtain ⟨hs9, hf9⟩ := gqw_of hq3 hgr9
          have hRCw : RC (tm_T x) w_74 κ σ := RC_sub hs9 hM
          have huz9 : u9 ≠ z9 := fun e => (List.nodup_cons.mp hgr9.2.2).1 (by rw [e]; exact List.mem_singleton.mpr rfl)
          show tm_V x (tm_H x w_74) 1 400 77 [(0, .ref (k_o κ)), (1, .int (I (l))), (2, .int (I (w))), (3, .int (I (g)))] [.ref (q2), .ref (k_lb κ)]
          refine tm_less (b' := 1 + 0) (n' := 400 + 0) ⟨by omega, by omega⟩ ?_
          refine tm_callV (b := 0) (n := 0) (rest := []) hC (c_Ladd (tm_g x) hst _ _ q2 _ (rc_lb hRCw) (el2_o hqo9 rfl w_el_X0 (by decide)) (show ((ints (s_nb σ)).map (k_bo κ)).length ≤ 250 by rw [List.length_map]; have := ints_len hn.1; omega)) k_X5_68 (by rw [hB.2.2.1]; exact ⟨Nat.le_of_ble_eq_true rfl, Nat.le_of_ble_eq_true rfl⟩) rfl (tm_recL hC (rc_lb hRCw)) rfl (by decide) dX5_addBoard_77 (fun v_77 w_77 hp_77 => ?_)
          obtain ⟨hwc9, rfl⟩ := hp_77
          have hRC9 : RC (tm_T x) w_77 (kBrd κ (s_nb σ) q2 u9 z9) (addB σ l w g) := by rw [← hwc9]; exact RC_brd hM hw hs9 hq3 (hf9 u9 (by simp)).1 (hf9 z9 (by simp)).1 hqo9 (hf9 u9 (by simp)).2 (hf9 z9 (by simp)).2 huz9
          have hob9 : w_77 (k_o κ) = some (.inl (.inr (6, [.ref (k_lb κ), .ref (k_lp κ), .ref (k_lo κ), .ref (k_lc κ), .ref (k_ar κ), .int (I (s_nd σ)), .int (I (s_sw σ)), .int (I (s_jt σ))]))) := by have h8 := rc_o hRC9; exact h8
          have hlb9 := rc_lb hRC9
          show tm_V x (tm_H x w_77) 0 0 80 [(0, .ref (k_o κ)), (1, .int (I (l))), (2, .int (I (w))), (3, .int (I (g)))] [.int (I (1))]
          refine tm_pop hC dX5_addBoard_80 rfl ?_
          refine tm_aload_n 0 hC dX5_addBoard_81 rfl rfl ?_
          refine tm_getf2 hC f_X5_10 hob9 rfl dX5_addBoard_82 ?_
          refine tm_callV (b := 0) (n := 0) (rest := []) hC (c_Lsz (tm_g x) hst _ _ _ (s_nb σ + 1) hlb9 (by rw [List.length_map]; exact ints_len (show 0 ≤ s_nb σ + 1 by omega))) k_X5_54 (by rw [hB.2.2.1]; exact ⟨Nat.le_of_ble_eq_true rfl, Nat.le_of_ble_eq_true rfl⟩) rfl (tm_recL hC hlb9) rfl (by decide) dX5_addBoard_85 (fun v_85 w_85 hp_85 => ?_)
          obtain ⟨rfl, rfl⟩ := hp_85
          show tm_V x (tm_H x w_77) 0 0 88 [(0, .ref (k_o κ)), (1, .int (I (l))), (2, .int (I (w))), (3, .int (I (g)))] [.int (I (s_nb σ + 1))]
          refine tm_iconst hC dX5_addBoard_88 ?_
          refine tm_isub hC dX5_addBoard_89 ?_
          exact tm_iretX hC hR dX5_addBoard_90 (⟨_, _, _, hRC9, hG, rfl, rfl, Or.inr (Or.inr ⟨by rw [okB_i]; omega, by omega, rfl, rfl, by omega⟩)⟩)
        · refine tm_less (b' := 1 + 0) (n' := 6 + 0) ⟨by omega, by omega⟩ ?_
          exact tm_throw hC hR hnt tm_kp2 th_ise sr_60 (by rw [hB.2.2.1]; exact ⟨Nat.le_of_ble_eq_true rfl, Nat.le_of_ble_eq_true rfl⟩) (by decide) dX5_addBoard_53 dX5_addBoard_56 dX5_addBoard_57 dX5_addBoard_59 dX5_addBoard_62 (⟨rfl, Or.inr ⟨rfl, Or.inr (Or.inl ⟨by rw [okB_i]; omega, by omega, rfl, rfl⟩)⟩⟩)
      · refine tm_less (b' := 1 + 0) (n' := 6 + 0) ⟨by omega, by omega⟩ ?_
        exact tm_throw hC hR hnt tm_kp2 th_iae sr_49 (by rw [hB.2.2.1]; exact ⟨Nat.le_of_ble_eq_true rfl, Nat.le_of_ble_eq_true rfl⟩) (by decide) dX5_addBoard_31 dX5_addBoard_34 dX5_addBoard_35 dX5_addBoard_37 dX5_addBoard_40 (⟨rfl, Or.inl ⟨rfl, Or.inl ⟨fun z => by rw [okB_i] at z; omega, rfl, rfl⟩⟩⟩)

set_option maxHeartbeats 4000000 in
set_option maxRecDepth 100000 in
theorem c_P_ah2 (γ : tmG) (hst : γ.1.stackTraces = false) (Λ : tmL) (n l w g j c n2 l2 w2 g2 j2 c2 : Int) (a : Nat) (ha : Λ a = some (.inl (.inr (4, [.int (I n), .int (I l), .int (I w), .int (I g), .int (I j), .int (I c)])))) (a2 : Nat) (ha2 : Λ a2 = some (.inl (.inr (4, [.int (I n2), .int (I l2), .int (I w2), .int (I g2), .int (I j2), .int (I c2)])))) (hr : (0 ≤ l ∧ l ≤ 3000) ∧ (0 ≤ l2 ∧ l2 ≤ 3000) ∧ (0 ≤ g ∧ g ≤ 3) ∧ 0 ≤ g2 ∧ g2 ≤ 3) : tm_Con γ (tm_h2 γ.2.1 γ.2.2.1 γ.2.2.2.1) M_X3_isPlannedAhead 1 0 0 [.ref (a), .ref (a2)] Λ (fun r w' => Λ = w' ∧ r = some (.int (I (bi (l2 < l ∨ (l = l2 ∧ g < g2)))))) := by
  refine tm_con hst (by decide) (Nat.le_of_ble_eq_true rfl) (fun x hB hR => ?_)
  have hg := hB.1
  subst hg
  have hC : tm_C x cX3_isPlannedAhead RX3 (some FieldType.boolean) := hB.2.2.2.1
  have hr9 := hr
  show tm_V x (tm_H x Λ) 0 0 0 [(0, .ref (a)), (1, .ref (a2))] []
  refine tm_aload_n 0 hC dX3_isPlannedAhead_0 rfl rfl ?_
  refine tm_getf2 hC f_X3_13 ha rfl dX3_isPlannedAhead_1 ?_
  refine tm_aload_n 1 hC dX3_isPlannedAhead_4 rfl rfl ?_
  refine tm_getf2 hC f_X3_13 ha2 rfl dX3_isPlannedAhead_5 ?_
  refine tm_icmp_gt 33 hC dX3_isPlannedAhead_8 (by decide) (by omega) (fun c_8 => ?_) (fun c_8 => ?_)
  · refine tm_iconst hC dX3_isPlannedAhead_33 ?_
    refine tm_goto 38 hC dX3_isPlannedAhead_34 (by decide) ?_
    exact tm_zret hC hR dX3_isPlannedAhead_38 (by omega) (⟨rfl, by rw [bi_t (by omega)]⟩)
  · refine tm_aload_n 0 hC dX3_isPlannedAhead_11 rfl rfl ?_
    refine tm_getf2 hC f_X3_13 ha rfl dX3_isPlannedAhead_12 ?_
    refine tm_aload_n 1 hC dX3_isPlannedAhead_15 rfl rfl ?_
    refine tm_getf2 hC f_X3_13 ha2 rfl dX3_isPlannedAhead_16 ?_
    refine tm_icmp_ne 37 hC dX3_isPlannedAhead_19 (by decide) (by omega) (fun c_19 => ?_) (fun c_19 => ?_)
    · refine tm_iconst hC dX3_isPlannedAhead_37 ?_
      exact tm_zret hC hR dX3_isPlannedAhead_38 (by omega) (⟨rfl, by rw [bi_f (by omega)]⟩)
    · refine tm_aload_n 0 hC dX3_isPlannedAhead_22 rfl rfl ?_
      refine tm_getf2 hC f_X3_19 ha rfl dX3_isPlannedAhead_23 ?_
      refine tm_aload_n 1 hC dX3_isPlannedAhead_26 rfl rfl ?_
      refine tm_getf2 hC f_X3_19 ha2 rfl dX3_isPlannedAhead_27 ?_
      refine tm_icmp_ge 37 hC dX3_isPlannedAhead_30 (by decide) (by omega) (fun c_30 => ?_) (fun c_30 => ?_)
      · refine tm_iconst hC dX3_isPlannedAhead_37 ?_
        exact tm_zret hC hR dX3_isPlannedAhead_38 (by omega) (⟨rfl, by rw [bi_f (by omega)]⟩)
      · refine tm_iconst hC dX3_isPlannedAhead_33 ?_
        refine tm_goto 38 hC dX3_isPlannedAhead_34 (by decide) ?_
        exact tm_zret hC hR dX3_isPlannedAhead_38 (by omega) (⟨rfl, by rw [bi_t (by omega)]⟩)

set_option maxHeartbeats 4000000 in
set_option maxRecDepth 100000 in
theorem c_T_insO (γ : tmG) (hst : γ.1.stackTraces = false) (Λ0 Λ : tmL) (κ : KP) (σ : ST) (hM : RC γ.2.2.1 Λ0 κ σ) (hw : WF0 σ) (hs1 : ∀ (b : Nat) (e : va_E), Λ0 b = some (.inl e) → Λ b = some (.inl e)) (hlo : Λ (k_lo κ) = some (.inr ((k_or κ).map (k_pa κ)))) (n l w g j c : Int) (a : Nat) (ha : Λ a = some (.inl (.inr (4, [.int (I n), .int (I l), .int (I w), .int (I g), .int (I j), .int (I c)])))) (hr : (0 ≤ l ∧ l ≤ 3000) ∧ 0 ≤ g ∧ g ≤ 3) : tm_Con γ (tm_h2 γ.2.1 γ.2.2.1 γ.2.2.2.1) M_X5_insertIntoPlanningOrder 7 1 400 [.ref (k_o κ), .ref (a)] Λ (fun r w' => ∃ i : Nat, i ≤ (k_or κ).length ∧ tm_ul Λ (k_lo κ) (((k_or κ).map (k_pa κ)).take i ++ a :: ((k_or κ).map (k_pa κ)).drop i) = w' ∧ upto (k_or κ) i (fun p => ¬ ahd σ l g p) ∧ (∀ p, (k_or κ)[i]? = some p → ahd σ l g p) ∧ r = none) := by
  refine tm_con hst (by decide) (Nat.le_of_ble_eq_true rfl) (fun x hB hR => ?_)
  have hg := hB.1
  subst hg
  have hC : tm_C x cX5_insertIntoPlanningOrder RX5 (none) := hB.2.2.2.1
  have hn := wf_n hw
  have hor := (rc_or hM).2.1
  show tm_V x (tm_H x Λ) 1 400 0 [(0, .ref (k_o κ)), (1, .ref (a))] []
  refine tm_iconst hC dX5_insertIntoPlanningOrder_0 ?_
  refine tm_istore_n [(2, .int (I (0))), (0, .ref (k_o κ)), (1, .ref (a))] hC dX5_insertIntoPlanningOrder_1 rfl (by rw [hB.2.1]; exact Nat.le_of_ble_eq_true rfl) rfl ?_
  have hL_2 : ∀ (fu : Nat) (i : Nat), ((i : Int) ≤ ((k_or κ).length : Int) ∧ upto (k_or κ) i (fun p => ¬ ahd σ l g p)) → ((((k_or κ).length : Int) - i).toNat) < fu → tm_V x (tm_H x Λ) 1 400 2 [(0, .ref (k_o κ)), (1, .ref (a)), (2, .int (I ((i : Int))))] [] := by
    intro fu
    induction fu with
    | zero => intro i hinv hm; exact absurd hm (Nat.not_lt_zero _)
    | succ fu ih_2 =>
      intro i hinv_2 hm_2
      obtain ⟨hi, hu⟩ := hinv_2
      refine tm_iload_n 2 hC dX5_insertIntoPlanningOrder_2 rfl rfl ?_
      refine tm_aload_n 0 hC dX5_insertIntoPlanningOrder_3 rfl rfl ?_
      have hx1 := hs1 _ _ (rc_o hM)
      refine tm_getf2 hC f_X5_19 hx1 rfl dX5_insertIntoPlanningOrder_4 ?_
      refine tm_callV (b := 1) (n := 400) (rest := [.int (I ((i : Int)))]) hC (c_Lsz (tm_g x) hst _ _ _ (((k_or κ).length : Int)) hlo (len_m _ _)) k_X5_54 (by rw [hB.2.2.1]; exact ⟨Nat.le_of_ble_eq_true rfl, Nat.le_of_ble_eq_true rfl⟩) rfl (tm_recL hC hlo) rfl (by simp [Value.category]) dX5_insertIntoPlanningOrder_7 (fun v_7 w_7 hp_7 => ?_)
      obtain ⟨rfl, rfl⟩ := hp_7
      show tm_V x (tm_H x Λ) 1 400 10 [(0, .ref (k_o κ)), (1, .ref (a)), (2, .int (I ((i : Int))))] [.int (I (((k_or κ).length : Int))), .int (I ((i : Int)))]
      refine tm_icmp_ge 37 hC dX5_insertIntoPlanningOrder_10 (by decide) (by omega) (fun c_10 => ?_) (fun c_10 => ?_)
      · refine tm_aload_n 0 hC dX5_insertIntoPlanningOrder_37 rfl rfl ?_
        refine tm_getf2 hC f_X5_19 hx1 rfl dX5_insertIntoPlanningOrder_38 ?_
        refine tm_iload_n 2 hC dX5_insertIntoPlanningOrder_41 rfl rfl ?_
        refine tm_aload_n 1 hC dX5_insertIntoPlanningOrder_42 rfl rfl ?_
        refine tm_less (b' := 1 + 0) (n' := 400 + 0) ⟨by omega, by omega⟩ ?_
        refine tm_callV (b := 0) (n := 0) (rest := []) hC (c_Laddi (tm_g x) hst _ _ a (i : Int) _ hlo ⟨_, _, _, ha, rfl, w_el_X3, by decide⟩ (by rw [List.length_map]; omega) (by rw [List.length_map]; omega)) k_X5_297 (by rw [hB.2.2.1]; exact ⟨Nat.le_of_ble_eq_true rfl, Nat.le_of_ble_eq_true rfl⟩) rfl (tm_recL hC hlo) rfl (by decide) dX5_insertIntoPlanningOrder_43 (fun v_43 w_43 hp_43 => ?_)
        obtain ⟨hwi, rfl⟩ := hp_43
        show tm_V x (tm_H x w_43) 0 0 46 [(0, .ref (k_o κ)), (1, .ref (a)), (2, .int (I ((i : Int))))] []
        exact tm_vret hC hR dX5_insertIntoPlanningOrder_46 (⟨i, by omega, hwi, hu, (fun p hp => by rw [List.getElem?_eq_none (by omega)] at hp; cases hp), rfl⟩)
      · refine tm_aload_n 1 hC dX5_insertIntoPlanningOrder_13 rfl rfl ?_
        refine tm_aload_n 0 hC dX5_insertIntoPlanningOrder_14 rfl rfl ?_
        refine tm_getf2 hC f_X5_19 hx1 rfl dX5_insertIntoPlanningOrder_15 ?_
        refine tm_iload_n 2 hC dX5_insertIntoPlanningOrder_18 rfl rfl ?_
        obtain ⟨p_19, hga_19, hgb_19, hgc_19⟩ := rc_oat hM i (by omega)
        have hg9_19 := wf_p hw p_19 hgc_19
        refine tm_callV (b := 1) (n := 400) (rest := [.ref (a)]) hC (c_Lget (tm_g x) hst _ _ _ (i : Int) (k_pa κ p_19) hlo (by omega) hga_19) k_X5_230 (by rw [hB.2.2.1]; exact ⟨Nat.le_of_ble_eq_true rfl, Nat.le_of_ble_eq_true rfl⟩) rfl (tm_recL hC hlo) rfl (by simp [Value.category]) dX5_insertIntoPlanningOrder_19 (fun v_19 w_19 hp_19 => ?_)
        obtain ⟨rfl, rfl⟩ := hp_19
        show tm_V x (tm_H x Λ) 1 400 22 [(0, .ref (k_o κ)), (1, .ref (a)), (2, .int (I ((i : Int))))] [.ref (k_pa κ p_19), .ref (a)]
        have hx2 := hs1 _ _ (rc_P hM p_19 (by omega))
        refine tm_cast2 hC hx2 rfl w_X5_99 dX5_insertIntoPlanningOrder_22 ?_
        refine tm_callVN (b := 1) (n := 400) (rest := []) hC (c_P_ah2 (tm_g x) hst _ n l w g j c _ _ _ _ _ _ a ha _ hx2 (by omega)) k_X5_293 (by rw [hB.2.2.1]; exact ⟨Nat.le_of_ble_eq_true rfl, Nat.le_of_ble_eq_true rfl⟩) rfl (tm_rec2 hC ha rfl) rfl (by decide) dX5_insertIntoPlanningOrder_25 (fun v_25 w_25 hp_25 => ?_)
        obtain ⟨rfl, rfl⟩ := hp_25
        show tm_V x (tm_H x Λ) 1 400 28 [(0, .ref (k_o κ)), (1, .ref (a)), (2, .int (I ((i : Int))))] [.int (I (bi (s_wa σ (4 * p_19 + 0) < l ∨ (l = s_wa σ (4 * p_19 + 0) ∧ g < s_wa σ (4 * p_19 + 2)))))]
        refine tm_ifb_ne 37 hC dX5_insertIntoPlanningOrder_28 (by decide) (fun c_28 => ?_) (fun c_28 => ?_)
        · refine tm_aload_n 0 hC dX5_insertIntoPlanningOrder_37 rfl rfl ?_
          refine tm_getf2 hC f_X5_19 hx1 rfl dX5_insertIntoPlanningOrder_38 ?_
          refine tm_iload_n 2 hC dX5_insertIntoPlanningOrder_41 rfl rfl ?_
          refine tm_aload_n 1 hC dX5_insertIntoPlanningOrder_42 rfl rfl ?_
          refine tm_less (b' := 1 + 0) (n' := 400 + 0) ⟨by omega, by omega⟩ ?_
          refine tm_callV (b := 0) (n := 0) (rest := []) hC (c_Laddi (tm_g x) hst _ _ a (i : Int) _ hlo ⟨_, _, _, ha, rfl, w_el_X3, by decide⟩ (by rw [List.length_map]; omega) (by rw [List.length_map]; omega)) k_X5_297 (by rw [hB.2.2.1]; exact ⟨Nat.le_of_ble_eq_true rfl, Nat.le_of_ble_eq_true rfl⟩) rfl (tm_recL hC hlo) rfl (by decide) dX5_insertIntoPlanningOrder_43 (fun v_43 w_43 hp_43 => ?_)
          obtain ⟨hwi, rfl⟩ := hp_43
          show tm_V x (tm_H x w_43) 0 0 46 [(0, .ref (k_o κ)), (1, .ref (a)), (2, .int (I ((i : Int))))] []
          exact tm_vret hC hR dX5_insertIntoPlanningOrder_46 (⟨i, by omega, hwi, hu, (fun p hp => by rw [hgb_19] at hp; cases hp; exact c_28), rfl⟩)
        · refine tm_iinc 2 [(2, .int (I ((i : Int) + 1))), (0, .ref (k_o κ)), (1, .ref (a))] hC dX5_insertIntoPlanningOrder_31 rfl (by rw [hB.2.1]; exact Nat.le_of_ble_eq_true rfl) rfl ?_
          refine tm_goto 2 hC dX5_insertIntoPlanningOrder_34 (by decide) ?_
          refine tm_sub (L' := [(0, .ref (k_o κ)), (1, .ref (a)), (2, .int (I ((i : Int) + 1)))]) [1, 2, 0] rfl ?_
          exact ih_2  (i + 1) (⟨by omega, upto_s hu hgb_19 c_28⟩) (by omega)
  refine tm_sub (L' := [(0, .ref (k_o κ)), (1, .ref (a)), (2, .int (I (0)))]) [1, 2, 0] rfl ?_
  exact hL_2 _ 0 (⟨by omega, upto_0⟩) (Nat.lt_succ_self _)

set_option maxHeartbeats 4000000 in
set_option maxRecDepth 100000 in
theorem c_T_addPart (γ : tmG) (hst : γ.1.stackTraces = false) (Λ : tmL) (κ : KP) (σ : ST) (hM : RC γ.2.2.1 Λ κ σ) (hw : WF0 σ) (l w g c j : Int) (hr : ((-2147483648 ≤ l ∧ l ≤ 2147483647) ∧ (-2147483648 ≤ w ∧ w ≤ 2147483647) ∧ (-2147483648 ≤ g ∧ g ≤ 2147483647) ∧ (-2147483648 ≤ c ∧ c ≤ 2147483647)) ∧ (j = 0 ∨ j = 1)) (hW : WF σ) (hG : grp (s_aj σ) (s_cu σ) (k_cs κ) 0 (s_nm σ)) : tm_ConX γ (tm_h2 γ.2.1 γ.2.2.1 γ.2.2.2.1) M_X5_addPart 8 3 806 [.ref (k_o κ), .int (I (l)), .int (I (w)), .int (I (g)), .int (I (c)), .int (I (j))] Λ (fun v w' => ∃ κ' σ' r, RC γ.2.2.1 w' κ' σ' ∧ grp (s_aj σ') (s_cu σ') (k_cs κ') 0 (s_nm σ') ∧ k_o κ' = k_o κ ∧ v = some (.int (I r)) ∧ Sp_addPart σ l w g c j 0 σ' r) (fun E w' => Λ = w' ∧ ((E = "java/lang/IllegalArgumentException" ∧ Sp_addPart σ l w g c j 1 σ 0) ∨ (E = "java/lang/IllegalStateException" ∧ Sp_addPart σ l w g c j 2 σ 0))) := by
  refine tm_conX hst (by decide) (Nat.le_of_ble_eq_true rfl) (fun x hB hR hnt => ?_)
  have hg := hB.1
  subst hg
  have hC : tm_C x cX5_addPart RX5 (some FieldType.int) := hB.2.2.2.1
  have hn := wf_n hw
  show tm_V x (tm_H x Λ) 3 806 0 [(0, .ref (k_o κ)), (1, .int (I (l))), (2, .int (I (w))), (3, .int (I (g))), (4, .int (I (c))), (5, .int (I (j)))] []
  refine tm_iload_n 1 hC dX5_addPart_0 rfl rfl ?_
  refine tm_bipush hC dX5_addPart_1 rfl ?_
  refine tm_sipush hC dX5_addPart_3 rfl ?_
  refine tm_callS (b := 3) (n := 806) (rest := []) hC (c_T_within (tm_g x) hst _ l 20 3000 (by omega)) k_X5_39 (by rw [hB.2.2.1]; exact ⟨Nat.le_of_ble_eq_true rfl, Nat.le_of_ble_eq_true rfl⟩) rfl rfl (by decide) dX5_addPart_6 (fun v_6 w_6 hp_6 => ?_)
  obtain ⟨rfl, rfl⟩ := hp_6
  show tm_V x (tm_H x Λ) 3 806 9 [(0, .ref (k_o κ)), (1, .int (I (l))), (2, .int (I (w))), (3, .int (I (g))), (4, .int (I (c))), (5, .int (I (j)))] [.int (I (bi (20 ≤ l ∧ l ≤ 3000)))]
  refine tm_ifb_eq 42 hC dX5_addPart_9 (by decide) (fun c_9 => ?_) (fun c_9 => ?_)
  · refine tm_less (b' := 1 + 0) (n' := 6 + 0) ⟨by omega, by omega⟩ ?_
    exact tm_throw hC hR hnt tm_kp2 th_iae sr_95 (by rw [hB.2.2.1]; exact ⟨Nat.le_of_ble_eq_true rfl, Nat.le_of_ble_eq_true rfl⟩) (by decide) dX5_addPart_42 dX5_addPart_45 dX5_addPart_46 dX5_addPart_48 dX5_addPart_51 (⟨rfl, Or.inl ⟨rfl, Or.inl ⟨fun z => by rw [okP_i] at z; omega, rfl, rfl⟩⟩⟩)
  · refine tm_iload_n 2 hC dX5_addPart_12 rfl rfl ?_
    refine tm_bipush hC dX5_addPart_13 rfl ?_
    refine tm_sipush hC dX5_addPart_15 rfl ?_
    refine tm_callS (b := 3) (n := 806) (rest := []) hC (c_T_within (tm_g x) hst _ w 10 400 (by omega)) k_X5_39 (by rw [hB.2.2.1]; exact ⟨Nat.le_of_ble_eq_true rfl, Nat.le_of_ble_eq_true rfl⟩) rfl rfl (by decide) dX5_addPart_18 (fun v_18 w_18 hp_18 => ?_)
    obtain ⟨rfl, rfl⟩ := hp_18
    show tm_V x (tm_H x Λ) 3 806 21 [(0, .ref (k_o κ)), (1, .int (I (l))), (2, .int (I (w))), (3, .int (I (g))), (4, .int (I (c))), (5, .int (I (j)))] [.int (I (bi (10 ≤ w ∧ w ≤ 400)))]
    refine tm_ifb_eq 42 hC dX5_addPart_21 (by decide) (fun c_21 => ?_) (fun c_21 => ?_)
    · refine tm_less (b' := 1 + 0) (n' := 6 + 0) ⟨by omega, by omega⟩ ?_
      exact tm_throw hC hR hnt tm_kp2 th_iae sr_95 (by rw [hB.2.2.1]; exact ⟨Nat.le_of_ble_eq_true rfl, Nat.le_of_ble_eq_true rfl⟩) (by decide) dX5_addPart_42 dX5_addPart_45 dX5_addPart_46 dX5_addPart_48 dX5_addPart_51 (⟨rfl, Or.inl ⟨rfl, Or.inl ⟨fun z => by rw [okP_i] at z; omega, rfl, rfl⟩⟩⟩)
    · refine tm_iload_n 3 hC dX5_addPart_24 rfl rfl ?_
      refine tm_callS (b := 3) (n := 806) (rest := []) hC (c_T_isGrade (tm_g x) hst _ g (by omega)) k_X5_43 (by rw [hB.2.2.1]; exact ⟨Nat.le_of_ble_eq_true rfl, Nat.le_of_ble_eq_true rfl⟩) rfl rfl (by decide) dX5_addPart_25 (fun v_25 w_25 hp_25 => ?_)
      obtain ⟨rfl, rfl⟩ := hp_25
      show tm_V x (tm_H x Λ) 3 806 28 [(0, .ref (k_o κ)), (1, .int (I (l))), (2, .int (I (w))), (3, .int (I (g))), (4, .int (I (c))), (5, .int (I (j)))] [.int (I (bi (0 ≤ g ∧ g ≤ 3)))]
      refine tm_ifb_eq 42 hC dX5_addPart_28 (by decide) (fun c_28 => ?_) (fun c_28 => ?_)
      · refine tm_less (b' := 1 + 0) (n' := 6 + 0) ⟨by omega, by omega⟩ ?_
        exact tm_throw hC hR hnt tm_kp2 th_iae sr_95 (by rw [hB.2.2.1]; exact ⟨Nat.le_of_ble_eq_true rfl, Nat.le_of_ble_eq_true rfl⟩) (by decide) dX5_addPart_42 dX5_addPart_45 dX5_addPart_46 dX5_addPart_48 dX5_addPart_51 (⟨rfl, Or.inl ⟨rfl, Or.inl ⟨fun z => by rw [okP_i] at z; omega, rfl, rfl⟩⟩⟩)
      · refine tm_iload 4 hC dX5_addPart_31 rfl ?_
        refine tm_iconst hC dX5_addPart_33 ?_
        refine tm_bipush hC dX5_addPart_34 rfl ?_
        refine tm_callS (b := 3) (n := 806) (rest := []) hC (c_T_within (tm_g x) hst _ c 1 9 (by omega)) k_X5_39 (by rw [hB.2.2.1]; exact ⟨Nat.le_of_ble_eq_true rfl, Nat.le_of_ble_eq_true rfl⟩) rfl rfl (by decide) dX5_addPart_36 (fun v_36 w_36 hp_36 => ?_)
        obtain ⟨rfl, rfl⟩ := hp_36
        show tm_V x (tm_H x Λ) 3 806 39 [(0, .ref (k_o κ)), (1, .int (I (l))), (2, .int (I (w))), (3, .int (I (g))), (4, .int (I (c))), (5, .int (I (j)))] [.int (I (bi (1 ≤ c ∧ c ≤ 9)))]
        refine tm_ifb_ne 52 hC dX5_addPart_39 (by decide) (fun c_39 => ?_) (fun c_39 => ?_)
        · refine tm_aload_n 0 hC dX5_addPart_52 rfl rfl ?_
          have hx1 := rc_o hM
          refine tm_getf2 hC f_X5_16 hx1 rfl dX5_addPart_53 ?_
          refine tm_callV (b := 3) (n := 806) (rest := []) hC (c_Lsz (tm_g x) hst _ _ _ (s_np σ) (rc_lp hM) (len_p hw)) k_X5_54 (by rw [hB.2.2.1]; exact ⟨Nat.le_of_ble_eq_true rfl, Nat.le_of_ble_eq_true rfl⟩) rfl (tm_recL hC (rc_lp hM)) rfl (by decide) dX5_addPart_56 (fun v_56 w_56 hp_56 => ?_)
          obtain ⟨rfl, rfl⟩ := hp_56
          show tm_V x (tm_H x Λ) 3 806 59 [(0, .ref (k_o κ)), (1, .int (I (l))), (2, .int (I (w))), (3, .int (I (g))), (4, .int (I (c))), (5, .int (I (j)))] [.int (I (s_np σ))]
          refine tm_bipush hC dX5_addPart_59 rfl ?_
          refine tm_icmp_lt 74 hC dX5_addPart_61 (by decide) (by omega) (fun c_61 => ?_) (fun c_61 => ?_)
          · refine tm_less (b' := 1 + 2) (n' := 6 + 800) ⟨by omega, by omega⟩ ?_
            refine tm_new2 hC n_X5_99 dX5_addPart_74 (fun q2 hq3 => ?_)
            obtain ⟨w4, hw5⟩ : ∃ z, z = tm_u2 Λ q2 (.inr (4, [.int (I (0)), .int (I (0)), .int (I (0)), .int (I (0)), .int (I (0)), .int (I (0))])) := ⟨_, rfl⟩
            show tm_V x (tm_H x (tm_u2 Λ q2 (.inr (4, [.int (I (0)), .int (I (0)), .int (I (0)), .int (I (0)), .int (I (0)), .int (I (0))])))) 2 800 77 [(0, .ref (k_o κ)), (1, .int (I (l))), (2, .int (I (w))), (3, .int (I (g))), (4, .int (I (c))), (5, .int (I (j)))] [.ref (q2)]
            rw [← hw5]
            have hw4_q2 : w4 q2 = some (.inl (.inr (4, [.int (I (0)), .int (I (0)), .int (I (0)), .int (I (0)), .int (I (0)), .int (I (0))]))) := by rw [hw5]; first | done | exact tm_u2_s
            have hw4_k_o_κ := (show w4 (k_o κ) = _ by rw [hw5]; exact tm_u2_n (fun z => by subst z; rw [hx1] at hq3; cases hq3)).trans hx1
            have hMn_w4 : RC (tm_T x) w4 κ σ := by rw [hw5]; exact RC_new hM hq3 _
            refine tm_dup hC dX5_addPart_77 rfl ?_
            refine tm_aload_n 0 hC dX5_addPart_78 rfl rfl ?_
            refine tm_getf2 hC f_X5_16 hw4_k_o_κ rfl dX5_addPart_79 ?_
            refine tm_callV (b := 2) (n := 800) (rest := [.ref (q2), .ref (q2)]) hC (c_Lsz (tm_g x) hst _ _ _ (s_np σ) (rc_lp hMn_w4) (len_p hw)) k_X5_54 (by rw [hB.2.2.1]; exact ⟨Nat.le_of_ble_eq_true rfl, Nat.le_of_ble_eq_true rfl⟩) rfl (tm_recL hC (rc_lp hMn_w4)) rfl (by simp [Value.category]) dX5_addPart_82 (fun v_82 w_82 hp_82 => ?_)
            obtain ⟨rfl, rfl⟩ := hp_82
            show tm_V x (tm_H x w4) 2 800 85 [(0, .ref (k_o κ)), (1, .int (I (l))), (2, .int (I (w))), (3, .int (I (g))), (4, .int (I (c))), (5, .int (I (j)))] [.int (I (s_np σ)), .ref (q2), .ref (q2)]
            refine tm_iload_n 1 hC dX5_addPart_85 rfl rfl ?_
            refine tm_iload_n 2 hC dX5_addPart_86 rfl rfl ?_
            refine tm_iload_n 3 hC dX5_addPart_87 rfl rfl ?_
            refine tm_iload 4 hC dX5_addPart_88 rfl ?_
            refine tm_iload 5 hC dX5_addPart_90 rfl ?_
            refine tm_callIN (b := 2) (n := 800) (rest := [.ref (q2)]) hC (c_X3_init (tm_g x) hst _ q2 (s_np σ) l w g c j hr.2 hw4_q2) k_X5_101 (by rw [hB.2.2.1]; exact ⟨Nat.le_of_ble_eq_true rfl, Nat.le_of_ble_eq_true rfl⟩) rfl rfl (by simp [Value.category]) dX5_addPart_92 (fun v_92 w_92 hp_92 => ?_)
            obtain ⟨hwp9, rfl⟩ := hp_92
            rw [hw5, tm_u2_2] at hwp9
            have hRCw : RC (tm_T x) w_92 κ σ := by rw [← hwp9]; exact RC_new hM hq3 _
            have hs9 : ∀ (a : Nat) (e : va_E ⊕ List Nat), Λ a = some e → w_92 a = some e := fun a e ha => by rw [← hwp9, tm_u2_n (fun z => by rw [z, hq3] at ha; cases ha)]; exact ha
            have hqo9 : w_92 q2 = some (.inl (.inr (4, [.int (I (s_np σ)), .int (I l), .int (I w), .int (I g), .int (I j), .int (I c)]))) := by rw [← hwp9]; exact tm_u2_s
            show tm_V x (tm_H x w_92) 2 800 95 [(0, .ref (k_o κ)), (1, .int (I (l))), (2, .int (I (w))), (3, .int (I (g))), (4, .int (I (c))), (5, .int (I (j)))] [.ref (q2)]
            refine tm_astore [(6, .ref (q2)), (0, .ref (k_o κ)), (1, .int (I (l))), (2, .int (I (w))), (3, .int (I (g))), (4, .int (I (c))), (5, .int (I (j)))] hC dX5_addPart_95 (by rw [hB.2.1]; exact Nat.le_of_ble_eq_true rfl) rfl ?_
            refine tm_aload_n 1 hC dX5_addPart_97 rfl rfl ?_
            have hx6 := rc_o hRCw
            refine tm_getf2 hC f_X5_16 hx6 rfl dX5_addPart_98 ?_
            refine tm_aload 0 hC dX5_addPart_101 rfl ?_
            refine tm_less (b' := 1 + 1) (n' := 400 + 400) ⟨by omega, by omega⟩ ?_
            refine tm_callV (b := 1) (n := 400) (rest := []) hC (c_Ladd (tm_g x) hst _ _ q2 _ (rc_lp hRCw) (el2_o hqo9 rfl w_el_X3 (by decide)) (show ((ints (s_np σ)).map (k_pa κ)).length ≤ 250 by rw [List.length_map]; have := ints_len hn.2.2.2.2.1; omega)) k_X5_68 (by rw [hB.2.2.1]; exact ⟨Nat.le_of_ble_eq_true rfl, Nat.le_of_ble_eq_true rfl⟩) rfl (tm_recL hC (rc_lp hRCw)) rfl (by decide) dX5_addPart_103 (fun v_103 w_103 hp_103 => ?_)
            obtain ⟨hwc9, rfl⟩ := hp_103
            have hL9 := rc_lp hRCw
            have hs1 : ∀ (b : Nat) (e : va_E), Λ b = some (.inl e) → w_103 b = some (.inl e) := fun b e hb => by rw [← hwc9, tm_ul_n (fun z => by rw [z, rc_lp hM] at hb; cases hb)]; exact hs9 b _ hb
            have hlo9 : w_103 (k_lo κ) = some (.inr ((k_or κ).map (k_pa κ))) := by rw [← hwc9, tm_ul_n (fun z => (rc_ap hM).1.2.2.2.1 z.symm)]; exact rc_lo hRCw
            have hqp9 : w_103 q2 = some (.inl (.inr (4, [.int (I (s_np σ)), .int (I l), .int (I w), .int (I g), .int (I j), .int (I c)]))) := by rw [← hwc9, tm_ul_n (fun z => by rw [z, hL9] at hqo9; cases hqo9)]; exact hqo9
            show tm_V x (tm_H x w_103) 1 400 106 [(6, .ref (q2)), (0, .ref (k_o κ)), (1, .int (I (l))), (2, .int (I (w))), (3, .int (I (g))), (4, .int (I (c))), (5, .int (I (j)))] [.int (I (1))]
            refine tm_pop hC dX5_addPart_106 rfl ?_
            refine tm_aload_n 1 hC dX5_addPart_107 rfl rfl ?_
            refine tm_aload 0 hC dX5_addPart_108 rfl ?_
            refine tm_less (b' := 1 + 0) (n' := 400 + 0) ⟨by omega, by omega⟩ ?_
            refine tm_callV (b := 0) (n := 0) (rest := []) hC (c_T_insO (tm_g x) hst Λ _ κ σ hM hw hs1 hlo9 (s_np σ) l w g j c q2 hqp9 (by omega)) k_X5_104 (by rw [hB.2.2.1]; exact ⟨Nat.le_of_ble_eq_true rfl, Nat.le_of_ble_eq_true rfl⟩) rfl (tm_rec2 hC (hs1 _ _ (rc_o hM)) rfl) rfl (by decide) dX5_addPart_110 (fun v_110 w_110 hp_110 => ?_)
            obtain ⟨i9, hi9, hwo9, hu9, hv9, rfl⟩ := hp_110
            rw [← hwc9] at hwo9
            have hRC9 : RC (tm_T x) w_110 (kPrt κ (s_np σ) q2 i9) (addP σ l w g c j) := by rw [← hwo9]; exact RC_prt hM hw hs9 hq3 hqo9 hu9 hv9
            have hqf9 : w_110 q2 = some (.inl (.inr (4, [.int (I (s_np σ)), .int (I l), .int (I w), .int (I g), .int (I j), .int (I c)]))) := by rw [← hwo9, tm_ul_n (fun z => by rw [z, rc_lo hRCw] at hqo9; cases hqo9), tm_ul_n (fun z => by rw [z, hL9] at hqo9; cases hqo9)]; exact hqo9
            show tm_V x (tm_H x w_110) 0 0 113 [(6, .ref (q2)), (0, .ref (k_o κ)), (1, .int (I (l))), (2, .int (I (w))), (3, .int (I (g))), (4, .int (I (c))), (5, .int (I (j)))] []
            refine tm_aload 0 hC dX5_addPart_113 rfl ?_
            refine tm_getf2 hC f_X5_108 hqf9 rfl dX5_addPart_115 ?_
            exact tm_iretX hC hR dX5_addPart_118 (⟨_, _, _, hRC9, hG, rfl, rfl, Or.inr (Or.inr ⟨by rw [okP_i]; omega, by omega, rfl, rfl, rfl⟩)⟩)
          · refine tm_less (b' := 1 + 0) (n' := 6 + 0) ⟨by omega, by omega⟩ ?_
            exact tm_throw hC hR hnt tm_kp2 th_ise sr_97 (by rw [hB.2.2.1]; exact ⟨Nat.le_of_ble_eq_true rfl, Nat.le_of_ble_eq_true rfl⟩) (by decide) dX5_addPart_64 dX5_addPart_67 dX5_addPart_68 dX5_addPart_70 dX5_addPart_73 (⟨rfl, Or.inr ⟨rfl, Or.inr (Or.inl ⟨by rw [okP_i]; omega, by omega, rfl, rfl⟩)⟩⟩)
        · refine tm_less (b' := 1 + 0) (n' := 6 + 0) ⟨by omega, by omega⟩ ?_
          exact tm_throw hC hR hnt tm_kp2 th_iae sr_95 (by rw [hB.2.2.1]; exact ⟨Nat.le_of_ble_eq_true rfl, Nat.le_of_ble_eq_true rfl⟩) (by decide) dX5_addPart_42 dX5_addPart_45 dX5_addPart_46 dX5_addPart_48 dX5_addPart_51 (⟨rfl, Or.inl ⟨rfl, Or.inl ⟨fun z => by rw [okP_i] at z; omega, rfl, rfl⟩⟩⟩)

set_option maxHeartbeats 4000000 in
set_option maxRecDepth 100000 in
theorem c_T_addDefect (γ : tmG) (hst : γ.1.stackTraces = false) (Λ : tmL) (κ : KP) (σ : ST) (hM : RC γ.2.2.1 Λ κ σ) (hw : WF0 σ) (b f t g : Int) (hr : (-2147483648 ≤ b ∧ b ≤ 2147483647) ∧ (-2147483648 ≤ f ∧ f ≤ 2147483647) ∧ (-2147483648 ≤ t ∧ t ≤ 2147483647) ∧ (-2147483648 ≤ g ∧ g ≤ 2147483647)) (hW : WF σ) (hG : grp (s_aj σ) (s_cu σ) (k_cs κ) 0 (s_nm σ)) : tm_ConX γ (tm_h2 γ.2.1 γ.2.2.1 γ.2.2.2.1) M_X5_addDefect 8 3 409 [.ref (k_o κ), .int (I (b)), .int (I (f)), .int (I (t)), .int (I (g))] Λ (fun v w' => ∃ κ' σ' r, RC γ.2.2.1 w' κ' σ' ∧ grp (s_aj σ') (s_cu σ') (k_cs κ') 0 (s_nm σ') ∧ k_o κ' = k_o κ ∧ v = some (.int (I r)) ∧ Sp_addDefect σ b f t g 0 σ' r) (fun E w' => Λ = w' ∧ ((E = "java/lang/IndexOutOfBoundsException" ∧ Sp_addDefect σ b f t g 1 σ 0) ∨ (E = "java/lang/IllegalArgumentException" ∧ Sp_addDefect σ b f t g 2 σ 0) ∨ (E = "java/lang/IllegalStateException" ∧ Sp_addDefect σ b f t g 3 σ 0))) := by
  refine tm_conX hst (by decide) (Nat.le_of_ble_eq_true rfl) (fun x hB hR hnt => ?_)
  have hg := hB.1
  subst hg
  have hC : tm_C x cX5_addDefect RX5 (some FieldType.int) := hB.2.2.2.1
  have hn := wf_n hw
  show tm_V x (tm_H x Λ) 3 409 0 [(0, .ref (k_o κ)), (1, .int (I (b))), (2, .int (I (f))), (3, .int (I (t))), (4, .int (I (g)))] []
  refine tm_aload_n 0 hC dX5_addDefect_0 rfl rfl ?_
  refine tm_iload_n 1 hC dX5_addDefect_1 rfl rfl ?_
  refine tm_less (b' := 1 + 2) (n' := 6 + 403) ⟨by omega, by omega⟩ ?_
  refine tm_callVX (b := 2) (n := 403) (rest := []) hC hR hnt (c_T_board (tm_g x) hst Λ κ σ hM hw b (by omega)) k_X5_72 (by rw [hB.2.2.1]; exact ⟨Nat.le_of_ble_eq_true rfl, Nat.le_of_ble_eq_true rfl⟩) rfl (tm_rec2 hC (rc_o hM) rfl) rfl (by decide) dX5_addDefect_2 (fun E9 w9 z9 => ⟨z9.1, Or.inl (⟨z9.2.1, Or.inl ⟨z9.2.2, rfl, rfl⟩⟩)⟩) (fun v_2 w_2 hp_2 => ?_)
  obtain ⟨rfl, rfl, hbb_2⟩ := hp_2
  have hbb9_2 := wf_b hw b hbb_2
  have hkl_2 := rc_len hM hw b hbb_2
  show tm_V x (tm_H x Λ) 2 403 5 [(0, .ref (k_o κ)), (1, .int (I (b))), (2, .int (I (f))), (3, .int (I (t))), (4, .int (I (g)))] [.ref (k_bo κ b)]
  refine tm_astore [(5, .ref (k_bo κ b)), (0, .ref (k_o κ)), (1, .int (I (b))), (2, .int (I (f))), (3, .int (I (t))), (4, .int (I (g)))] hC dX5_addDefect_5 (by rw [hB.2.1]; exact Nat.le_of_ble_eq_true rfl) rfl ?_
  refine tm_iload_n 3 hC dX5_addDefect_7 rfl rfl ?_
  refine tm_if_lt 35 hC dX5_addDefect_8 (by decide) (by omega) (fun c_8 => ?_) (fun c_8 => ?_)
  · refine tm_less (b' := 1 + 0) (n' := 6 + 0) ⟨by omega, by omega⟩ ?_
    exact tm_throw hC hR hnt tm_kp2 th_iae sr_79 (by rw [hB.2.2.1]; exact ⟨Nat.le_of_ble_eq_true rfl, Nat.le_of_ble_eq_true rfl⟩) (by decide) dX5_addDefect_35 dX5_addDefect_38 dX5_addDefect_39 dX5_addDefect_41 dX5_addDefect_44 (⟨rfl, Or.inr (Or.inl ⟨rfl, Or.inr (Or.inl ⟨by omega, fun z => by rw [okD_i] at z; omega, rfl, rfl⟩)⟩)⟩)
  · refine tm_iload_n 4 hC dX5_addDefect_11 rfl rfl ?_
    refine tm_iload_n 3 hC dX5_addDefect_12 rfl rfl ?_
    refine tm_icmp_le 35 hC dX5_addDefect_13 (by decide) (by omega) (fun c_13 => ?_) (fun c_13 => ?_)
    · refine tm_less (b' := 1 + 0) (n' := 6 + 0) ⟨by omega, by omega⟩ ?_
      exact tm_throw hC hR hnt tm_kp2 th_iae sr_79 (by rw [hB.2.2.1]; exact ⟨Nat.le_of_ble_eq_true rfl, Nat.le_of_ble_eq_true rfl⟩) (by decide) dX5_addDefect_35 dX5_addDefect_38 dX5_addDefect_39 dX5_addDefect_41 dX5_addDefect_44 (⟨rfl, Or.inr (Or.inl ⟨rfl, Or.inr (Or.inl ⟨by omega, fun z => by rw [okD_i] at z; omega, rfl, rfl⟩)⟩)⟩)
    · refine tm_iload_n 4 hC dX5_addDefect_16 rfl rfl ?_
      refine tm_aload 0 hC dX5_addDefect_17 rfl ?_
      have hx1 := rc_B hM b (by omega)
      refine tm_getf2 hC f_X5_76 hx1 rfl dX5_addDefect_19 ?_
      refine tm_icmp_gt 35 hC dX5_addDefect_22 (by decide) (by omega) (fun c_22 => ?_) (fun c_22 => ?_)
      · refine tm_less (b' := 1 + 0) (n' := 6 + 0) ⟨by omega, by omega⟩ ?_
        exact tm_throw hC hR hnt tm_kp2 th_iae sr_79 (by rw [hB.2.2.1]; exact ⟨Nat.le_of_ble_eq_true rfl, Nat.le_of_ble_eq_true rfl⟩) (by decide) dX5_addDefect_35 dX5_addDefect_38 dX5_addDefect_39 dX5_addDefect_41 dX5_addDefect_44 (⟨rfl, Or.inr (Or.inl ⟨rfl, Or.inr (Or.inl ⟨by omega, fun z => by rw [okD_i] at z; omega, rfl, rfl⟩)⟩)⟩)
      · refine tm_iload 5 hC dX5_addDefect_25 rfl ?_
        refine tm_iconst hC dX5_addDefect_27 ?_
        refine tm_iconst hC dX5_addDefect_28 ?_
        refine tm_callS (b := 2) (n := 403) (rest := []) hC (c_T_within (tm_g x) hst _ g 1 3 (by omega)) k_X5_39 (by rw [hB.2.2.1]; exact ⟨Nat.le_of_ble_eq_true rfl, Nat.le_of_ble_eq_true rfl⟩) rfl rfl (by decide) dX5_addDefect_29 (fun v_29 w_29 hp_29 => ?_)
        obtain ⟨rfl, rfl⟩ := hp_29
        show tm_V x (tm_H x Λ) 2 403 32 [(5, .ref (k_bo κ b)), (0, .ref (k_o κ)), (1, .int (I (b))), (2, .int (I (f))), (3, .int (I (t))), (4, .int (I (g)))] [.int (I (bi (1 ≤ g ∧ g ≤ 3)))]
        refine tm_ifb_ne 45 hC dX5_addDefect_32 (by decide) (fun c_32 => ?_) (fun c_32 => ?_)
        · refine tm_aload_n 1 hC dX5_addDefect_45 rfl rfl ?_
          have hx2 := rc_o hM
          refine tm_getf2 hC f_X5_29 hx2 rfl dX5_addDefect_46 ?_
          refine tm_bipush hC dX5_addDefect_49 rfl ?_
          refine tm_icmp_lt 64 hC dX5_addDefect_51 (by decide) (by omega) (fun c_51 => ?_) (fun c_51 => ?_)
          · refine tm_aload 0 hC dX5_addDefect_64 rfl ?_
            refine tm_iload_n 3 hC dX5_addDefect_66 rfl rfl ?_
            refine tm_iload_n 4 hC dX5_addDefect_67 rfl rfl ?_
            refine tm_iload 5 hC dX5_addDefect_68 rfl ?_
            refine tm_callVN (b := 2) (n := 403) (rest := []) hC (c_B_spoil (tm_g x) hst Λ κ σ hM hw b hbb_2 f t g (by omega)) k_X5_83 (by rw [hB.2.2.1]; exact ⟨Nat.le_of_ble_eq_true rfl, Nat.le_of_ble_eq_true rfl⟩) rfl (tm_rec2 hC (rc_B hM b (by omega)) rfl) rfl (by decide) dX5_addDefect_70 (fun v_70 w_70 hp_70 => ?_)
            obtain ⟨rfl, rfl⟩ := hp_70
            show tm_V x (tm_H x Λ) 2 403 73 [(5, .ref (k_bo κ b)), (0, .ref (k_o κ)), (1, .int (I (b))), (2, .int (I (f))), (3, .int (I (t))), (4, .int (I (g)))] [.int (I (bi (spoil σ b f t g (s_nm σ))))]
            refine tm_ifb_eq 86 hC dX5_addDefect_73 (by decide) (fun c_73 => ?_) (fun c_73 => ?_)
            · refine tm_aload 0 hC dX5_addDefect_86 rfl ?_
              refine tm_less (b' := 1 + 1) (n' := 3 + 400) ⟨by omega, by omega⟩ ?_
              refine tm_new2 hC n_X5_88 dX5_addDefect_88 (fun q3 hq4 => ?_)
              obtain ⟨w5, hw6⟩ : ∃ z, z = tm_u2 Λ q3 (.inr (3, [.int (I (0)), .int (I (0)), .int (I (0))])) := ⟨_, rfl⟩
              show tm_V x (tm_H x (tm_u2 Λ q3 (.inr (3, [.int (I (0)), .int (I (0)), .int (I (0))])))) 1 400 91 [(5, .ref (k_bo κ b)), (0, .ref (k_o κ)), (1, .int (I (b))), (2, .int (I (f))), (3, .int (I (t))), (4, .int (I (g)))] [.ref (q3), .ref (k_bo κ b)]
              rw [← hw6]
              have hw5_q3 : w5 q3 = some (.inl (.inr (3, [.int (I (0)), .int (I (0)), .int (I (0))]))) := by rw [hw6]; first | done | exact tm_u2_s
              have hw5_k_bo_κ_b := (show w5 (k_bo κ b) = _ by rw [hw6]; exact tm_u2_n (fun z => by subst z; rw [hx1] at hq4; cases hq4)).trans hx1
              have hw5_k_o_κ := (show w5 (k_o κ) = _ by rw [hw6]; exact tm_u2_n (fun z => by subst z; rw [hx2] at hq4; cases hq4)).trans hx2
              have hMn_w5 : RC (tm_T x) w5 κ σ := by rw [hw6]; exact RC_new hM hq4 _
              refine tm_dup hC dX5_addDefect_91 rfl ?_
              refine tm_iload_n 3 hC dX5_addDefect_92 rfl rfl ?_
              refine tm_iload_n 4 hC dX5_addDefect_93 rfl rfl ?_
              refine tm_iload 5 hC dX5_addDefect_94 rfl ?_
              refine tm_callIN (b := 1) (n := 400) (rest := [.ref (q3), .ref (k_bo κ b)]) hC (c_X2_init (tm_g x) hst _ q3 f t g hw5_q3) k_X5_90 (by rw [hB.2.2.1]; exact ⟨Nat.le_of_ble_eq_true rfl, Nat.le_of_ble_eq_true rfl⟩) rfl rfl (by simp [Value.category]) dX5_addDefect_96 (fun v_96 w_96 hp_96 => ?_)
              obtain ⟨hwp9, rfl⟩ := hp_96
              rw [hw6, tm_u2_2] at hwp9
              have hRCw : RC (tm_T x) w_96 κ σ := by rw [← hwp9]; exact RC_new hM hq4 _
              have hs9 : ∀ (a : Nat) (e : va_E ⊕ List Nat), Λ a = some e → w_96 a = some e := fun a e ha => by rw [← hwp9, tm_u2_n (fun z => by rw [z, hq4] at ha; cases ha)]; exact ha
              have hqo9 : w_96 q3 = some (.inl (.inr (3, [.int (I f), .int (I t), .int (I g)]))) := by rw [← hwp9]; exact tm_u2_s
              show tm_V x (tm_H x w_96) 1 400 99 [(5, .ref (k_bo κ b)), (0, .ref (k_o κ)), (1, .int (I (b))), (2, .int (I (f))), (3, .int (I (t))), (4, .int (I (g)))] [.ref (q3), .ref (k_bo κ b)]
              refine tm_less (b' := 1 + 0) (n' := 400 + 0) ⟨by omega, by omega⟩ ?_
              refine tm_callVN (b := 0) (n := 0) (rest := []) hC (c_B_insD (tm_g x) hst _ κ σ hRCw hw b hbb_2 q3 f t g hqo9 (by omega)) k_X5_91 (by rw [hB.2.2.1]; exact ⟨Nat.le_of_ble_eq_true rfl, Nat.le_of_ble_eq_true rfl⟩) rfl (tm_rec2 hC (rc_B hRCw b hbb_2) rfl) rfl (by decide) dX5_addDefect_99 (fun v_99 w_99 hp_99 => ?_)
              obtain ⟨i9, hi9, hwd9, hu9, hv9, rfl⟩ := hp_99
              have hob9 : w_99 (k_o κ) = some (.inl (.inr (6, [.ref (k_lb κ), .ref (k_lp κ), .ref (k_lo κ), .ref (k_lc κ), .ref (k_ar κ), .int (I (s_nd σ)), .int (I (s_sw σ)), .int (I (s_jt σ))]))) := by rw [← hwd9, tm_ul_n (fun z => by have h8 := rc_o hRCw; rw [z, rc_bd hRCw b hbb_2] at h8; cases h8)]; exact rc_o hRCw
              show tm_V x (tm_H x w_99) 0 0 102 [(5, .ref (k_bo κ b)), (0, .ref (k_o κ)), (1, .int (I (b))), (2, .int (I (f))), (3, .int (I (t))), (4, .int (I (g)))] []
              refine tm_aload_n 1 hC dX5_addDefect_102 rfl rfl ?_
              refine tm_dup hC dX5_addDefect_103 rfl ?_
              refine tm_getf2 hC f_X5_29 hob9 rfl dX5_addDefect_104 ?_
              refine tm_iconst hC dX5_addDefect_107 ?_
              refine tm_iadd hC dX5_addDefect_108 ?_
              refine tm_putf2 hC f_X5_29 hob9 (tt_6_5 _) (Nat.le_of_ble_eq_true rfl) dX5_addDefect_109 ?_
              obtain ⟨w7, hw8⟩ : ∃ z, z = tm_u2 w_99 (k_o κ) (.inr (6, [.ref (k_lb κ), .ref (k_lp κ), .ref (k_lo κ), .ref (k_lc κ), .ref (k_ar κ), .int (I ((s_nd σ) + 1)), .int (I (s_sw σ)), .int (I (s_jt σ))])) := ⟨_, rfl⟩
              show tm_V x (tm_H x (tm_u2 w_99 (k_o κ) (.inr (6, [.ref (k_lb κ), .ref (k_lp κ), .ref (k_lo κ), .ref (k_lc κ), .ref (k_ar κ), .int (I ((s_nd σ) + 1)), .int (I (s_sw σ)), .int (I (s_jt σ))])))) 0 0 112 [(5, .ref (k_bo κ b)), (0, .ref (k_o κ)), (1, .int (I (b))), (2, .int (I (f))), (3, .int (I (t))), (4, .int (I (g)))] []
              rw [← hw8]
              have hw7_k_o_κ : w7 (k_o κ) = some (.inl (.inr (6, [.ref (k_lb κ), .ref (k_lp κ), .ref (k_lo κ), .ref (k_lc κ), .ref (k_ar κ), .int (I ((s_nd σ) + 1)), .int (I (s_sw σ)), .int (I (s_jt σ))]))) := by rw [hw8]; first | done | exact tm_u2_s
              have hRC9 : RC (tm_T x) w7 (kDef κ b (s_nd σ) q3 i9) (addD σ b f t g) := by rw [hw8, ← hwd9]; exact RC_def hM hw hbb_2 hs9 hqo9 hu9 hv9
              refine tm_aload_n 1 hC dX5_addDefect_112 rfl rfl ?_
              refine tm_getf2 hC f_X5_29 hw7_k_o_κ rfl dX5_addDefect_113 ?_
              exact tm_iretX hC hR dX5_addDefect_116 (⟨_, _, _, hRC9, hG, rfl, rfl, Or.inr (Or.inr (Or.inr ⟨by omega, by rw [okD_i]; omega, by omega, c_73, rfl, rfl, rfl⟩))⟩)
            · refine tm_less (b' := 1 + 0) (n' := 6 + 0) ⟨by omega, by omega⟩ ?_
              exact tm_throw hC hR hnt tm_kp2 th_ise sr_86 (by rw [hB.2.2.1]; exact ⟨Nat.le_of_ble_eq_true rfl, Nat.le_of_ble_eq_true rfl⟩) (by decide) dX5_addDefect_76 dX5_addDefect_79 dX5_addDefect_80 dX5_addDefect_82 dX5_addDefect_85 (⟨rfl, Or.inr (Or.inr ⟨rfl, Or.inr (Or.inr (Or.inl ⟨by omega, by rw [okD_i]; omega, Or.inr c_73, rfl, rfl⟩))⟩)⟩)
          · refine tm_less (b' := 1 + 0) (n' := 6 + 0) ⟨by omega, by omega⟩ ?_
            exact tm_throw hC hR hnt tm_kp2 th_ise sr_81 (by rw [hB.2.2.1]; exact ⟨Nat.le_of_ble_eq_true rfl, Nat.le_of_ble_eq_true rfl⟩) (by decide) dX5_addDefect_54 dX5_addDefect_57 dX5_addDefect_58 dX5_addDefect_60 dX5_addDefect_63 (⟨rfl, Or.inr (Or.inr ⟨rfl, Or.inr (Or.inr (Or.inl ⟨by omega, by rw [okD_i]; omega, Or.inl (by omega), rfl, rfl⟩))⟩)⟩)
        · refine tm_less (b' := 1 + 0) (n' := 6 + 0) ⟨by omega, by omega⟩ ?_
          exact tm_throw hC hR hnt tm_kp2 th_iae sr_79 (by rw [hB.2.2.1]; exact ⟨Nat.le_of_ble_eq_true rfl, Nat.le_of_ble_eq_true rfl⟩) (by decide) dX5_addDefect_35 dX5_addDefect_38 dX5_addDefect_39 dX5_addDefect_41 dX5_addDefect_44 (⟨rfl, Or.inr (Or.inl ⟨rfl, Or.inr (Or.inl ⟨by omega, fun z => by rw [okD_i] at z; omega, rfl, rfl⟩)⟩)⟩)
