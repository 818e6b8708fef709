theorem gs_new {Λ0 Λ : tmL} {q : Nat} (hs : ∀ (a : Nat) (e : va_E ⊕ List Nat), Λ0 a = some e → Λ a = some e) (hq : Λ q = none) (e9 : va_E) : (∀ (a : Nat) (e : va_E ⊕ List Nat), Λ0 a = some e → tm_u2 Λ q e9 a = some e) ∧ Λ0 q = none := by
  have h0 : Λ0 q = none := by
    cases h : Λ0 q with
    | none => rfl
    | some e => rw [hs q e h] at hq; cases hq
  exact ⟨fun a e ha => by rw [tm_u2_n (fun z => by rw [z, h0] at ha; cases ha)]; exact hs a e ha, h0⟩
theorem gs_put {Λ0 Λ : tmL} {q : Nat} (hs : ∀ (a : Nat) (e : va_E ⊕ List Nat), Λ0 a = some e → Λ a = some e) (h0 : Λ0 q = none) (e9 : va_E) : ∀ (a : Nat) (e : va_E ⊕ List Nat), Λ0 a = some e → tm_u2 Λ q e9 a = some e :=
  fun a e ha => by rw [tm_u2_n (fun z => by rw [z, h0] at ha; cases ha)]; exact hs a e ha

set_option maxHeartbeats 4000000 in
set_option maxRecDepth 100000 in
theorem c_T_take2 (γ : tmG) (hst : γ.1.stackTraces = false) (Λ : tmL) (κ : KP) (σ : ST) (hM : RC γ.2.2.1 Λ κ σ) (hw : WF0 σ) (p : Int) (hp : 0 ≤ p ∧ p < s_np σ) (a : Int) (ha : 0 ≤ a ∧ a < s_nb σ) (b : Int) (hb : 0 ≤ b ∧ b < s_nb σ) (pa ln pb l2 : Int) (hl : 1 ≤ ln) (hl2 : 1 ≤ l2) (hm : s_nm σ + 1 < 216) (hP : Poss σ p ln a pa) (hQ : Poss (addC σ p a pa ln 1) p l2 b pb) (hlf : 1 ≤ s_wa σ (4 * p + 3)) (hG : grp (s_aj σ) (s_cu σ) (k_cs κ) 0 (s_nm σ)) (cc q r : Nat) (hcc : Λ cc = some (.inl (.inr (2, [.ref (k_pa κ p), .ref q, .ref r])))) (hq : Λ q = some (.inl (.inr (5, [.ref (k_pa κ p), .ref (k_bo κ a), .int (I pa), .int (I (pa + ln)), .int (I 1)])))) (hr : Λ r = some (.inl (.inr (5, [.ref (k_pa κ p), .ref (k_bo κ b), .int (I pb), .int (I (pb + l2)), .int (I 1)])))) (hnq : ∀ k, 0 ≤ k ∧ k < s_nm σ → k_pc κ k ≠ q) (hnr : ∀ k, 0 ≤ k ∧ k < s_nm σ → k_pc κ k ≠ r) (hqr : q ≠ r) : tm_Con γ (tm_h2 γ.2.1 γ.2.2.1 γ.2.2.2.1) M_X5_takeFromBoards 9 3 1200 [.ref (k_o κ), .ref (cc)] Λ (fun v w' => (∃ i9 i8, RC γ.2.2.1 w' (kCut (kIns (kIns κ a (s_nm σ) q i9) b (s_nm σ + 1) r i8) cc (s_nm σ)) (less (addC (addC σ p a pa ln 1) p b pb l2 1) p) ∧ grp (s_aj (addC (addC σ p a pa ln 1) p b pb l2 1)) (s_cu (addC (addC σ p a pa ln 1) p b pb l2 1)) (k_cs κ ++ [s_nm σ]) 0 (s_nm σ + 1 + 1)) ∧ v = none) := by
  refine tm_con hst (by decide) (Nat.le_of_ble_eq_true rfl) (fun x hB hR => ?_)
  have hg := hB.1
  subst hg
  have hC : tm_C x cX5_takeFromBoards RX5 (none) := hB.2.2.2.1
  have hn := wf_n hw
  have hp9 := wf_p hw p hp
  have ha9 := wf_b hw a ha
  have hb9 := wf_b hw b hb
  have hp0 := hP.1
  have hp1 := hP.2.1
  have hq0 := hQ.1
  have hq1 : pb + l2 ≤ s_wo σ (3 * b) := hQ.2.1
  have hgl := grp_le _ _ _ hG
  have hcl := (rc_cu hM).2.1
  have hw1 := addC_wf (j := 1) hw hp ha hl (Or.inr rfl) (by omega) hP
  have hg1 := join_grp (σ := σ) (p := p) (a := a) (pa := pa) (ln := ln) (b := b) (pb := pb) (l2 := l2) hG (by omega)
  have hnr1 : ∀ k, 0 ≤ k ∧ k < s_nm σ + 1 → (if k = s_nm σ then q else k_pc κ k) ≠ r := fun k hk => by
    by_cases e : k = s_nm σ
    · rw [if_pos e]; exact hqr
    · rw [if_neg e]; exact hnr k (by omega)
  show tm_V x (tm_H x Λ) 3 1200 0 [(0, .ref (k_o κ)), (1, .ref (cc))] []
  refine tm_aload_n 1 hC dX5_takeFromBoards_0 rfl rfl ?_
  refine tm_getf2 hC f_X5_211 hcc rfl dX5_takeFromBoards_1 ?_
  refine tm_getf2 hC f_X5_215 hq rfl dX5_takeFromBoards_4 ?_
  refine tm_aload_n 1 hC dX5_takeFromBoards_7 rfl rfl ?_
  refine tm_getf2 hC f_X5_211 hcc rfl dX5_takeFromBoards_8 ?_
  refine tm_less (b' := 1 + 2) (n' := 400 + 800) ⟨by omega, by omega⟩ ?_
  refine tm_callVN (b := 2) (n := 800) (rest := []) hC (c_B_insP (tm_g x) hst _ κ σ hM hw a ha q _ _ pa (pa + ln) 1 hq (by omega)) k_X5_307 (by rw [hB.2.2.1]; exact ⟨Nat.le_of_ble_eq_true rfl, Nat.le_of_ble_eq_true rfl⟩) rfl (tm_rec2 hC (rc_B hM a ha) rfl) rfl (by decide) dX5_takeFromBoards_11 (fun v_11 w_11 hp_11 => ?_)
  obtain ⟨i9, hi9, hwi9, hu9, hv9, rfl⟩ := hp_11
  have hRC1 : RC (tm_T x) w_11 (kIns κ a (s_nm σ) q i9) (addC σ p a pa ln 1) := by rw [← hwi9]; exact RC_ins hM hw hp ha hl (Or.inr rfl) (by omega) hP hq hnq hu9 hv9
  have hcc1 : w_11 cc = some (.inl (.inr (2, [.ref (k_pa κ p), .ref q, .ref r]))) := by rw [← hwi9, tm_ul_n (fun z => by rw [z, rc_bp hM a ha] at hcc; cases hcc)]; exact hcc
  have hr1 : w_11 r = some (.inl (.inr (5, [.ref (k_pa κ p), .ref (k_bo κ b), .int (I pb), .int (I (pb + l2)), .int (I 1)]))) := by rw [← hwi9, tm_ul_n (fun z => by rw [z, rc_bp hM a ha] at hr; cases hr)]; exact hr
  show tm_V x (tm_H x w_11) 2 800 14 [(0, .ref (k_o κ)), (1, .ref (cc))] []
  refine tm_aload_n 1 hC dX5_takeFromBoards_14 rfl rfl ?_
  refine tm_getf2 hC f_X5_223 hcc1 rfl dX5_takeFromBoards_15 ?_
  refine tm_ifnull hC dX5_takeFromBoards_18 ?_
  refine tm_aload_n 1 hC dX5_takeFromBoards_21 rfl rfl ?_
  refine tm_getf2 hC f_X5_223 hcc1 rfl dX5_takeFromBoards_22 ?_
  refine tm_getf2 hC f_X5_215 hr1 rfl dX5_takeFromBoards_25 ?_
  refine tm_aload_n 1 hC dX5_takeFromBoards_28 rfl rfl ?_
  refine tm_getf2 hC f_X5_223 hcc1 rfl dX5_takeFromBoards_29 ?_
  have hbo9 : w_11 (k_bo κ b) = some (.inl (.inr (1, fB (kIns κ a (s_nm σ) q i9) (addC σ p a pa ln 1) b))) := by have h8 := rc_B hRC1 b hb; exact h8
  refine tm_less (b' := 1 + 1) (n' := 400 + 400) ⟨by omega, by omega⟩ ?_
  refine tm_callVN (b := 1) (n := 400) (rest := []) hC (c_B_insP (tm_g x) hst _ (kIns κ a (s_nm σ) q i9) (addC σ p a pa ln 1) hRC1 hw1 b hb r _ _ pb (pb + l2) 1 hr1 (by omega)) k_X5_307 (by rw [hB.2.2.1]; exact ⟨Nat.le_of_ble_eq_true rfl, Nat.le_of_ble_eq_true rfl⟩) rfl (tm_rec2 hC hbo9 rfl) rfl (by decide) dX5_takeFromBoards_32 (fun v_32 w_32 hp_32 => ?_)
  obtain ⟨i8, hi8, hwi8, hu8, hv8, rfl⟩ := hp_32
  have hRC2 : RC (tm_T x) w_32 (kIns (kIns κ a (s_nm σ) q i9) b (s_nm σ + 1) r i8) (addC (addC σ p a pa ln 1) p b pb l2 1) := by rw [← hwi8]; exact RC_ins hRC1 hw1 hp hb hl2 (Or.inr rfl) (show s_nm σ + 1 < 216 by omega) hQ hr1 (fun k hk => hnr1 k hk) hu8 hv8
  have hcc2 : w_32 cc = some (.inl (.inr (2, [.ref (k_pa κ p), .ref q, .ref r]))) := by rw [← hwi8, tm_ul_n (fun z => by have h8 := rc_bp hRC1 b hb; rw [z] at hcc1; rw [h8] at hcc1; cases hcc1)]; exact hcc1
  have hpa1 : w_32 (k_pa κ p) = some (.inl (.inr (4, fP σ p))) := by have h8 := rc_P hRC2 p hp; exact h8
  show tm_V x (tm_H x w_32) 1 400 35 [(0, .ref (k_o κ)), (1, .ref (cc))] []
  refine tm_aload_n 1 hC dX5_takeFromBoards_35 rfl rfl ?_
  refine tm_getf2 hC f_X5_226 hcc2 rfl dX5_takeFromBoards_36 ?_
  refine tm_dup hC dX5_takeFromBoards_39 rfl ?_
  refine tm_getf2 hC f_X5_159 hpa1 rfl dX5_takeFromBoards_40 ?_
  refine tm_iconst hC dX5_takeFromBoards_43 ?_
  refine tm_isub hC dX5_takeFromBoards_44 ?_
  refine tm_putf2 hC f_X5_159 hpa1 (tt_4_5 _) (Nat.le_of_ble_eq_true rfl) dX5_takeFromBoards_45 ?_
  obtain ⟨w1, hw2⟩ : ∃ z, z = tm_u2 w_32 (k_pa κ p) (.inr (4, [.int (I (p)), .int (I (s_wa σ (4 * p + 0))), .int (I (s_wa σ (4 * p + 1))), .int (I (s_wa σ (4 * p + 2))), .int (I (s_mj σ p)), .int (I ((s_wa σ (4 * p + 3)) - 1))])) := ⟨_, rfl⟩
  show tm_V x (tm_H x (tm_u2 w_32 (k_pa κ p) (.inr (4, [.int (I (p)), .int (I (s_wa σ (4 * p + 0))), .int (I (s_wa σ (4 * p + 1))), .int (I (s_wa σ (4 * p + 2))), .int (I (s_mj σ p)), .int (I ((s_wa σ (4 * p + 3)) - 1))])))) 1 400 48 [(0, .ref (k_o κ)), (1, .ref (cc))] []
  rw [← hw2]
  have hw1_k_pa_κ_p : w1 (k_pa κ p) = some (.inl (.inr (4, [.int (I (p)), .int (I (s_wa σ (4 * p + 0))), .int (I (s_wa σ (4 * p + 1))), .int (I (s_wa σ (4 * p + 2))), .int (I (s_mj σ p)), .int (I ((s_wa σ (4 * p + 3)) - 1))]))) := by rw [hw2]; first | done | exact tm_u2_s
  have hw1_cc := (show w1 cc = _ by rw [hw2]; exact tm_u2_n (fun z => absurd (hpa1.symm.trans (z ▸ hcc2)) (by intro q; cases q))).trans hcc2
  have hRC3 : RC (tm_T x) w1 (kIns (kIns κ a (s_nm σ) q i9) b (s_nm σ + 1) r i8) (setL (addC (addC σ p a pa ln 1) p b pb l2 1) p (s_wa σ (4 * p + 3) - 1)) := by rw [hw2]; exact RC_left hRC2 hp
  have hob9 : w1 (k_o κ) = some (.inl (.inr (6, [.ref (k_lb κ), .ref (k_lp κ), .ref (k_lo κ), .ref (k_lc κ), .ref (k_ar κ), .int (I (s_nd σ)), .int (I (s_sw σ)), .int (I (s_jt σ))]))) := by have h8 := rc_o hRC3; exact h8
  refine tm_aload_n 0 hC dX5_takeFromBoards_48 rfl rfl ?_
  refine tm_getf2 hC f_X5_22 hob9 rfl dX5_takeFromBoards_49 ?_
  refine tm_aload_n 1 hC dX5_takeFromBoards_52 rfl rfl ?_
  have hcc9 := hw1_cc
  have hlc9 : w1 (k_lc κ) = some (.inr (k_ca κ)) := by have h8 := rc_lc hRC3; exact h8
  refine tm_less (b' := 1 + 0) (n' := 400 + 0) ⟨by omega, by omega⟩ ?_
  refine tm_callV (b := 0) (n := 0) (rest := []) hC (c_Ladd (tm_g x) hst _ _ cc _ hlc9 (el2_o hcc9 rfl w_el_X1 (by decide)) (show (k_ca κ).length ≤ 250 by omega)) k_X5_68 (by rw [hB.2.2.1]; exact ⟨Nat.le_of_ble_eq_true rfl, Nat.le_of_ble_eq_true rfl⟩) rfl (tm_recL hC hlc9) rfl (by decide) dX5_takeFromBoards_53 (fun v_53 w_53 hp_53 => ?_)
  obtain ⟨hwc9, rfl⟩ := hp_53
  show tm_V x (tm_H x w_53) 0 0 56 [(0, .ref (k_o κ)), (1, .ref (cc))] [.int (I (1))]
  refine tm_pop hC dX5_takeFromBoards_56 rfl ?_
  obtain ⟨n1, n2, n3, n4⟩ := addC_n (σ := σ) (p := p) (b := a) (pl := pa) (len := ln) (j := 1)
  have e1 : s_cu (addC (addC σ p a pa ln 1) p b pb l2 1) (4 * s_nm σ + 3) = p := (addC_old (show 4 * s_nm σ + 3 < 4 * (s_nm σ + 1) by omega)).trans n4
  have e2 : s_aj (addC (addC σ p a pa ln 1) p b pb l2 1) (s_nm σ) = 1 := (addC_a (show s_nm σ < s_nm σ + 1 by omega)).trans addC_an
  have hfc9 : w1 cc = some (.inl (.inr (2, fC (kIns (kIns κ a (s_nm σ) q i9) b (s_nm σ + 1) r i8) (setL (addC (addC σ p a pa ln 1) p b pb l2 1) p (s_wa σ (4 * p + 3) - 1)) (s_nm σ)))) := by
    rw [hcc9]
    show (some (.inl (.inr (2, [.ref (k_pa κ p), .ref q, .ref r]))) : Option (va_E ⊕ List Nat)) = some (.inl (.inr (2, [.ref (k_pa κ (s_cu (addC (addC σ p a pa ln 1) p b pb l2 1) (4 * s_nm σ + 3))), .ref (if s_nm σ = s_nm σ + 1 then r else if s_nm σ = s_nm σ then q else k_pc κ (s_nm σ)), if s_aj (addC (addC σ p a pa ln 1) p b pb l2 1) (s_nm σ) = 0 then .null else .ref (if s_nm σ + 1 = s_nm σ + 1 then r else if s_nm σ + 1 = s_nm σ then q else k_pc κ (s_nm σ + 1))])))
    rw [e1, e2, if_neg (show ¬ s_nm σ = s_nm σ + 1 by omega), if_pos rfl, if_neg (show ¬ (1 : Int) = 0 by omega), if_pos rfl]
  exact tm_vret hC hR dX5_takeFromBoards_57 (⟨⟨i9, i8, by rw [← hwc9]; exact RC_cut hRC3 ⟨s_nm σ + 1 + 1, Int.le_refl _, hg1⟩ hfc9, hg1⟩, rfl⟩)

set_option maxHeartbeats 4000000 in
set_option maxRecDepth 100000 in
theorem c_T_join (γ : tmG) (hst : γ.1.stackTraces = false) (Λ : tmL) (κ : KP) (σ : ST) (hM : RC γ.2.2.1 Λ κ σ) (hw : WF0 σ) (p a pa len b pb : Int) (hr : (-2147483648 ≤ p ∧ p ≤ 2147483647) ∧ (-2147483648 ≤ a ∧ a ≤ 2147483647) ∧ (-2147483648 ≤ pa ∧ pa ≤ 2147483647) ∧ (-2147483648 ≤ len ∧ len ≤ 2147483647) ∧ (-2147483648 ≤ b ∧ b ≤ 2147483647) ∧ (-2147483648 ≤ pb ∧ pb ≤ 2147483647)) (hW : WF σ) (hG : grp (s_aj σ) (s_cu σ) (k_cs κ) 0 (s_nm σ)) : tm_ConX γ (tm_h2 γ.2.1 γ.2.2.1 γ.2.2.2.1) M_X5_join 11 9 1231 [.ref (k_o κ), .int (I (p)), .int (I (a)), .int (I (pa)), .int (I (len)), .int (I (b)), .int (I (pb))] Λ (fun v w' => ∃ κ' σ' r, RC γ.2.2.1 w' κ' σ' ∧ grp (s_aj σ') (s_cu σ') (k_cs κ') 0 (s_nm σ') ∧ k_o κ' = k_o κ ∧ v = some (.int (I r)) ∧ Sp_join σ p a pa len b pb 0 σ' r) (fun E w' => RC γ.2.2.1 w' κ σ ∧ ((E = "java/lang/IndexOutOfBoundsException" ∧ Sp_join σ p a pa len b pb 1 σ 0) ∨ (E = "java/lang/IllegalArgumentException" ∧ Sp_join σ p a pa len b pb 2 σ 0) ∨ (E = "java/lang/IllegalStateException" ∧ Sp_join σ p a pa len b pb 3 σ 0))) := by
  refine tm_conX hst (by decide) (Nat.le_of_ble_eq_true rfl) (fun x hB hR hnt => ?_)
  have hg := hB.1
  subst hg
  have hC : tm_C x cX5_join RX5 (some FieldType.int) := hB.2.2.2.1
  have hn := wf_n hw
  show tm_V x (tm_H x Λ) 9 1231 0 [(0, .ref (k_o κ)), (1, .int (I (p))), (2, .int (I (a))), (3, .int (I (pa))), (4, .int (I (len))), (5, .int (I (b))), (6, .int (I (pb)))] []
  refine tm_aload_n 0 hC dX5_join_0 rfl rfl ?_
  refine tm_iload_n 1 hC dX5_join_1 rfl rfl ?_
  refine tm_less (b' := 1 + 8) (n' := 6 + 1225) ⟨by omega, by omega⟩ ?_
  refine tm_callVX (b := 8) (n := 1225) (rest := []) hC hR hnt (c_T_part (tm_g x) hst Λ κ σ hM hw p (by omega)) k_X5_146 (by rw [hB.2.2.1]; exact ⟨Nat.le_of_ble_eq_true rfl, Nat.le_of_ble_eq_true rfl⟩) rfl (tm_rec2 hC (rc_o hM) rfl) rfl (by decide) dX5_join_2 (fun E9 w9 z9 => ⟨z9.1 ▸ hM, Or.inl ⟨z9.2.1, Or.inl ⟨fun q => z9.2.2 q.1, rfl, rfl⟩⟩⟩) (fun v_2 w_2 hp_2 => ?_)
  obtain ⟨rfl, rfl, hpp_2⟩ := hp_2
  have hpp9_2 := wf_p hw p hpp_2
  show tm_V x (tm_H x Λ) 8 1225 5 [(0, .ref (k_o κ)), (1, .int (I (p))), (2, .int (I (a))), (3, .int (I (pa))), (4, .int (I (len))), (5, .int (I (b))), (6, .int (I (pb)))] [.ref (k_pa κ p)]
  refine tm_astore [(7, .ref (k_pa κ p)), (0, .ref (k_o κ)), (1, .int (I (p))), (2, .int (I (a))), (3, .int (I (pa))), (4, .int (I (len))), (5, .int (I (b))), (6, .int (I (pb)))] hC dX5_join_5 (by rw [hB.2.1]; exact Nat.le_of_ble_eq_true rfl) rfl ?_
  refine tm_aload_n 1 hC dX5_join_7 rfl rfl ?_
  refine tm_iload_n 3 hC dX5_join_8 rfl rfl ?_
  refine tm_less (b' := 1 + 7) (n' := 6 + 1219) ⟨by omega, by omega⟩ ?_
  refine tm_callVX (b := 7) (n := 1219) (rest := []) hC hR hnt (c_T_board (tm_g x) hst Λ κ σ hM hw a (by omega)) k_X5_72 (by rw [hB.2.2.1]; exact ⟨Nat.le_of_ble_eq_true rfl, Nat.le_of_ble_eq_true rfl⟩) rfl (tm_rec2 hC (rc_o hM) rfl) rfl (by decide) dX5_join_9 (fun E9 w9 z9 => ⟨z9.1 ▸ hM, Or.inl ⟨z9.2.1, Or.inl ⟨fun q => z9.2.2 q.2.1, rfl, rfl⟩⟩⟩) (fun v_9 w_9 hp_9 => ?_)
  obtain ⟨rfl, rfl, hbb_9⟩ := hp_9
  have hbb9_9 := wf_b hw a hbb_9
  have hkl_9 := rc_len hM hw a hbb_9
  show tm_V x (tm_H x Λ) 7 1219 12 [(7, .ref (k_pa κ p)), (0, .ref (k_o κ)), (1, .int (I (p))), (2, .int (I (a))), (3, .int (I (pa))), (4, .int (I (len))), (5, .int (I (b))), (6, .int (I (pb)))] [.ref (k_bo κ a)]
  refine tm_astore [(8, .ref (k_bo κ a)), (7, .ref (k_pa κ p)), (0, .ref (k_o κ)), (1, .int (I (p))), (2, .int (I (a))), (3, .int (I (pa))), (4, .int (I (len))), (5, .int (I (b))), (6, .int (I (pb)))] hC dX5_join_12 (by rw [hB.2.1]; exact Nat.le_of_ble_eq_true rfl) rfl ?_
  refine tm_aload_n 2 hC dX5_join_14 rfl rfl ?_
  refine tm_iload 7 hC dX5_join_15 rfl ?_
  refine tm_less (b' := 1 + 6) (n' := 6 + 1213) ⟨by omega, by omega⟩ ?_
  refine tm_callVX (b := 6) (n := 1213) (rest := []) hC hR hnt (c_T_board (tm_g x) hst Λ κ σ hM hw b (by omega)) k_X5_72 (by rw [hB.2.2.1]; exact ⟨Nat.le_of_ble_eq_true rfl, Nat.le_of_ble_eq_true rfl⟩) rfl (tm_rec2 hC (rc_o hM) rfl) rfl (by decide) dX5_join_17 (fun E9 w9 z9 => ⟨z9.1 ▸ hM, Or.inl ⟨z9.2.1, Or.inl ⟨fun q => z9.2.2 q.2.2, rfl, rfl⟩⟩⟩) (fun v_17 w_17 hp_17 => ?_)
  obtain ⟨rfl, rfl, hbb_17⟩ := hp_17
  have hbb9_17 := wf_b hw b hbb_17
  have hkl_17 := rc_len hM hw b hbb_17
  show tm_V x (tm_H x Λ) 6 1213 20 [(8, .ref (k_bo κ a)), (7, .ref (k_pa κ p)), (0, .ref (k_o κ)), (1, .int (I (p))), (2, .int (I (a))), (3, .int (I (pa))), (4, .int (I (len))), (5, .int (I (b))), (6, .int (I (pb)))] [.ref (k_bo κ b)]
  refine tm_astore [(9, .ref (k_bo κ b)), (8, .ref (k_bo κ a)), (7, .ref (k_pa κ p)), (0, .ref (k_o κ)), (1, .int (I (p))), (2, .int (I (a))), (3, .int (I (pa))), (4, .int (I (len))), (5, .int (I (b))), (6, .int (I (pb)))] hC dX5_join_20 (by rw [hB.2.1]; exact Nat.le_of_ble_eq_true rfl) rfl ?_
  refine tm_aload 2 hC dX5_join_22 rfl ?_
  have hx1 := rc_P hM p (by omega)
  refine tm_getf2 hC f_X5_150 hx1 rfl dX5_join_24 ?_
  refine tm_aload_n 3 hC dX5_join_27 rfl rfl ?_
  have hx2 := rc_o hM
  refine tm_getf2 hC f_X5_36 hx2 rfl dX5_join_28 ?_
  refine tm_iadd hC dX5_join_31 ?_
  refine tm_iload 7 hC dX5_join_32 rfl ?_
  refine tm_isub hC dX5_join_34 ?_
  refine tm_istore [(10, .int (I (((s_wa σ (4 * p + 0)) + (s_jt σ)) - len))), (9, .ref (k_bo κ b)), (8, .ref (k_bo κ a)), (7, .ref (k_pa κ p)), (0, .ref (k_o κ)), (1, .int (I (p))), (2, .int (I (a))), (3, .int (I (pa))), (4, .int (I (len))), (5, .int (I (b))), (6, .int (I (pb)))] hC dX5_join_35 (by rw [hB.2.1]; exact Nat.le_of_ble_eq_true rfl) rfl ?_
  refine tm_iload 8 hC dX5_join_37 rfl ?_
  refine tm_bipush hC dX5_join_39 rfl ?_
  refine tm_icmp_lt 51 hC dX5_join_41 (by decide) (by omega) (fun c_41 => ?_) (fun c_41 => ?_)
  · refine tm_less (b' := 1 + 0) (n' := 6 + 0) ⟨by omega, by omega⟩ ?_
    exact tm_throw hC hR hnt tm_kp2 th_iae sr_170 (by rw [hB.2.2.1]; exact ⟨Nat.le_of_ble_eq_true rfl, Nat.le_of_ble_eq_true rfl⟩) (by decide) dX5_join_51 dX5_join_54 dX5_join_55 dX5_join_57 dX5_join_60 (⟨hM, Or.inr (Or.inl ⟨rfl, Or.inr (Or.inl ⟨by rw [okJ_i]; omega, fun z => by have z1 := z.1; have z2 : 50 ≤ (s_wa σ (4 * p + 0) + s_jt σ - len) := z.2; omega, rfl, rfl⟩)⟩)⟩)
  · refine tm_iload 0 hC dX5_join_44 rfl ?_
    refine tm_bipush hC dX5_join_46 rfl ?_
    refine tm_icmp_ge 61 hC dX5_join_48 (by decide) (by omega) (fun c_48 => ?_) (fun c_48 => ?_)
    · refine tm_aload 3 hC dX5_join_61 rfl ?_
      refine tm_getf2 hC f_X5_159 hx1 rfl dX5_join_63 ?_
      refine tm_if_le 77 hC dX5_join_66 (by decide) (by omega) (fun c_66 => ?_) (fun c_66 => ?_)
      · refine tm_less (b' := 1 + 0) (n' := 6 + 0) ⟨by omega, by omega⟩ ?_
        exact tm_throw hC hR hnt tm_kp2 th_ise sr_176 (by rw [hB.2.2.1]; exact ⟨Nat.le_of_ble_eq_true rfl, Nat.le_of_ble_eq_true rfl⟩) (by decide) dX5_join_77 dX5_join_80 dX5_join_81 dX5_join_83 dX5_join_86 (⟨hM, Or.inr (Or.inr ⟨rfl, Or.inr (Or.inr (Or.inl ⟨by rw [okJ_i]; omega, ⟨by omega, show 50 ≤ (s_wa σ (4 * p + 0) + s_jt σ - len) by omega⟩, Or.inl (by omega), rfl, Eqv_r σ⟩))⟩)⟩)
      · refine tm_aload 3 hC dX5_join_69 rfl ?_
        refine tm_getf2 hC f_X5_172 hx1 rfl dX5_join_71 ?_
        refine tm_if_ne 87 hC dX5_join_74 (by decide) (by omega) (fun c_74 => ?_) (fun c_74 => ?_)
        · refine tm_aload 2 hC dX5_join_87 rfl ?_
          refine tm_aload 3 hC dX5_join_89 rfl ?_
          refine tm_iload_n 7 hC dX5_join_91 rfl rfl ?_
          refine tm_iload 8 hC dX5_join_92 rfl ?_
          refine tm_aload_n 4 hC dX5_join_94 rfl rfl ?_
          refine tm_getf2 hC f_X5_33 hx2 rfl dX5_join_95 ?_
          refine tm_callVN (b := 6) (n := 1213) (rest := []) hC (c_B_canGive (tm_g x) hst Λ κ σ hM hw a (by omega) p (by omega) pa len (by omega)) k_X5_151 (by rw [hB.2.2.1]; exact ⟨Nat.le_of_ble_eq_true rfl, Nat.le_of_ble_eq_true rfl⟩) rfl (tm_rec2 hC (rc_B hM a (by omega)) rfl) rfl (by decide) dX5_join_98 (fun v_98 w_98 hp_98 => ?_)
          obtain ⟨rfl, rfl⟩ := hp_98
          show tm_V x (tm_H x Λ) 6 1213 101 [(10, .int (I (((s_wa σ (4 * p + 0)) + (s_jt σ)) - len))), (9, .ref (k_bo κ b)), (8, .ref (k_bo κ a)), (7, .ref (k_pa κ p)), (0, .ref (k_o κ)), (1, .int (I (p))), (2, .int (I (a))), (3, .int (I (pa))), (4, .int (I (len))), (5, .int (I (b))), (6, .int (I (pb)))] [.int (I (bi (Poss σ p len a pa)))]
          refine tm_ifb_eq 122 hC dX5_join_101 (by decide) (fun c_101 => ?_) (fun c_101 => ?_)
          · refine tm_less (b' := 1 + 0) (n' := 6 + 0) ⟨by omega, by omega⟩ ?_
            exact tm_throw hC hR hnt tm_kp2 th_ise sr_178 (by rw [hB.2.2.1]; exact ⟨Nat.le_of_ble_eq_true rfl, Nat.le_of_ble_eq_true rfl⟩) (by decide) dX5_join_122 dX5_join_125 dX5_join_126 dX5_join_128 dX5_join_131 (⟨hM, Or.inr (Or.inr ⟨rfl, Or.inr (Or.inr (Or.inl ⟨by rw [okJ_i]; omega, ⟨by omega, show 50 ≤ (s_wa σ (4 * p + 0) + s_jt σ - len) by omega⟩, Or.inr (Or.inr (Or.inl c_101)), rfl, Eqv_r σ⟩))⟩)⟩)
          · refine tm_aload 1 hC dX5_join_104 rfl ?_
            refine tm_aload 3 hC dX5_join_106 rfl ?_
            refine tm_iload 10 hC dX5_join_108 rfl ?_
            refine tm_iload 0 hC dX5_join_110 rfl ?_
            refine tm_aload_n 4 hC dX5_join_112 rfl rfl ?_
            refine tm_getf2 hC f_X5_33 hx2 rfl dX5_join_113 ?_
            refine tm_callVN (b := 6) (n := 1213) (rest := []) hC (c_B_canGive (tm_g x) hst Λ κ σ hM hw b (by omega) p (by omega) pb (((s_wa σ (4 * p + 0)) + (s_jt σ)) - len) (by omega)) k_X5_151 (by rw [hB.2.2.1]; exact ⟨Nat.le_of_ble_eq_true rfl, Nat.le_of_ble_eq_true rfl⟩) rfl (tm_rec2 hC (rc_B hM b (by omega)) rfl) rfl (by decide) dX5_join_116 (fun v_116 w_116 hp_116 => ?_)
            obtain ⟨rfl, rfl⟩ := hp_116
            show tm_V x (tm_H x Λ) 6 1213 119 [(10, .int (I (((s_wa σ (4 * p + 0)) + (s_jt σ)) - len))), (9, .ref (k_bo κ b)), (8, .ref (k_bo κ a)), (7, .ref (k_pa κ p)), (0, .ref (k_o κ)), (1, .int (I (p))), (2, .int (I (a))), (3, .int (I (pa))), (4, .int (I (len))), (5, .int (I (b))), (6, .int (I (pb)))] [.int (I (bi (Poss σ p (((s_wa σ (4 * p + 0)) + (s_jt σ)) - len) b pb)))]
            refine tm_ifb_ne 132 hC dX5_join_119 (by decide) (fun c_119 => ?_) (fun c_119 => ?_)
            · have hrm9 := wf_room hW (p := p) hpp_2 (by omega)
              have hpa9 := c_101.1
              have hpb9 := c_119.1
              have hpa8 := c_101.2.1
              have hpb8 := c_119.2.1
              refine tm_less (b' := 1 + 5) (n' := 5 + 1208) ⟨by omega, by omega⟩ ?_
              refine tm_new2 hC n_X5_180 dX5_join_132 (fun q3 hq4 => ?_)
              obtain ⟨w5, hw6⟩ : ∃ z, z = tm_u2 Λ q3 (.inr (5, [.null, .null, .int (I (0)), .int (I (0)), .int (I (0))])) := ⟨_, rfl⟩
              show tm_V x (tm_H x (tm_u2 Λ q3 (.inr (5, [.null, .null, .int (I (0)), .int (I (0)), .int (I (0))])))) 5 1208 135 [(10, .int (I (((s_wa σ (4 * p + 0)) + (s_jt σ)) - len))), (9, .ref (k_bo κ b)), (8, .ref (k_bo κ a)), (7, .ref (k_pa κ p)), (0, .ref (k_o κ)), (1, .int (I (p))), (2, .int (I (a))), (3, .int (I (pa))), (4, .int (I (len))), (5, .int (I (b))), (6, .int (I (pb)))] [.ref (q3)]
              rw [← hw6]
              have hw5_q3 : w5 q3 = some (.inl (.inr (5, [.null, .null, .int (I (0)), .int (I (0)), .int (I (0))]))) := by rw [hw6]; first | done | exact tm_u2_s
              have hw5_k_pa_κ_p := (show w5 (k_pa κ p) = _ by rw [hw6]; exact tm_u2_n (fun z => by subst z; rw [hx1] at hq4; cases hq4)).trans hx1
              have hw5_k_o_κ := (show w5 (k_o κ) = _ by rw [hw6]; exact tm_u2_n (fun z => by subst z; rw [hx2] at hq4; cases hq4)).trans hx2
              have hgs_w5 : (∀ (a : Nat) (e : va_E ⊕ List Nat), Λ a = some e → w5 a = some e) ∧ Λ q3 = none := by rw [hw6]; exact gs_new (fun _ _ h => h) hq4 _
              have hMn_w5 : RC (tm_T x) w5 κ σ := RC_sub hgs_w5.1 hM
              refine tm_dup hC dX5_join_135 rfl ?_
              refine tm_aload 3 hC dX5_join_136 rfl ?_
              refine tm_aload 2 hC dX5_join_138 rfl ?_
              refine tm_iload_n 7 hC dX5_join_140 rfl rfl ?_
              refine tm_iload_n 7 hC dX5_join_141 rfl rfl ?_
              refine tm_iload 8 hC dX5_join_142 rfl ?_
              refine tm_iadd hC dX5_join_144 ?_
              refine tm_iconst hC dX5_join_145 ?_
              refine tm_callIN (b := 5) (n := 1208) (rest := [.ref (q3)]) hC (c_X4_init (tm_g x) hst _ q3 (k_pa κ p) (k_bo κ a) pa (pa + len) 1 (Or.inr rfl) hw5_q3) k_X5_182 (by rw [hB.2.2.1]; exact ⟨Nat.le_of_ble_eq_true rfl, Nat.le_of_ble_eq_true rfl⟩) rfl rfl (by simp [Value.category]) dX5_join_146 (fun v_146 w_146 hp_146 => ?_)
              obtain ⟨hwi_146, rfl⟩ := hp_146
              have hs_146 : ∀ (a : Nat) (e : va_E ⊕ List Nat), Λ a = some e → w_146 a = some e := by rw [← hwi_146]; exact gs_put hgs_w5.1 hgs_w5.2 _
              have hpc_146 : w_146 q3 = some (.inl (.inr (5, [.ref (k_pa κ p), .ref (k_bo κ a), .int (I pa), .int (I (pa + len)), .int (I 1)]))) := by rw [← hwi_146]; exact tm_u2_s
              have hRC_146 : RC (tm_T x) w_146 κ σ := RC_sub hs_146 hM
              show tm_V x (tm_H x w_146) 5 1208 149 [(10, .int (I (((s_wa σ (4 * p + 0)) + (s_jt σ)) - len))), (9, .ref (k_bo κ b)), (8, .ref (k_bo κ a)), (7, .ref (k_pa κ p)), (0, .ref (k_o κ)), (1, .int (I (p))), (2, .int (I (a))), (3, .int (I (pa))), (4, .int (I (len))), (5, .int (I (b))), (6, .int (I (pb)))] [.ref (q3)]
              refine tm_astore [(11, .ref (q3)), (10, .int (I (((s_wa σ (4 * p + 0)) + (s_jt σ)) - len))), (9, .ref (k_bo κ b)), (8, .ref (k_bo κ a)), (7, .ref (k_pa κ p)), (0, .ref (k_o κ)), (1, .int (I (p))), (2, .int (I (a))), (3, .int (I (pa))), (4, .int (I (len))), (5, .int (I (b))), (6, .int (I (pb)))] hC dX5_join_149 (by rw [hB.2.1]; exact Nat.le_of_ble_eq_true rfl) rfl ?_
              refine tm_less (b' := 1 + 4) (n' := 5 + 1203) ⟨by omega, by omega⟩ ?_
              refine tm_new2 hC n_X5_180 dX5_join_151 (fun q7 hq8 => ?_)
              obtain ⟨w9, hw10⟩ : ∃ z, z = tm_u2 w_146 q7 (.inr (5, [.null, .null, .int (I (0)), .int (I (0)), .int (I (0))])) := ⟨_, rfl⟩
              show tm_V x (tm_H x (tm_u2 w_146 q7 (.inr (5, [.null, .null, .int (I (0)), .int (I (0)), .int (I (0))])))) 4 1203 154 [(11, .ref (q3)), (10, .int (I (((s_wa σ (4 * p + 0)) + (s_jt σ)) - len))), (9, .ref (k_bo κ b)), (8, .ref (k_bo κ a)), (7, .ref (k_pa κ p)), (0, .ref (k_o κ)), (1, .int (I (p))), (2, .int (I (a))), (3, .int (I (pa))), (4, .int (I (len))), (5, .int (I (b))), (6, .int (I (pb)))] [.ref (q7)]
              rw [← hw10]
              have hw9_q7 : w9 q7 = some (.inl (.inr (5, [.null, .null, .int (I (0)), .int (I (0)), .int (I (0))]))) := by rw [hw10]; first | done | exact tm_u2_s
              have hw9_q3 := (show w9 q3 = _ by rw [hw10]; exact tm_u2_n (fun z => by subst z; rw [hpc_146] at hq8; cases hq8)).trans hpc_146
              have hgs_w9 : (∀ (a : Nat) (e : va_E ⊕ List Nat), Λ a = some e → w9 a = some e) ∧ Λ q7 = none := by rw [hw10]; exact gs_new hs_146 hq8 _
              have hneq9 : q3 ≠ q7 := fun z => by have h8 := hq8; rw [← z, hpc_146] at h8; cases h8
              have hMn_w9 : RC (tm_T x) w9 κ σ := RC_sub hgs_w9.1 hM
              refine tm_dup hC dX5_join_154 rfl ?_
              refine tm_aload 4 hC dX5_join_155 rfl ?_
              refine tm_aload 2 hC dX5_join_157 rfl ?_
              refine tm_iload 11 hC dX5_join_159 rfl ?_
              refine tm_iload 11 hC dX5_join_161 rfl ?_
              refine tm_iload 1 hC dX5_join_163 rfl ?_
              refine tm_iadd hC dX5_join_165 ?_
              refine tm_iconst hC dX5_join_166 ?_
              refine tm_callIN (b := 4) (n := 1203) (rest := [.ref (q7)]) hC (c_X4_init (tm_g x) hst _ q7 (k_pa κ p) (k_bo κ b) pb (pb + (s_wa σ (4 * p + 0) + s_jt σ - len)) 1 (Or.inr rfl) hw9_q7) k_X5_182 (by rw [hB.2.2.1]; exact ⟨Nat.le_of_ble_eq_true rfl, Nat.le_of_ble_eq_true rfl⟩) rfl rfl (by simp [Value.category]) dX5_join_167 (fun v_167 w_167 hp_167 => ?_)
              obtain ⟨hwi_167, rfl⟩ := hp_167
              have hs_167 : ∀ (a : Nat) (e : va_E ⊕ List Nat), Λ a = some e → w_167 a = some e := by rw [← hwi_167]; exact gs_put hgs_w9.1 hgs_w9.2 _
              have hpc_167 : w_167 q7 = some (.inl (.inr (5, [.ref (k_pa κ p), .ref (k_bo κ b), .int (I pb), .int (I (pb + (s_wa σ (4 * p + 0) + s_jt σ - len))), .int (I 1)]))) := by rw [← hwi_167]; exact tm_u2_s
              have hpo_167 := (show w_167 q3 = _ by rw [← hwi_167]; exact tm_u2_n (fun z => hneq9 z)).trans hw9_q3
              have hRC_167 : RC (tm_T x) w_167 κ σ := RC_sub hs_167 hM
              show tm_V x (tm_H x w_167) 4 1203 170 [(11, .ref (q3)), (10, .int (I (((s_wa σ (4 * p + 0)) + (s_jt σ)) - len))), (9, .ref (k_bo κ b)), (8, .ref (k_bo κ a)), (7, .ref (k_pa κ p)), (0, .ref (k_o κ)), (1, .int (I (p))), (2, .int (I (a))), (3, .int (I (pa))), (4, .int (I (len))), (5, .int (I (b))), (6, .int (I (pb)))] [.ref (q7)]
              refine tm_astore [(12, .ref (q7)), (11, .ref (q3)), (10, .int (I (((s_wa σ (4 * p + 0)) + (s_jt σ)) - len))), (9, .ref (k_bo κ b)), (8, .ref (k_bo κ a)), (7, .ref (k_pa κ p)), (0, .ref (k_o κ)), (1, .int (I (p))), (2, .int (I (a))), (3, .int (I (pa))), (4, .int (I (len))), (5, .int (I (b))), (6, .int (I (pb)))] hC dX5_join_170 (by rw [hB.2.1]; exact Nat.le_of_ble_eq_true rfl) rfl ?_
              refine tm_aload 4 hC dX5_join_172 rfl ?_
              refine tm_aload 3 hC dX5_join_174 rfl ?_
              refine tm_acmp_ne 211 hC dX5_join_176 (by decide) (fun c_176 => ?_) (fun c_176 => ?_)
              · have hQ9 : Poss (addC σ p a pa len 1) p (s_wa σ (4 * p + 0) + s_jt σ - len) b pb := (join_poss (by omega)).mpr ⟨c_119, fun e => absurd (by rw [e]) c_176⟩
                refine tm_aload_n 6 hC dX5_join_211 rfl rfl ?_
                refine tm_less (b' := 1 + 3) (n' := 3 + 1200) ⟨by omega, by omega⟩ ?_
                refine tm_new2 hC n_X5_196 dX5_join_212 (fun q11 hq12 => ?_)
                obtain ⟨w13, hw14⟩ : ∃ z, z = tm_u2 w_167 q11 (.inr (2, [.null, .null, .null])) := ⟨_, rfl⟩
                show tm_V x (tm_H x (tm_u2 w_167 q11 (.inr (2, [.null, .null, .null])))) 3 1200 215 [(12, .ref (q7)), (11, .ref (q3)), (10, .int (I (((s_wa σ (4 * p + 0)) + (s_jt σ)) - len))), (9, .ref (k_bo κ b)), (8, .ref (k_bo κ a)), (7, .ref (k_pa κ p)), (0, .ref (k_o κ)), (1, .int (I (p))), (2, .int (I (a))), (3, .int (I (pa))), (4, .int (I (len))), (5, .int (I (b))), (6, .int (I (pb)))] [.ref (q11), .ref (k_o κ)]
                rw [← hw14]
                have hw13_q11 : w13 q11 = some (.inl (.inr (2, [.null, .null, .null]))) := by rw [hw14]; first | done | exact tm_u2_s
                have hw13_q7 := (show w13 q7 = _ by rw [hw14]; exact tm_u2_n (fun z => by subst z; rw [hpc_167] at hq12; cases hq12)).trans hpc_167
                have hw13_q3 := (show w13 q3 = _ by rw [hw14]; exact tm_u2_n (fun z => by subst z; rw [hpo_167] at hq12; cases hq12)).trans hpo_167
                have hgs_w13 : (∀ (a : Nat) (e : va_E ⊕ List Nat), Λ a = some e → w13 a = some e) ∧ Λ q11 = none := by rw [hw14]; exact gs_new hs_167 hq12 _
                have hMn_w13 : RC (tm_T x) w13 κ σ := RC_sub hgs_w13.1 hM
                refine tm_dup hC dX5_join_215 rfl ?_
                refine tm_aload 5 hC dX5_join_216 rfl ?_
                refine tm_aload 1 hC dX5_join_218 rfl ?_
                refine tm_aload 0 hC dX5_join_220 rfl ?_
                refine tm_callIN (b := 3) (n := 1200) (rest := [.ref (q11), .ref (k_o κ)]) hC (c_X1_init2 (tm_g x) hst _ q11 (k_pa κ p) q3 q7 hw13_q11) k_X5_198 (by rw [hB.2.2.1]; exact ⟨Nat.le_of_ble_eq_true rfl, Nat.le_of_ble_eq_true rfl⟩) rfl rfl (by simp [Value.category]) dX5_join_222 (fun v_222 w_222 hp_222 => ?_)
                obtain ⟨hwi_222, rfl⟩ := hp_222
                have hs_222 : ∀ (a : Nat) (e : va_E ⊕ List Nat), Λ a = some e → w_222 a = some e := by rw [← hwi_222]; exact gs_put hgs_w13.1 hgs_w13.2 _
                have hcc9 : w_222 q11 = some (.inl (.inr (2, [.ref (k_pa κ p), .ref q3, .ref q7]))) := by rw [← hwi_222]; exact tm_u2_s
                have hpz_q3 := (show w_222 q3 = _ by rw [← hwi_222]; exact tm_u2_n (fun z => absurd (hw13_q3.symm.trans (z ▸ hw13_q11)) (by intro y; cases y))).trans hw13_q3
                have hpz_q7 := (show w_222 q7 = _ by rw [← hwi_222]; exact tm_u2_n (fun z => absurd (hw13_q7.symm.trans (z ▸ hw13_q11)) (by intro y; cases y))).trans hw13_q7
                have hRC_222 : RC (tm_T x) w_222 κ σ := RC_sub hs_222 hM
                show tm_V x (tm_H x w_222) 3 1200 225 [(12, .ref (q7)), (11, .ref (q3)), (10, .int (I (((s_wa σ (4 * p + 0)) + (s_jt σ)) - len))), (9, .ref (k_bo κ b)), (8, .ref (k_bo κ a)), (7, .ref (k_pa κ p)), (0, .ref (k_o κ)), (1, .int (I (p))), (2, .int (I (a))), (3, .int (I (pa))), (4, .int (I (len))), (5, .int (I (b))), (6, .int (I (pb)))] [.ref (q11), .ref (k_o κ)]
                refine tm_less (b' := 3 + 0) (n' := 1200 + 0) ⟨by omega, by omega⟩ ?_
                refine tm_callV (b := 0) (n := 0) (rest := []) hC (c_T_take2 (tm_g x) hst _ κ σ hRC_222 hw p hpp_2 a hbb_9 b hbb_17 pa len pb (s_wa σ (4 * p + 0) + s_jt σ - len) (by omega) (by omega) (by omega) c_101 hQ9 (by omega) hG q11 q3 q7 hcc9 hpz_q3 hpz_q7 (fun k hk z => by have h8 := rc_K hM k hk; rw [z, hgs_w5.2] at h8; cases h8) (fun k hk z => by have h8 := rc_K hM k hk; rw [z, hgs_w9.2] at h8; cases h8) (fun z => hneq9 z)) k_X5_201 (by rw [hB.2.2.1]; exact ⟨Nat.le_of_ble_eq_true rfl, Nat.le_of_ble_eq_true rfl⟩) rfl (tm_rec2 hC (rc_o hRC_222) rfl) rfl (by decide) dX5_join_225 (fun v_225 w_225 hp_225 => ?_)
                obtain ⟨⟨i9, i8, hRC9, hg9⟩, rfl⟩ := hp_225
                have hpx9 : w_225 (k_pa κ p) = some (.inl (.inr (4, fP (less (addC (addC σ p a pa len 1) p b pb (s_wa σ (4 * p + 0) + s_jt σ - len) 1) p) p))) := by have h8 := rc_P hRC9 p hpp_2; exact h8
                show tm_V x (tm_H x w_225) 0 0 228 [(12, .ref (q7)), (11, .ref (q3)), (10, .int (I (((s_wa σ (4 * p + 0)) + (s_jt σ)) - len))), (9, .ref (k_bo κ b)), (8, .ref (k_bo κ a)), (7, .ref (k_pa κ p)), (0, .ref (k_o κ)), (1, .int (I (p))), (2, .int (I (a))), (3, .int (I (pa))), (4, .int (I (len))), (5, .int (I (b))), (6, .int (I (pb)))] []
                refine tm_aload 5 hC dX5_join_228 rfl ?_
                refine tm_getf2 hC f_X5_159 hpx9 rfl dX5_join_230 ?_
                exact tm_iretX hC hR dX5_join_233 (⟨_, _, _, hRC9, hg9, rfl, rfl, Or.inr (Or.inr (Or.inr ⟨by rw [okJ_i]; omega, ⟨by omega, show 50 ≤ (s_wa σ (4 * p + 0) + s_jt σ - len) by omega⟩, by omega, by omega, c_101, hQ9, rfl, rfl, by show tm_ui _ _ _ _ = _; rw [tm_ui_s]; rfl⟩))⟩)
              · refine tm_aload 1 hC dX5_join_179 rfl ?_
                refine tm_aload 0 hC dX5_join_181 rfl ?_
                refine tm_getf2 hC f_X5_185 hpc_167 rfl dX5_join_183 ?_
                refine tm_aload 0 hC dX5_join_186 rfl ?_
                refine tm_getf2 hC f_X5_188 hpc_167 rfl dX5_join_188 ?_
                refine tm_aload_n 6 hC dX5_join_191 rfl rfl ?_
                have hx15 := rc_o hRC_167
                refine tm_getf2 hC f_X5_33 hx15 rfl dX5_join_192 ?_
                refine tm_callVN (b := 4) (n := 1203) (rest := []) hC (c_K_isClearOf (tm_g x) hst _ _ _ _ _ _ _ hpo_167 pb (pb + (s_wa σ (4 * p + 0) + s_jt σ - len)) (s_sw σ) (by omega)) k_X5_191 (by rw [hB.2.2.1]; exact ⟨Nat.le_of_ble_eq_true rfl, Nat.le_of_ble_eq_true rfl⟩) rfl (tm_rec2 hC hpo_167 rfl) rfl (by decide) dX5_join_195 (fun v_195 w_195 hp_195 => ?_)
                obtain ⟨rfl, rfl⟩ := hp_195
                show tm_V x (tm_H x w_167) 4 1203 198 [(12, .ref (q7)), (11, .ref (q3)), (10, .int (I (((s_wa σ (4 * p + 0)) + (s_jt σ)) - len))), (9, .ref (k_bo κ b)), (8, .ref (k_bo κ a)), (7, .ref (k_pa κ p)), (0, .ref (k_o κ)), (1, .int (I (p))), (2, .int (I (a))), (3, .int (I (pa))), (4, .int (I (len))), (5, .int (I (b))), (6, .int (I (pb)))] [.int (I (bi (pb + (s_wa σ (4 * p + 0) + s_jt σ - len) + s_sw σ ≤ pa ∨ pa + len + s_sw σ ≤ pb)))]
                refine tm_ifb_ne 211 hC dX5_join_198 (by decide) (fun c_198 => ?_) (fun c_198 => ?_)
                · have hQ9 : Poss (addC σ p a pa len 1) p (s_wa σ (4 * p + 0) + s_jt σ - len) b pb := (join_poss (by omega)).mpr ⟨c_119, fun e => c_198⟩
                  refine tm_aload_n 6 hC dX5_join_211 rfl rfl ?_
                  refine tm_less (b' := 1 + 3) (n' := 3 + 1200) ⟨by omega, by omega⟩ ?_
                  refine tm_new2 hC n_X5_196 dX5_join_212 (fun q16 hq17 => ?_)
                  obtain ⟨w18, hw19⟩ : ∃ z, z = tm_u2 w_167 q16 (.inr (2, [.null, .null, .null])) := ⟨_, rfl⟩
                  show tm_V x (tm_H x (tm_u2 w_167 q16 (.inr (2, [.null, .null, .null])))) 3 1200 215 [(12, .ref (q7)), (11, .ref (q3)), (10, .int (I (((s_wa σ (4 * p + 0)) + (s_jt σ)) - len))), (9, .ref (k_bo κ b)), (8, .ref (k_bo κ a)), (7, .ref (k_pa κ p)), (0, .ref (k_o κ)), (1, .int (I (p))), (2, .int (I (a))), (3, .int (I (pa))), (4, .int (I (len))), (5, .int (I (b))), (6, .int (I (pb)))] [.ref (q16), .ref (k_o κ)]
                  rw [← hw19]
                  have hw18_q16 : w18 q16 = some (.inl (.inr (2, [.null, .null, .null]))) := by rw [hw19]; first | done | exact tm_u2_s
                  have hw18_q7 := (show w18 q7 = _ by rw [hw19]; exact tm_u2_n (fun z => by subst z; rw [hpc_167] at hq17; cases hq17)).trans hpc_167
                  have hw18_q3 := (show w18 q3 = _ by rw [hw19]; exact tm_u2_n (fun z => by subst z; rw [hpo_167] at hq17; cases hq17)).trans hpo_167
                  have hw18_k_o_κ := (show w18 (k_o κ) = _ by rw [hw19]; exact tm_u2_n (fun z => by subst z; rw [hx15] at hq17; cases hq17)).trans hx15
                  have hgs_w18 : (∀ (a : Nat) (e : va_E ⊕ List Nat), Λ a = some e → w18 a = some e) ∧ Λ q16 = none := by rw [hw19]; exact gs_new hs_167 hq17 _
                  have hMn_w18 : RC (tm_T x) w18 κ σ := RC_sub hgs_w18.1 hM
                  refine tm_dup hC dX5_join_215 rfl ?_
                  refine tm_aload 5 hC dX5_join_216 rfl ?_
                  refine tm_aload 1 hC dX5_join_218 rfl ?_
                  refine tm_aload 0 hC dX5_join_220 rfl ?_
                  refine tm_callIN (b := 3) (n := 1200) (rest := [.ref (q16), .ref (k_o κ)]) hC (c_X1_init2 (tm_g x) hst _ q16 (k_pa κ p) q3 q7 hw18_q16) k_X5_198 (by rw [hB.2.2.1]; exact ⟨Nat.le_of_ble_eq_true rfl, Nat.le_of_ble_eq_true rfl⟩) rfl rfl (by simp [Value.category]) dX5_join_222 (fun v_222 w_222 hp_222 => ?_)
                  obtain ⟨hwi_222, rfl⟩ := hp_222
                  have hs_222 : ∀ (a : Nat) (e : va_E ⊕ List Nat), Λ a = some e → w_222 a = some e := by rw [← hwi_222]; exact gs_put hgs_w18.1 hgs_w18.2 _
                  have hcc9 : w_222 q16 = some (.inl (.inr (2, [.ref (k_pa κ p), .ref q3, .ref q7]))) := by rw [← hwi_222]; exact tm_u2_s
                  have hpz_q3 := (show w_222 q3 = _ by rw [← hwi_222]; exact tm_u2_n (fun z => absurd (hw18_q3.symm.trans (z ▸ hw18_q16)) (by intro y; cases y))).trans hw18_q3
                  have hpz_q7 := (show w_222 q7 = _ by rw [← hwi_222]; exact tm_u2_n (fun z => absurd (hw18_q7.symm.trans (z ▸ hw18_q16)) (by intro y; cases y))).trans hw18_q7
                  have hRC_222 : RC (tm_T x) w_222 κ σ := RC_sub hs_222 hM
                  show tm_V x (tm_H x w_222) 3 1200 225 [(12, .ref (q7)), (11, .ref (q3)), (10, .int (I (((s_wa σ (4 * p + 0)) + (s_jt σ)) - len))), (9, .ref (k_bo κ b)), (8, .ref (k_bo κ a)), (7, .ref (k_pa κ p)), (0, .ref (k_o κ)), (1, .int (I (p))), (2, .int (I (a))), (3, .int (I (pa))), (4, .int (I (len))), (5, .int (I (b))), (6, .int (I (pb)))] [.ref (q16), .ref (k_o κ)]
                  refine tm_less (b' := 3 + 0) (n' := 1200 + 0) ⟨by omega, by omega⟩ ?_
                  refine tm_callV (b := 0) (n := 0) (rest := []) hC (c_T_take2 (tm_g x) hst _ κ σ hRC_222 hw p hpp_2 a hbb_9 b hbb_17 pa len pb (s_wa σ (4 * p + 0) + s_jt σ - len) (by omega) (by omega) (by omega) c_101 hQ9 (by omega) hG q16 q3 q7 hcc9 hpz_q3 hpz_q7 (fun k hk z => by have h8 := rc_K hM k hk; rw [z, hgs_w5.2] at h8; cases h8) (fun k hk z => by have h8 := rc_K hM k hk; rw [z, hgs_w9.2] at h8; cases h8) (fun z => hneq9 z)) k_X5_201 (by rw [hB.2.2.1]; exact ⟨Nat.le_of_ble_eq_true rfl, Nat.le_of_ble_eq_true rfl⟩) rfl (tm_rec2 hC (rc_o hRC_222) rfl) rfl (by decide) dX5_join_225 (fun v_225 w_225 hp_225 => ?_)
                  obtain ⟨⟨i9, i8, hRC9, hg9⟩, rfl⟩ := hp_225
                  have hpx9 : w_225 (k_pa κ p) = some (.inl (.inr (4, fP (less (addC (addC σ p a pa len 1) p b pb (s_wa σ (4 * p + 0) + s_jt σ - len) 1) p) p))) := by have h8 := rc_P hRC9 p hpp_2; exact h8
                  show tm_V x (tm_H x w_225) 0 0 228 [(12, .ref (q7)), (11, .ref (q3)), (10, .int (I (((s_wa σ (4 * p + 0)) + (s_jt σ)) - len))), (9, .ref (k_bo κ b)), (8, .ref (k_bo κ a)), (7, .ref (k_pa κ p)), (0, .ref (k_o κ)), (1, .int (I (p))), (2, .int (I (a))), (3, .int (I (pa))), (4, .int (I (len))), (5, .int (I (b))), (6, .int (I (pb)))] []
                  refine tm_aload 5 hC dX5_join_228 rfl ?_
                  refine tm_getf2 hC f_X5_159 hpx9 rfl dX5_join_230 ?_
                  exact tm_iretX hC hR dX5_join_233 (⟨_, _, _, hRC9, hg9, rfl, rfl, Or.inr (Or.inr (Or.inr ⟨by rw [okJ_i]; omega, ⟨by omega, show 50 ≤ (s_wa σ (4 * p + 0) + s_jt σ - len) by omega⟩, by omega, by omega, c_101, hQ9, rfl, rfl, by show tm_ui _ _ _ _ = _; rw [tm_ui_s]; rfl⟩))⟩)
                · refine tm_less (b' := 1 + 0) (n' := 6 + 0) ⟨by omega, by omega⟩ ?_
                  exact tm_throw hC hR hnt tm_kp2 th_ise sr_194 (by rw [hB.2.2.1]; exact ⟨Nat.le_of_ble_eq_true rfl, Nat.le_of_ble_eq_true rfl⟩) (by decide) dX5_join_201 dX5_join_204 dX5_join_205 dX5_join_207 dX5_join_210 (⟨hRC_167, Or.inr (Or.inr ⟨rfl, Or.inr (Or.inr (Or.inl ⟨by rw [okJ_i]; omega, ⟨by omega, show 50 ≤ (s_wa σ (4 * p + 0) + s_jt σ - len) by omega⟩, Or.inr (Or.inr (Or.inr (fun z => c_198 (((join_poss (by omega)).mp z).2 (((rc_ap hM).2.2.1 a b hbb_9 hbb_17).2.2.2 c_176))))), rfl, Eqv_r σ⟩))⟩)⟩)
            · refine tm_less (b' := 1 + 0) (n' := 6 + 0) ⟨by omega, by omega⟩ ?_
              exact tm_throw hC hR hnt tm_kp2 th_ise sr_178 (by rw [hB.2.2.1]; exact ⟨Nat.le_of_ble_eq_true rfl, Nat.le_of_ble_eq_true rfl⟩) (by decide) dX5_join_122 dX5_join_125 dX5_join_126 dX5_join_128 dX5_join_131 (⟨hM, Or.inr (Or.inr ⟨rfl, Or.inr (Or.inr (Or.inl ⟨by rw [okJ_i]; omega, ⟨by omega, show 50 ≤ (s_wa σ (4 * p + 0) + s_jt σ - len) by omega⟩, Or.inr (Or.inr (Or.inr (fun z => c_119 ((join_poss (by omega)).mp z).1))), rfl, Eqv_r σ⟩))⟩)⟩)
        · refine tm_less (b' := 1 + 0) (n' := 6 + 0) ⟨by omega, by omega⟩ ?_
          exact tm_throw hC hR hnt tm_kp2 th_ise sr_176 (by rw [hB.2.2.1]; exact ⟨Nat.le_of_ble_eq_true rfl, Nat.le_of_ble_eq_true rfl⟩) (by decide) dX5_join_77 dX5_join_80 dX5_join_81 dX5_join_83 dX5_join_86 (⟨hM, Or.inr (Or.inr ⟨rfl, Or.inr (Or.inr (Or.inl ⟨by rw [okJ_i]; omega, ⟨by omega, show 50 ≤ (s_wa σ (4 * p + 0) + s_jt σ - len) by omega⟩, Or.inr (Or.inl (by omega)), rfl, Eqv_r σ⟩))⟩)⟩)
    · refine tm_less (b' := 1 + 0) (n' := 6 + 0) ⟨by omega, by omega⟩ ?_
      exact tm_throw hC hR hnt tm_kp2 th_iae sr_170 (by rw [hB.2.2.1]; exact ⟨Nat.le_of_ble_eq_true rfl, Nat.le_of_ble_eq_true rfl⟩) (by decide) dX5_join_51 dX5_join_54 dX5_join_55 dX5_join_57 dX5_join_60 (⟨hM, Or.inr (Or.inl ⟨rfl, Or.inr (Or.inl ⟨by rw [okJ_i]; omega, fun z => by have z1 := z.1; have z2 : 50 ≤ (s_wa σ (4 * p + 0) + s_jt σ - len) := z.2; omega, rfl, rfl⟩)⟩)⟩)
