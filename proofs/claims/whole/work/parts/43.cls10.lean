set_option maxHeartbeats 4000000 in
set_option maxRecDepth 100000 in
theorem c_T_cutS (γ : tmG) (hst : γ.1.stackTraces = false) (Λ : tmL) (κ : KP) (σ : ST) (hM : RC γ.2.2.1 Λ κ σ) (hw : WF0 σ) (p : Int) (hp : 0 ≤ p ∧ p < s_np σ) (b : Int) (hb : 0 ≤ b ∧ b < s_nb σ) (pl : Int) (hm : s_nm σ < 216) (hP : Poss σ p (s_wa σ (4 * p + 0)) b pl) (hlf : 1 ≤ s_wa σ (4 * p + 3)) (hG : grp (s_aj σ) (s_cu σ) (k_cs κ) 0 (s_nm σ)) : tm_Con γ (tm_h2 γ.2.1 γ.2.2.1 γ.2.2.2.1) M_X5_cutSingle 10 4 808 [.ref (k_o κ), .ref (k_pa κ p), .ref (k_bo κ b), .int (I (pl))] Λ (fun v w' => (∃ κ9, RC γ.2.2.1 w' κ9 (cutS σ p b pl) ∧ grp (s_aj (cutS σ p b pl)) (s_cu (cutS σ p b pl)) (k_cs κ9) 0 (s_nm (cutS σ p b pl)) ∧ k_o κ9 = k_o κ ∧ (∀ c, k_pa κ9 c = k_pa κ c) ∧ (∀ c, k_bo κ9 c = k_bo κ c) ∧ k_or κ9 = k_or κ) ∧ v = none) := by
  refine tm_con hst (by decide) (Nat.le_of_ble_eq_true rfl) (fun x hB hR => ?_)
  have hg := hB.1
  subst hg
  have hC : tm_C x cX5_cutSingle RX5 (none) := hB.2.2.2.1
  have hn := wf_n hw
  have hp9 := wf_p hw p hp
  have hb9 := wf_b hw b hb
  have hp0 := hP.1
  have hp1 := hP.2.1
  show tm_V x (tm_H x Λ) 4 808 0 [(0, .ref (k_o κ)), (1, .ref (k_pa κ p)), (2, .ref (k_bo κ b)), (3, .int (I (pl)))] []
  refine tm_aload_n 0 hC dX5_cutSingle_0 rfl rfl ?_
  refine tm_less (b' := 1 + 3) (n' := 3 + 805) ⟨by omega, by omega⟩ ?_
  refine tm_new2 hC n_X5_196 dX5_cutSingle_1 (fun q1 hq2 => ?_)
  obtain ⟨w3, hw4⟩ : ∃ z, z = tm_u2 Λ q1 (.inr (2, [.null, .null, .null])) := ⟨_, rfl⟩
  show tm_V x (tm_H x (tm_u2 Λ q1 (.inr (2, [.null, .null, .null])))) 3 805 4 [(0, .ref (k_o κ)), (1, .ref (k_pa κ p)), (2, .ref (k_bo κ b)), (3, .int (I (pl)))] [.ref (q1), .ref (k_o κ)]
  rw [← hw4]
  have hw3_q1 : w3 q1 = some (.inl (.inr (2, [.null, .null, .null]))) := by rw [hw4]; first | done | exact tm_u2_s
  have hMn_w3 : RC (tm_T x) w3 κ σ := by rw [hw4]; exact RC_new hM hq2 _
  refine tm_dup hC dX5_cutSingle_4 rfl ?_
  refine tm_aload_n 1 hC dX5_cutSingle_5 rfl rfl ?_
  refine tm_less (b' := 1 + 2) (n' := 5 + 800) ⟨by omega, by omega⟩ ?_
  refine tm_new2 hC n_X5_180 dX5_cutSingle_6 (fun q5 hq6 => ?_)
  obtain ⟨w7, hw8⟩ : ∃ z, z = tm_u2 w3 q5 (.inr (5, [.null, .null, .int (I (0)), .int (I (0)), .int (I (0))])) := ⟨_, rfl⟩
  show tm_V x (tm_H x (tm_u2 w3 q5 (.inr (5, [.null, .null, .int (I (0)), .int (I (0)), .int (I (0))])))) 2 800 9 [(0, .ref (k_o κ)), (1, .ref (k_pa κ p)), (2, .ref (k_bo κ b)), (3, .int (I (pl)))] [.ref (q5), .ref (k_pa κ p), .ref (q1), .ref (q1), .ref (k_o κ)]
  rw [← hw8]
  have hw7_q5 : w7 q5 = some (.inl (.inr (5, [.null, .null, .int (I (0)), .int (I (0)), .int (I (0))]))) := by rw [hw8]; first | done | exact tm_u2_s
  have hw7_q1 := (show w7 q1 = _ by rw [hw8]; exact tm_u2_n (fun z => by subst z; rw [hw3_q1] at hq6; cases hq6)).trans hw3_q1
  have hMn_w7 : RC (tm_T x) w7 κ σ := by rw [hw8]; exact RC_new hMn_w3 hq6 _
  refine tm_dup hC dX5_cutSingle_9 rfl ?_
  refine tm_aload_n 1 hC dX5_cutSingle_10 rfl rfl ?_
  refine tm_aload_n 2 hC dX5_cutSingle_11 rfl rfl ?_
  refine tm_iload_n 3 hC dX5_cutSingle_12 rfl rfl ?_
  refine tm_iload_n 3 hC dX5_cutSingle_13 rfl rfl ?_
  refine tm_aload_n 1 hC dX5_cutSingle_14 rfl rfl ?_
  have hx9 := rc_P hMn_w7 p (by omega)
  refine tm_getf2 hC f_X5_150 hx9 rfl dX5_cutSingle_15 ?_
  refine tm_iadd hC dX5_cutSingle_18 ?_
  refine tm_iconst hC dX5_cutSingle_19 ?_
  refine tm_callIN (b := 2) (n := 800) (rest := [.ref (q5), .ref (k_pa κ p), .ref (q1), .ref (q1), .ref (k_o κ)]) hC (c_X4_init (tm_g x) hst _ q5 (k_pa κ p) (k_bo κ b) pl (pl + s_wa σ (4 * p + 0)) 0 (Or.inl rfl) hw7_q5) k_X5_182 (by rw [hB.2.2.1]; exact ⟨Nat.le_of_ble_eq_true rfl, Nat.le_of_ble_eq_true rfl⟩) rfl rfl (by simp [Value.category]) dX5_cutSingle_20 (fun v_20 w_20 hp_20 => ?_)
  obtain ⟨hwi4, rfl⟩ := hp_20
  have hne9 : q1 ≠ q5 := fun z => by rw [z, hw7_q5] at hw7_q1; cases hw7_q1
  have hpc9 : w_20 q5 = some (.inl (.inr (5, [.ref (k_pa κ p), .ref (k_bo κ b), .int (I pl), .int (I (pl + s_wa σ (4 * p + 0))), .int (I 0)]))) := by rw [← hwi4]; exact tm_u2_s
  have hcb9 : w_20 q1 = some (.inl (.inr (2, [.null, .null, .null]))) := by rw [← hwi4, tm_u2_n hne9]; exact hw7_q1
  show tm_V x (tm_H x w_20) 2 800 23 [(0, .ref (k_o κ)), (1, .ref (k_pa κ p)), (2, .ref (k_bo κ b)), (3, .int (I (pl)))] [.ref (q5), .ref (k_pa κ p), .ref (q1), .ref (q1), .ref (k_o κ)]
  refine tm_null hC dX5_cutSingle_23 ?_
  refine tm_callIN (b := 2) (n := 800) (rest := [.ref (q1), .ref (k_o κ)]) hC (c_X1_init (tm_g x) hst _ q1 (k_pa κ p) q5 hcb9) k_X5_198 (by rw [hB.2.2.1]; exact ⟨Nat.le_of_ble_eq_true rfl, Nat.le_of_ble_eq_true rfl⟩) rfl rfl (by simp [Value.category]) dX5_cutSingle_24 (fun v_24 w_24 hp_24 => ?_)
  obtain ⟨hwi1, rfl⟩ := hp_24
  have hcc9 : w_24 q1 = some (.inl (.inr (2, [.ref (k_pa κ p), .ref q5, .null]))) := by rw [← hwi1]; exact tm_u2_s
  have hpd9 : w_24 q5 = some (.inl (.inr (5, [.ref (k_pa κ p), .ref (k_bo κ b), .int (I pl), .int (I (pl + s_wa σ (4 * p + 0))), .int (I 0)]))) := by rw [← hwi1, tm_u2_n (fun z => hne9 z.symm)]; exact hpc9
  have hz1 : ∀ (a : Nat) (e : va_E ⊕ List Nat), Λ a = some e → a ≠ q1 := fun a e ha z => by rw [z, hq2] at ha; cases ha
  have hz2 : ∀ (a : Nat) (e : va_E ⊕ List Nat), Λ a = some e → a ≠ q5 := fun a e ha z => by (have h8 := hq6); rw [hw4, tm_u2_n (fun u => hne9 u.symm)] at h8; rw [z, h8] at ha; cases ha
  have hRCn : RC (tm_T x) w_24 κ σ := RC_sub (fun a e ha => by rw [← hwi1, tm_u2_n (hz1 a e ha), ← hwi4, tm_u2_n (hz2 a e ha), hw8, tm_u2_n (hz2 a e ha), hw4, tm_u2_n (hz1 a e ha)]; exact ha) hM
  have hnq9 : ∀ k, 0 ≤ k ∧ k < s_nm σ → k_pc κ k ≠ q5 := fun k hk => hz2 _ _ (rc_K hM k hk)
  show tm_V x (tm_H x w_24) 2 800 27 [(0, .ref (k_o κ)), (1, .ref (k_pa κ p)), (2, .ref (k_bo κ b)), (3, .int (I (pl)))] [.ref (q1), .ref (k_o κ)]
  refine tm_less (b' := 2 + 0) (n' := 800 + 0) ⟨by omega, by omega⟩ ?_
  refine tm_callV (b := 0) (n := 0) (rest := []) hC (c_T_take1 (tm_g x) hst _ κ σ hRCn hw p hp b hb pl (s_wa σ (4 * p + 0)) (by omega) hm hP hlf hG q1 q5 hcc9 hpd9 hnq9) k_X5_201 (by rw [hB.2.2.1]; exact ⟨Nat.le_of_ble_eq_true rfl, Nat.le_of_ble_eq_true rfl⟩) rfl (tm_rec2 hC (rc_o hRCn) rfl) rfl (by decide) dX5_cutSingle_27 (fun v_27 w_27 hp_27 => ?_)
  obtain ⟨⟨i9, hRC9, hg9⟩, rfl⟩ := hp_27
  show tm_V x (tm_H x w_27) 0 0 30 [(0, .ref (k_o κ)), (1, .ref (k_pa κ p)), (2, .ref (k_bo κ b)), (3, .int (I (pl)))] []
  exact tm_vret hC hR dX5_cutSingle_30 (⟨⟨_, hRC9, hg9, rfl, fun c => rfl, fun c => rfl, rfl⟩, rfl⟩)
