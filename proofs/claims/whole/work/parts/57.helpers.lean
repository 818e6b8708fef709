theorem u2_self {Λ : tmL} {a : Nat} {e : va_E} (h : Λ a = some (.inl e)) : tm_u2 Λ a e = Λ := by
  funext b
  by_cases hb : b = a
  · subst hb; rw [tm_u2_s, h]
  · rw [tm_u2_n hb]
theorem nc_iae_iob {U : State} (h : tm_Nc U) : va_Nc "java/lang/IllegalArgumentException" "java/lang/IndexOutOfBoundsException" U := h _ List.mem_cons_self
theorem nc_ise_iob {U : State} (h : tm_Nc U) : va_Nc "java/lang/IllegalStateException" "java/lang/IndexOutOfBoundsException" U := h _ (List.mem_cons_of_mem _ List.mem_cons_self)
theorem nc_ise_iae {U : State} (h : tm_Nc U) : va_Nc "java/lang/IllegalStateException" "java/lang/IllegalArgumentException" U := h _ (List.mem_cons_of_mem _ (List.mem_cons_of_mem _ List.mem_cons_self))
theorem gp_saw {κ : KP} {σ σ' : ST} {w r : Int} (h : Sp_setSaw σ w 0 σ' r) (hG : grp (s_aj σ) (s_cu σ) (k_cs κ) 0 (s_nm σ)) : grp (s_aj σ') (s_cu σ') (k_cs κ) 0 (s_nm σ') := by
  rcases h with ⟨-, h, -⟩ | ⟨-, -, h, -⟩ | ⟨-, -, -, h, -⟩
  · omega
  · omega
  · rw [h]; exact hG
theorem gp_jnt {κ : KP} {σ σ' : ST} {w r : Int} (h : Sp_setJoint σ w 0 σ' r) (hG : grp (s_aj σ) (s_cu σ) (k_cs κ) 0 (s_nm σ)) : grp (s_aj σ') (s_cu σ') (k_cs κ) 0 (s_nm σ') := by
  rcases h with ⟨-, h, -⟩ | ⟨-, -, h, -⟩
  · omega
  · rw [h]; exact hG
set_option maxHeartbeats 4000000 in
set_option maxRecDepth 100000 in
theorem h_addBoard (γ : tmG) (hst : γ.1.stackTraces = false) (Λ Λf : tmL) (hd : dj Λ Λf) (o1 : okL Λ) (o2 : okL Λf) (κ : KP) (σ : ST) (hM : RC γ.2.2.1 Λ κ σ) (hw : WF0 σ) (hW : WF σ) (hG : grp (s_aj σ) (s_cu σ) (k_cs κ) 0 (s_nm σ)) (o : Nat) (f0 : Nat → Int64) (ho : Λf o = some (.inl (tm_al γ.2.2.1 1 f0))) (l w g : Int) (hr : (-2147483648 ≤ l ∧ l ≤ 2147483647) ∧ (-2147483648 ≤ w ∧ w ≤ 2147483647) ∧ (-2147483648 ≤ g ∧ g ≤ 2147483647)) : tm_ConH γ (tm_h2 γ.2.1 γ.2.2.1 γ.2.2.2.1) M_L_addBoard [(0, 12, 15, 13), (0, 12, 19, 15)] 9 4 411 [.ref (k_o κ), .int (I (l)), .int (I (w)), .int (I (g)), .ref (o)] (un Λ Λf) (fun v w' => ∃ (Λ' : tmL) (κ' : KP) (σ' : ST) (k r : Int) (g' : Nat → Int64), dj Λ' (tm_u2 Λf o (tm_al γ.2.2.1 1 g')) ∧ okL Λ' ∧ un Λ' (tm_u2 Λf o (tm_al γ.2.2.1 1 g')) = w' ∧ RC γ.2.2.1 Λ' κ' σ' ∧ grp (s_aj σ') (s_cu σ') (k_cs κ') 0 (s_nm σ') ∧ k_o κ' = k_o κ ∧ v = some (.int (I k)) ∧ (0 ≤ k ∧ k ≤ 3) ∧ (Sp_addBoard σ l w g k σ' r) ∧ (k = 0 → g' 0 = (I r).toInt64)) := by
  refine tm_conH hst (by decide) (Nat.le_of_ble_eq_true rfl) (fun x hB hR htab hNc => ?_)
  have hg := hB.1
  subst hg
  have hC : tm_C x cL_addBoard RL (some FieldType.int) := hB.2.2.2.1
  show tm_V x (tm_H x (un Λ Λf)) 4 411 0 [(0, .ref (k_o κ)), (1, .int (I (l))), (2, .int (I (w))), (3, .int (I (g))), (4, .ref (o))] []
  refine tm_aload 4 hC dL_addBoard_0 rfl ?_
  refine tm_iconst hC dL_addBoard_2 ?_
  refine tm_aload_n 0 hC dL_addBoard_3 rfl rfl ?_
  refine tm_iload_n 1 hC dL_addBoard_4 rfl rfl ?_
  refine tm_iload_n 2 hC dL_addBoard_5 rfl rfl ?_
  refine tm_iload_n 3 hC dL_addBoard_6 rfl rfl ?_
  have hrec : ∀ H, tm_h2 (tm_D x) (tm_T x) (tm_e0 x) (tm_Fz x) (un Λ Λf) H → _ := tm_rec2 hC (un_1 (rc_o hM)) rfl
  refine tm_less (b' := 4 + 0) (n' := 411 + 0) ⟨by omega, by omega⟩ ?_
  refine tm_callVC (b := 0) (n := 0) (rest := [.int (I (0)), .ref (o)]) hC (fr_conX hd o1 o2 (c_T_addBoard (tm_g x) hst Λ κ σ hM hw l w g hr hW hG)) k_L_7 (by rw [hB.2.2.1]; exact ⟨Nat.le_of_ble_eq_true rfl, Nat.le_of_ble_eq_true rfl⟩) rfl hrec rfl (by simp [Value.category]) dL_addBoard_7 (fun E9 w9 q9 z9 => ?_) (fun v9 w9 z9 => ?_)
  · obtain ⟨Λ9, ⟨rfl, zx⟩, hd9, ok9, rfl⟩ := z9
    rcases zx with ⟨rfl, zs⟩ | ⟨rfl, zs⟩
    · refine tm_catch [] ⟨0, 12, 15, 13⟩ [⟨0, 12, 19, 15⟩] hC (htab.trans rfl) (fun z hz => absurd hz List.not_mem_nil) rfl (by decide) cl_L_13 ct_iae ?_
      show tm_V x (tm_H x (un Λ Λf)) 0 0 15 [(0, .ref (k_o κ)), (1, .int (I (l))), (2, .int (I (w))), (3, .int (I (g))), (4, .ref (o))] [.ref (q9)]
      refine tm_astore [(5, .ref (q9)), (0, .ref (k_o κ)), (1, .int (I (l))), (2, .int (I (w))), (3, .int (I (g))), (4, .ref (o))] hC dL_addBoard_15 (by rw [hB.2.1]; exact Nat.le_of_ble_eq_true rfl) rfl ?_
      refine tm_iconst hC dL_addBoard_17 ?_
      exact tm_iret hC hR dL_addBoard_18 (⟨_, κ, σ, 1, 0, f0, by rw [u2_self ho]; exact hd9, ok9, by rw [u2_self ho], hM, hG, rfl, rfl, by omega, zs, fun z => by omega⟩)
    · refine tm_catch [⟨0, 12, 15, 13⟩] ⟨0, 12, 19, 15⟩ [] hC (htab.trans rfl) (List.forall_mem_cons.mpr ⟨Or.inr ⟨by decide, _, cl_L_13, nc_ise_iae hNc⟩, fun z hz => absurd hz List.not_mem_nil⟩) rfl (by decide) cl_L_15 ct_ise ?_
      show tm_V x (tm_H x (un Λ Λf)) 0 0 19 [(0, .ref (k_o κ)), (1, .int (I (l))), (2, .int (I (w))), (3, .int (I (g))), (4, .ref (o))] [.ref (q9)]
      refine tm_astore [(5, .ref (q9)), (0, .ref (k_o κ)), (1, .int (I (l))), (2, .int (I (w))), (3, .int (I (g))), (4, .ref (o))] hC dL_addBoard_19 (by rw [hB.2.1]; exact Nat.le_of_ble_eq_true rfl) rfl ?_
      refine tm_iconst hC dL_addBoard_21 ?_
      exact tm_iret hC hR dL_addBoard_22 (⟨_, κ, σ, 2, 0, f0, by rw [u2_self ho]; exact hd9, ok9, by rw [u2_self ho], hM, hG, rfl, rfl, by omega, zs, fun z => by omega⟩)
  · obtain ⟨Λ9, ⟨κ9, σ9, r9, hRC9, hG9, hko9, rfl, hS9⟩, hd9, ok9, rfl⟩ := z9
    have hon9 : Λ9 o = none := by rcases hd9 o with h8 | h8; exact h8; rw [ho] at h8; cases h8
    have hou9 : (un Λ9 Λf) o = some (.inl (tm_al (tm_T x) 1 f0)) := un_2 hd9 ho
    show tm_V x (tm_H x (un Λ9 Λf)) 0 0 10 [(0, .ref (k_o κ)), (1, .int (I (l))), (2, .int (I (w))), (3, .int (I (g))), (4, .ref (o))] [.int (I (r9)), .int (I (0)), .ref (o)]
    refine tm_i2l hC dL_addBoard_10 ?_
    refine tm_last2 hC hou9 (by omega) dL_addBoard_11 ?_
    obtain ⟨w1, hw2⟩ : ∃ z, z = tm_u2 (un Λ9 Λf) o (tm_al (tm_T x) 1 (vp_updL f0 (0 : Int).toNat ((I (r9)).toInt64))) := ⟨_, rfl⟩
    show tm_V x (tm_H x (tm_u2 (un Λ9 Λf) o (tm_al (tm_T x) 1 (vp_updL f0 (0 : Int).toNat ((I (r9)).toInt64))))) 0 0 12 [(0, .ref (k_o κ)), (1, .int (I (l))), (2, .int (I (w))), (3, .int (I (g))), (4, .ref (o))] []
    rw [← hw2]
    have hw1_o : w1 o = some (.inl (tm_al (tm_T x) 1 (vp_updL f0 (0 : Int).toNat ((I (r9)).toInt64)))) := by rw [hw2]; first | done | exact tm_u2_s
    refine tm_goto 23 hC dL_addBoard_12 (by decide) ?_
    refine tm_iconst hC dL_addBoard_23 ?_
    exact tm_iret hC hR dL_addBoard_24 (⟨_, κ9, σ9, 0, r9, (vp_updL f0 (0 : Int).toNat ((I (r9)).toInt64)), dj_u2 hd9 hon9, ok9, by rw [hw2, un_u2 hon9], hRC9, hG9, hko9, rfl, by omega, hS9, fun _ => rfl⟩)

set_option maxHeartbeats 4000000 in
set_option maxRecDepth 100000 in
theorem h_addDefect (γ : tmG) (hst : γ.1.stackTraces = false) (Λ Λf : tmL) (hd : dj Λ Λf) (o1 : okL Λ) (o2 : okL Λf) (κ : KP) (σ : ST) (hM : RC γ.2.2.1 Λ κ σ) (hw : WF0 σ) (hW : WF σ) (hG : grp (s_aj σ) (s_cu σ) (k_cs κ) 0 (s_nm σ)) (o : Nat) (f0 : Nat → Int64) (ho : Λf o = some (.inl (tm_al γ.2.2.1 1 f0))) (b f t g : Int) (hr : (-2147483648 ≤ b ∧ b ≤ 2147483647) ∧ (-2147483648 ≤ f ∧ f ≤ 2147483647) ∧ (-2147483648 ≤ t ∧ t ≤ 2147483647) ∧ (-2147483648 ≤ g ∧ g ≤ 2147483647)) : tm_ConH γ (tm_h2 γ.2.1 γ.2.2.1 γ.2.2.2.1) M_L_addDefect [(0, 14, 17, 21), (0, 14, 21, 13), (0, 14, 25, 15)] 9 3 409 [.ref (k_o κ), .int (I (b)), .int (I (f)), .int (I (t)), .int (I (g)), .ref (o)] (un Λ Λf) (fun v w' => ∃ (Λ' : tmL) (κ' : KP) (σ' : ST) (k r : Int) (g' : Nat → Int64), dj Λ' (tm_u2 Λf o (tm_al γ.2.2.1 1 g')) ∧ okL Λ' ∧ un Λ' (tm_u2 Λf o (tm_al γ.2.2.1 1 g')) = w' ∧ RC γ.2.2.1 Λ' κ' σ' ∧ grp (s_aj σ') (s_cu σ') (k_cs κ') 0 (s_nm σ') ∧ k_o κ' = k_o κ ∧ v = some (.int (I k)) ∧ (0 ≤ k ∧ k ≤ 3) ∧ (Sp_addDefect σ b f t g k σ' r) ∧ (k = 0 → g' 0 = (I r).toInt64)) := by
  refine tm_conH hst (by decide) (Nat.le_of_ble_eq_true rfl) (fun x hB hR htab hNc => ?_)
  have hg := hB.1
  subst hg
  have hC : tm_C x cL_addDefect RL (some FieldType.int) := hB.2.2.2.1
  show tm_V x (tm_H x (un Λ Λf)) 3 409 0 [(0, .ref (k_o κ)), (1, .int (I (b))), (2, .int (I (f))), (3, .int (I (t))), (4, .int (I (g))), (5, .ref (o))] []
  refine tm_aload 5 hC dL_addDefect_0 rfl ?_
  refine tm_iconst hC dL_addDefect_2 ?_
  refine tm_aload_n 0 hC dL_addDefect_3 rfl rfl ?_
  refine tm_iload_n 1 hC dL_addDefect_4 rfl rfl ?_
  refine tm_iload_n 2 hC dL_addDefect_5 rfl rfl ?_
  refine tm_iload_n 3 hC dL_addDefect_6 rfl rfl ?_
  refine tm_iload 4 hC dL_addDefect_7 rfl ?_
  have hrec : ∀ H, tm_h2 (tm_D x) (tm_T x) (tm_e0 x) (tm_Fz x) (un Λ Λf) H → _ := tm_rec2 hC (un_1 (rc_o hM)) rfl
  refine tm_less (b' := 3 + 0) (n' := 409 + 0) ⟨by omega, by omega⟩ ?_
  refine tm_callVC (b := 0) (n := 0) (rest := [.int (I (0)), .ref (o)]) hC (fr_conX hd o1 o2 (c_T_addDefect (tm_g x) hst Λ κ σ hM hw b f t g hr hW hG)) k_L_17 (by rw [hB.2.2.1]; exact ⟨Nat.le_of_ble_eq_true rfl, Nat.le_of_ble_eq_true rfl⟩) rfl hrec rfl (by simp [Value.category]) dL_addDefect_9 (fun E9 w9 q9 z9 => ?_) (fun v9 w9 z9 => ?_)
  · obtain ⟨Λ9, ⟨rfl, zx⟩, hd9, ok9, rfl⟩ := z9
    rcases zx with ⟨rfl, zs⟩ | ⟨rfl, zs⟩ | ⟨rfl, zs⟩
    · refine tm_catch [] ⟨0, 14, 17, 21⟩ [⟨0, 14, 21, 13⟩, ⟨0, 14, 25, 15⟩] hC (htab.trans rfl) (fun z hz => absurd hz List.not_mem_nil) rfl (by decide) cl_L_21 ct_iob ?_
      show tm_V x (tm_H x (un Λ Λf)) 0 0 17 [(0, .ref (k_o κ)), (1, .int (I (b))), (2, .int (I (f))), (3, .int (I (t))), (4, .int (I (g))), (5, .ref (o))] [.ref (q9)]
      refine tm_astore [(6, .ref (q9)), (0, .ref (k_o κ)), (1, .int (I (b))), (2, .int (I (f))), (3, .int (I (t))), (4, .int (I (g))), (5, .ref (o))] hC dL_addDefect_17 (by rw [hB.2.1]; exact Nat.le_of_ble_eq_true rfl) rfl ?_
      refine tm_iconst hC dL_addDefect_19 ?_
      exact tm_iret hC hR dL_addDefect_20 (⟨_, κ, σ, 1, 0, f0, by rw [u2_self ho]; exact hd9, ok9, by rw [u2_self ho], hM, hG, rfl, rfl, by omega, zs, fun z => by omega⟩)
    · refine tm_catch [⟨0, 14, 17, 21⟩] ⟨0, 14, 21, 13⟩ [⟨0, 14, 25, 15⟩] hC (htab.trans rfl) (List.forall_mem_cons.mpr ⟨Or.inr ⟨by decide, _, cl_L_21, nc_iae_iob hNc⟩, fun z hz => absurd hz List.not_mem_nil⟩) rfl (by decide) cl_L_13 ct_iae ?_
      show tm_V x (tm_H x (un Λ Λf)) 0 0 21 [(0, .ref (k_o κ)), (1, .int (I (b))), (2, .int (I (f))), (3, .int (I (t))), (4, .int (I (g))), (5, .ref (o))] [.ref (q9)]
      refine tm_astore [(6, .ref (q9)), (0, .ref (k_o κ)), (1, .int (I (b))), (2, .int (I (f))), (3, .int (I (t))), (4, .int (I (g))), (5, .ref (o))] hC dL_addDefect_21 (by rw [hB.2.1]; exact Nat.le_of_ble_eq_true rfl) rfl ?_
      refine tm_iconst hC dL_addDefect_23 ?_
      exact tm_iret hC hR dL_addDefect_24 (⟨_, κ, σ, 2, 0, f0, by rw [u2_self ho]; exact hd9, ok9, by rw [u2_self ho], hM, hG, rfl, rfl, by omega, zs, fun z => by omega⟩)
    · refine tm_catch [⟨0, 14, 17, 21⟩, ⟨0, 14, 21, 13⟩] ⟨0, 14, 25, 15⟩ [] hC (htab.trans rfl) (List.forall_mem_cons.mpr ⟨Or.inr ⟨by decide, _, cl_L_21, nc_ise_iob hNc⟩, List.forall_mem_cons.mpr ⟨Or.inr ⟨by decide, _, cl_L_13, nc_ise_iae hNc⟩, fun z hz => absurd hz List.not_mem_nil⟩⟩) rfl (by decide) cl_L_15 ct_ise ?_
      show tm_V x (tm_H x (un Λ Λf)) 0 0 25 [(0, .ref (k_o κ)), (1, .int (I (b))), (2, .int (I (f))), (3, .int (I (t))), (4, .int (I (g))), (5, .ref (o))] [.ref (q9)]
      refine tm_astore [(6, .ref (q9)), (0, .ref (k_o κ)), (1, .int (I (b))), (2, .int (I (f))), (3, .int (I (t))), (4, .int (I (g))), (5, .ref (o))] hC dL_addDefect_25 (by rw [hB.2.1]; exact Nat.le_of_ble_eq_true rfl) rfl ?_
      refine tm_iconst hC dL_addDefect_27 ?_
      exact tm_iret hC hR dL_addDefect_28 (⟨_, κ, σ, 3, 0, f0, by rw [u2_self ho]; exact hd9, ok9, by rw [u2_self ho], hM, hG, rfl, rfl, by omega, zs, fun z => by omega⟩)
  · obtain ⟨Λ9, ⟨κ9, σ9, r9, hRC9, hG9, hko9, rfl, hS9⟩, hd9, ok9, rfl⟩ := z9
    have hon9 : Λ9 o = none := by rcases hd9 o with h8 | h8; exact h8; rw [ho] at h8; cases h8
    have hou9 : (un Λ9 Λf) o = some (.inl (tm_al (tm_T x) 1 f0)) := un_2 hd9 ho
    show tm_V x (tm_H x (un Λ9 Λf)) 0 0 12 [(0, .ref (k_o κ)), (1, .int (I (b))), (2, .int (I (f))), (3, .int (I (t))), (4, .int (I (g))), (5, .ref (o))] [.int (I (r9)), .int (I (0)), .ref (o)]
    refine tm_i2l hC dL_addDefect_12 ?_
    refine tm_last2 hC hou9 (by omega) dL_addDefect_13 ?_
    obtain ⟨w1, hw2⟩ : ∃ z, z = tm_u2 (un Λ9 Λf) o (tm_al (tm_T x) 1 (vp_updL f0 (0 : Int).toNat ((I (r9)).toInt64))) := ⟨_, rfl⟩
    show tm_V x (tm_H x (tm_u2 (un Λ9 Λf) o (tm_al (tm_T x) 1 (vp_updL f0 (0 : Int).toNat ((I (r9)).toInt64))))) 0 0 14 [(0, .ref (k_o κ)), (1, .int (I (b))), (2, .int (I (f))), (3, .int (I (t))), (4, .int (I (g))), (5, .ref (o))] []
    rw [← hw2]
    have hw1_o : w1 o = some (.inl (tm_al (tm_T x) 1 (vp_updL f0 (0 : Int).toNat ((I (r9)).toInt64)))) := by rw [hw2]; first | done | exact tm_u2_s
    refine tm_goto 29 hC dL_addDefect_14 (by decide) ?_
    refine tm_iconst hC dL_addDefect_29 ?_
    exact tm_iret hC hR dL_addDefect_30 (⟨_, κ9, σ9, 0, r9, (vp_updL f0 (0 : Int).toNat ((I (r9)).toInt64)), dj_u2 hd9 hon9, ok9, by rw [hw2, un_u2 hon9], hRC9, hG9, hko9, rfl, by omega, hS9, fun _ => rfl⟩)

set_option maxHeartbeats 4000000 in
set_option maxRecDepth 100000 in
theorem h_addPart (γ : tmG) (hst : γ.1.stackTraces = false) (Λ Λf : tmL) (hd : dj Λ Λf) (o1 : okL Λ) (o2 : okL Λf) (κ : KP) (σ : ST) (hM : RC γ.2.2.1 Λ κ σ) (hw : WF0 σ) (hW : WF σ) (hG : grp (s_aj σ) (s_cu σ) (k_cs κ) 0 (s_nm σ)) (o : Nat) (f0 : Nat → Int64) (ho : Λf o = some (.inl (tm_al γ.2.2.1 1 f0))) (l w g c j : Int) (hr : ((-2147483648 ≤ l ∧ l ≤ 2147483647) ∧ (-2147483648 ≤ w ∧ w ≤ 2147483647) ∧ (-2147483648 ≤ g ∧ g ≤ 2147483647) ∧ (-2147483648 ≤ c ∧ c ≤ 2147483647)) ∧ (j = 0 ∨ j = 1)) : tm_ConH γ (tm_h2 γ.2.1 γ.2.2.1 γ.2.2.2.1) M_L_addPart [(0, 16, 19, 13), (0, 16, 23, 15)] 9 3 806 [.ref (k_o κ), .int (I (l)), .int (I (w)), .int (I (g)), .int (I (c)), .int (I (j)), .ref (o)] (un Λ Λf) (fun v w' => ∃ (Λ' : tmL) (κ' : KP) (σ' : ST) (k r : Int) (g' : Nat → Int64), dj Λ' (tm_u2 Λf o (tm_al γ.2.2.1 1 g')) ∧ okL Λ' ∧ un Λ' (tm_u2 Λf o (tm_al γ.2.2.1 1 g')) = w' ∧ RC γ.2.2.1 Λ' κ' σ' ∧ grp (s_aj σ') (s_cu σ') (k_cs κ') 0 (s_nm σ') ∧ k_o κ' = k_o κ ∧ v = some (.int (I k)) ∧ (0 ≤ k ∧ k ≤ 3) ∧ (Sp_addPart σ l w g c j k σ' r) ∧ (k = 0 → g' 0 = (I r).toInt64)) := by
  refine tm_conH hst (by decide) (Nat.le_of_ble_eq_true rfl) (fun x hB hR htab hNc => ?_)
  have hg := hB.1
  subst hg
  have hC : tm_C x cL_addPart RL (some FieldType.int) := hB.2.2.2.1
  show tm_V x (tm_H x (un Λ Λf)) 3 806 0 [(0, .ref (k_o κ)), (1, .int (I (l))), (2, .int (I (w))), (3, .int (I (g))), (4, .int (I (c))), (5, .int (I (j))), (6, .ref (o))] []
  refine tm_aload 6 hC dL_addPart_0 rfl ?_
  refine tm_iconst hC dL_addPart_2 ?_
  refine tm_aload_n 0 hC dL_addPart_3 rfl rfl ?_
  refine tm_iload_n 1 hC dL_addPart_4 rfl rfl ?_
  refine tm_iload_n 2 hC dL_addPart_5 rfl rfl ?_
  refine tm_iload_n 3 hC dL_addPart_6 rfl rfl ?_
  refine tm_iload 4 hC dL_addPart_7 rfl ?_
  refine tm_iload 5 hC dL_addPart_9 rfl ?_
  have hrec : ∀ H, tm_h2 (tm_D x) (tm_T x) (tm_e0 x) (tm_Fz x) (un Λ Λf) H → _ := tm_rec2 hC (un_1 (rc_o hM)) rfl
  refine tm_less (b' := 3 + 0) (n' := 806 + 0) ⟨by omega, by omega⟩ ?_
  refine tm_callVC (b := 0) (n := 0) (rest := [.int (I (0)), .ref (o)]) hC (fr_conX hd o1 o2 (c_T_addPart (tm_g x) hst Λ κ σ hM hw l w g c j hr hW hG)) k_L_23 (by rw [hB.2.2.1]; exact ⟨Nat.le_of_ble_eq_true rfl, Nat.le_of_ble_eq_true rfl⟩) rfl hrec rfl (by simp [Value.category]) dL_addPart_11 (fun E9 w9 q9 z9 => ?_) (fun v9 w9 z9 => ?_)
  · obtain ⟨Λ9, ⟨rfl, zx⟩, hd9, ok9, rfl⟩ := z9
    rcases zx with ⟨rfl, zs⟩ | ⟨rfl, zs⟩
    · refine tm_catch [] ⟨0, 16, 19, 13⟩ [⟨0, 16, 23, 15⟩] hC (htab.trans rfl) (fun z hz => absurd hz List.not_mem_nil) rfl (by decide) cl_L_13 ct_iae ?_
      show tm_V x (tm_H x (un Λ Λf)) 0 0 19 [(0, .ref (k_o κ)), (1, .int (I (l))), (2, .int (I (w))), (3, .int (I (g))), (4, .int (I (c))), (5, .int (I (j))), (6, .ref (o))] [.ref (q9)]
      refine tm_astore [(7, .ref (q9)), (0, .ref (k_o κ)), (1, .int (I (l))), (2, .int (I (w))), (3, .int (I (g))), (4, .int (I (c))), (5, .int (I (j))), (6, .ref (o))] hC dL_addPart_19 (by rw [hB.2.1]; exact Nat.le_of_ble_eq_true rfl) rfl ?_
      refine tm_iconst hC dL_addPart_21 ?_
      exact tm_iret hC hR dL_addPart_22 (⟨_, κ, σ, 1, 0, f0, by rw [u2_self ho]; exact hd9, ok9, by rw [u2_self ho], hM, hG, rfl, rfl, by omega, zs, fun z => by omega⟩)
    · refine tm_catch [⟨0, 16, 19, 13⟩] ⟨0, 16, 23, 15⟩ [] hC (htab.trans rfl) (List.forall_mem_cons.mpr ⟨Or.inr ⟨by decide, _, cl_L_13, nc_ise_iae hNc⟩, fun z hz => absurd hz List.not_mem_nil⟩) rfl (by decide) cl_L_15 ct_ise ?_
      show tm_V x (tm_H x (un Λ Λf)) 0 0 23 [(0, .ref (k_o κ)), (1, .int (I (l))), (2, .int (I (w))), (3, .int (I (g))), (4, .int (I (c))), (5, .int (I (j))), (6, .ref (o))] [.ref (q9)]
      refine tm_astore [(7, .ref (q9)), (0, .ref (k_o κ)), (1, .int (I (l))), (2, .int (I (w))), (3, .int (I (g))), (4, .int (I (c))), (5, .int (I (j))), (6, .ref (o))] hC dL_addPart_23 (by rw [hB.2.1]; exact Nat.le_of_ble_eq_true rfl) rfl ?_
      refine tm_iconst hC dL_addPart_25 ?_
      exact tm_iret hC hR dL_addPart_26 (⟨_, κ, σ, 2, 0, f0, by rw [u2_self ho]; exact hd9, ok9, by rw [u2_self ho], hM, hG, rfl, rfl, by omega, zs, fun z => by omega⟩)
  · obtain ⟨Λ9, ⟨κ9, σ9, r9, hRC9, hG9, hko9, rfl, hS9⟩, hd9, ok9, rfl⟩ := z9
    have hon9 : Λ9 o = none := by rcases hd9 o with h8 | h8; exact h8; rw [ho] at h8; cases h8
    have hou9 : (un Λ9 Λf) o = some (.inl (tm_al (tm_T x) 1 f0)) := un_2 hd9 ho
    show tm_V x (tm_H x (un Λ9 Λf)) 0 0 14 [(0, .ref (k_o κ)), (1, .int (I (l))), (2, .int (I (w))), (3, .int (I (g))), (4, .int (I (c))), (5, .int (I (j))), (6, .ref (o))] [.int (I (r9)), .int (I (0)), .ref (o)]
    refine tm_i2l hC dL_addPart_14 ?_
    refine tm_last2 hC hou9 (by omega) dL_addPart_15 ?_
    obtain ⟨w1, hw2⟩ : ∃ z, z = tm_u2 (un Λ9 Λf) o (tm_al (tm_T x) 1 (vp_updL f0 (0 : Int).toNat ((I (r9)).toInt64))) := ⟨_, rfl⟩
    show tm_V x (tm_H x (tm_u2 (un Λ9 Λf) o (tm_al (tm_T x) 1 (vp_updL f0 (0 : Int).toNat ((I (r9)).toInt64))))) 0 0 16 [(0, .ref (k_o κ)), (1, .int (I (l))), (2, .int (I (w))), (3, .int (I (g))), (4, .int (I (c))), (5, .int (I (j))), (6, .ref (o))] []
    rw [← hw2]
    have hw1_o : w1 o = some (.inl (tm_al (tm_T x) 1 (vp_updL f0 (0 : Int).toNat ((I (r9)).toInt64)))) := by rw [hw2]; first | done | exact tm_u2_s
    refine tm_goto 27 hC dL_addPart_16 (by decide) ?_
    refine tm_iconst hC dL_addPart_27 ?_
    exact tm_iret hC hR dL_addPart_28 (⟨_, κ9, σ9, 0, r9, (vp_updL f0 (0 : Int).toNat ((I (r9)).toInt64)), dj_u2 hd9 hon9, ok9, by rw [hw2, un_u2 hon9], hRC9, hG9, hko9, rfl, by omega, hS9, fun _ => rfl⟩)

set_option maxHeartbeats 4000000 in
set_option maxRecDepth 100000 in
theorem h_setSaw (γ : tmG) (hst : γ.1.stackTraces = false) (Λ Λf : tmL) (hd : dj Λ Λf) (o1 : okL Λ) (o2 : okL Λf) (κ : KP) (σ : ST) (hM : RC γ.2.2.1 Λ κ σ) (hw : WF0 σ) (hW : WF σ) (hG : grp (s_aj σ) (s_cu σ) (k_cs κ) 0 (s_nm σ)) (o : Nat) (f0 : Nat → Int64) (ho : Λf o = some (.inl (tm_al γ.2.2.1 1 f0))) (w : Int) (hr : (-2147483648 ≤ w ∧ w ≤ 2147483647)) : tm_ConH γ (tm_h2 γ.2.1 γ.2.2.1 γ.2.2.2.1) M_L_setSaw [(0, 9, 12, 13), (0, 9, 15, 15)] 7 2 12 [.ref (k_o κ), .int (I (w)), .ref (o)] (un Λ Λf) (fun v w' => ∃ (Λ' : tmL) (κ' : KP) (σ' : ST) (k r : Int) (g' : Nat → Int64), dj Λ' (tm_u2 Λf o (tm_al γ.2.2.1 1 g')) ∧ okL Λ' ∧ un Λ' (tm_u2 Λf o (tm_al γ.2.2.1 1 g')) = w' ∧ RC γ.2.2.1 Λ' κ' σ' ∧ grp (s_aj σ') (s_cu σ') (k_cs κ') 0 (s_nm σ') ∧ k_o κ' = k_o κ ∧ v = some (.int (I k)) ∧ (0 ≤ k ∧ k ≤ 3) ∧ (Sp_setSaw σ w k σ' r) ∧ (k = 0 → g' 0 = (I r).toInt64)) := by
  refine tm_conH hst (by decide) (Nat.le_of_ble_eq_true rfl) (fun x hB hR htab hNc => ?_)
  have hg := hB.1
  subst hg
  have hC : tm_C x cL_setSaw RL (some FieldType.int) := hB.2.2.2.1
  show tm_V x (tm_H x (un Λ Λf)) 2 12 0 [(0, .ref (k_o κ)), (1, .int (I (w))), (2, .ref (o))] []
  refine tm_aload_n 2 hC dL_setSaw_0 rfl rfl ?_
  refine tm_iconst hC dL_setSaw_1 ?_
  refine tm_aload_n 0 hC dL_setSaw_2 rfl rfl ?_
  refine tm_iload_n 1 hC dL_setSaw_3 rfl rfl ?_
  have hrec : ∀ H, tm_h2 (tm_D x) (tm_T x) (tm_e0 x) (tm_Fz x) (un Λ Λf) H → _ := tm_rec2 hC (un_1 (rc_o hM)) rfl
  refine tm_less (b' := 2 + 0) (n' := 12 + 0) ⟨by omega, by omega⟩ ?_
  refine tm_callVC (b := 0) (n := 0) (rest := [.int (I (0)), .ref (o)]) hC (fr_conX hd o1 o2 (c_T_setSaw (tm_g x) hst Λ κ σ hM hw w hr hG)) k_L_27 (by rw [hB.2.2.1]; exact ⟨Nat.le_of_ble_eq_true rfl, Nat.le_of_ble_eq_true rfl⟩) rfl hrec rfl (by simp [Value.category]) dL_setSaw_4 (fun E9 w9 q9 z9 => ?_) (fun v9 w9 z9 => ?_)
  · obtain ⟨Λ9, ⟨rfl, zx⟩, hd9, ok9, rfl⟩ := z9
    rcases zx with ⟨rfl, zs⟩ | ⟨rfl, zs⟩
    · refine tm_catch [] ⟨0, 9, 12, 13⟩ [⟨0, 9, 15, 15⟩] hC (htab.trans rfl) (fun z hz => absurd hz List.not_mem_nil) rfl (by decide) cl_L_13 ct_iae ?_
      show tm_V x (tm_H x (un Λ Λf)) 0 0 12 [(0, .ref (k_o κ)), (1, .int (I (w))), (2, .ref (o))] [.ref (q9)]
      refine tm_astore_n [(3, .ref (q9)), (0, .ref (k_o κ)), (1, .int (I (w))), (2, .ref (o))] hC dL_setSaw_12 rfl (by rw [hB.2.1]; exact Nat.le_of_ble_eq_true rfl) rfl ?_
      refine tm_iconst hC dL_setSaw_13 ?_
      exact tm_iret hC hR dL_setSaw_14 (⟨_, κ, σ, 1, 0, f0, by rw [u2_self ho]; exact hd9, ok9, by rw [u2_self ho], hM, hG, rfl, rfl, by omega, zs, fun z => by omega⟩)
    · refine tm_catch [⟨0, 9, 12, 13⟩] ⟨0, 9, 15, 15⟩ [] hC (htab.trans rfl) (List.forall_mem_cons.mpr ⟨Or.inr ⟨by decide, _, cl_L_13, nc_ise_iae hNc⟩, fun z hz => absurd hz List.not_mem_nil⟩) rfl (by decide) cl_L_15 ct_ise ?_
      show tm_V x (tm_H x (un Λ Λf)) 0 0 15 [(0, .ref (k_o κ)), (1, .int (I (w))), (2, .ref (o))] [.ref (q9)]
      refine tm_astore_n [(3, .ref (q9)), (0, .ref (k_o κ)), (1, .int (I (w))), (2, .ref (o))] hC dL_setSaw_15 rfl (by rw [hB.2.1]; exact Nat.le_of_ble_eq_true rfl) rfl ?_
      refine tm_iconst hC dL_setSaw_16 ?_
      exact tm_iret hC hR dL_setSaw_17 (⟨_, κ, σ, 2, 0, f0, by rw [u2_self ho]; exact hd9, ok9, by rw [u2_self ho], hM, hG, rfl, rfl, by omega, zs, fun z => by omega⟩)
  · obtain ⟨Λ9, ⟨r9, σ9, hRC9, rfl, hS9⟩, hd9, ok9, rfl⟩ := z9
    have hG9 := gp_saw hS9 hG
    have hon9 : Λ9 o = none := by rcases hd9 o with h8 | h8; exact h8; rw [ho] at h8; cases h8
    have hou9 : (un Λ9 Λf) o = some (.inl (tm_al (tm_T x) 1 f0)) := un_2 hd9 ho
    show tm_V x (tm_H x (un Λ9 Λf)) 0 0 7 [(0, .ref (k_o κ)), (1, .int (I (w))), (2, .ref (o))] [.int (I (r9)), .int (I (0)), .ref (o)]
    refine tm_i2l hC dL_setSaw_7 ?_
    refine tm_last2 hC hou9 (by omega) dL_setSaw_8 ?_
    obtain ⟨w1, hw2⟩ : ∃ z, z = tm_u2 (un Λ9 Λf) o (tm_al (tm_T x) 1 (vp_updL f0 (0 : Int).toNat ((I (r9)).toInt64))) := ⟨_, rfl⟩
    show tm_V x (tm_H x (tm_u2 (un Λ9 Λf) o (tm_al (tm_T x) 1 (vp_updL f0 (0 : Int).toNat ((I (r9)).toInt64))))) 0 0 9 [(0, .ref (k_o κ)), (1, .int (I (w))), (2, .ref (o))] []
    rw [← hw2]
    have hw1_o : w1 o = some (.inl (tm_al (tm_T x) 1 (vp_updL f0 (0 : Int).toNat ((I (r9)).toInt64)))) := by rw [hw2]; first | done | exact tm_u2_s
    refine tm_goto 18 hC dL_setSaw_9 (by decide) ?_
    refine tm_iconst hC dL_setSaw_18 ?_
    exact tm_iret hC hR dL_setSaw_19 (⟨_, κ, σ9, 0, r9, (vp_updL f0 (0 : Int).toNat ((I (r9)).toInt64)), dj_u2 hd9 hon9, ok9, by rw [hw2, un_u2 hon9], hRC9, hG9, rfl, rfl, by omega, hS9, fun _ => rfl⟩)

set_option maxHeartbeats 4000000 in
set_option maxRecDepth 100000 in
theorem h_setJoint (γ : tmG) (hst : γ.1.stackTraces = false) (Λ Λf : tmL) (hd : dj Λ Λf) (o1 : okL Λ) (o2 : okL Λf) (κ : KP) (σ : ST) (hM : RC γ.2.2.1 Λ κ σ) (hw : WF0 σ) (hW : WF σ) (hG : grp (s_aj σ) (s_cu σ) (k_cs κ) 0 (s_nm σ)) (o : Nat) (f0 : Nat → Int64) (ho : Λf o = some (.inl (tm_al γ.2.2.1 1 f0))) (w : Int) (hr : (-2147483648 ≤ w ∧ w ≤ 2147483647)) : tm_ConH γ (tm_h2 γ.2.1 γ.2.2.1 γ.2.2.2.1) M_L_setJoint [(0, 9, 12, 13)] 7 1 6 [.ref (k_o κ), .int (I (w)), .ref (o)] (un Λ Λf) (fun v w' => ∃ (Λ' : tmL) (κ' : KP) (σ' : ST) (k r : Int) (g' : Nat → Int64), dj Λ' (tm_u2 Λf o (tm_al γ.2.2.1 1 g')) ∧ okL Λ' ∧ un Λ' (tm_u2 Λf o (tm_al γ.2.2.1 1 g')) = w' ∧ RC γ.2.2.1 Λ' κ' σ' ∧ grp (s_aj σ') (s_cu σ') (k_cs κ') 0 (s_nm σ') ∧ k_o κ' = k_o κ ∧ v = some (.int (I k)) ∧ (0 ≤ k ∧ k ≤ 3) ∧ (Sp_setJoint σ w k σ' r) ∧ (k = 0 → g' 0 = (I r).toInt64)) := by
  refine tm_conH hst (by decide) (Nat.le_of_ble_eq_true rfl) (fun x hB hR htab hNc => ?_)
  have hg := hB.1
  subst hg
  have hC : tm_C x cL_setJoint RL (some FieldType.int) := hB.2.2.2.1
  show tm_V x (tm_H x (un Λ Λf)) 1 6 0 [(0, .ref (k_o κ)), (1, .int (I (w))), (2, .ref (o))] []
  refine tm_aload_n 2 hC dL_setJoint_0 rfl rfl ?_
  refine tm_iconst hC dL_setJoint_1 ?_
  refine tm_aload_n 0 hC dL_setJoint_2 rfl rfl ?_
  refine tm_iload_n 1 hC dL_setJoint_3 rfl rfl ?_
  have hrec : ∀ H, tm_h2 (tm_D x) (tm_T x) (tm_e0 x) (tm_Fz x) (un Λ Λf) H → _ := tm_rec2 hC (un_1 (rc_o hM)) rfl
  refine tm_less (b' := 1 + 0) (n' := 6 + 0) ⟨by omega, by omega⟩ ?_
  refine tm_callVC (b := 0) (n := 0) (rest := [.int (I (0)), .ref (o)]) hC (fr_conX hd o1 o2 (c_T_setJoint (tm_g x) hst Λ κ σ hM hw w hr)) k_L_31 (by rw [hB.2.2.1]; exact ⟨Nat.le_of_ble_eq_true rfl, Nat.le_of_ble_eq_true rfl⟩) rfl hrec rfl (by simp [Value.category]) dL_setJoint_4 (fun E9 w9 q9 z9 => ?_) (fun v9 w9 z9 => ?_)
  · obtain ⟨Λ9, ⟨rfl, zx⟩, hd9, ok9, rfl⟩ := z9
    obtain ⟨rfl, zs⟩ := zx
    refine tm_catch [] ⟨0, 9, 12, 13⟩ [] hC (htab.trans rfl) (fun z hz => absurd hz List.not_mem_nil) rfl (by decide) cl_L_13 ct_iae ?_
    show tm_V x (tm_H x (un Λ Λf)) 0 0 12 [(0, .ref (k_o κ)), (1, .int (I (w))), (2, .ref (o))] [.ref (q9)]
    refine tm_astore_n [(3, .ref (q9)), (0, .ref (k_o κ)), (1, .int (I (w))), (2, .ref (o))] hC dL_setJoint_12 rfl (by rw [hB.2.1]; exact Nat.le_of_ble_eq_true rfl) rfl ?_
    refine tm_iconst hC dL_setJoint_13 ?_
    exact tm_iret hC hR dL_setJoint_14 (⟨_, κ, σ, 1, 0, f0, by rw [u2_self ho]; exact hd9, ok9, by rw [u2_self ho], hM, hG, rfl, rfl, by omega, zs, fun z => by omega⟩)
  · obtain ⟨Λ9, ⟨r9, σ9, hRC9, rfl, hS9⟩, hd9, ok9, rfl⟩ := z9
    have hG9 := gp_jnt hS9 hG
    have hon9 : Λ9 o = none := by rcases hd9 o with h8 | h8; exact h8; rw [ho] at h8; cases h8
    have hou9 : (un Λ9 Λf) o = some (.inl (tm_al (tm_T x) 1 f0)) := un_2 hd9 ho
    show tm_V x (tm_H x (un Λ9 Λf)) 0 0 7 [(0, .ref (k_o κ)), (1, .int (I (w))), (2, .ref (o))] [.int (I (r9)), .int (I (0)), .ref (o)]
    refine tm_i2l hC dL_setJoint_7 ?_
    refine tm_last2 hC hou9 (by omega) dL_setJoint_8 ?_
    obtain ⟨w1, hw2⟩ : ∃ z, z = tm_u2 (un Λ9 Λf) o (tm_al (tm_T x) 1 (vp_updL f0 (0 : Int).toNat ((I (r9)).toInt64))) := ⟨_, rfl⟩
    show tm_V x (tm_H x (tm_u2 (un Λ9 Λf) o (tm_al (tm_T x) 1 (vp_updL f0 (0 : Int).toNat ((I (r9)).toInt64))))) 0 0 9 [(0, .ref (k_o κ)), (1, .int (I (w))), (2, .ref (o))] []
    rw [← hw2]
    have hw1_o : w1 o = some (.inl (tm_al (tm_T x) 1 (vp_updL f0 (0 : Int).toNat ((I (r9)).toInt64)))) := by rw [hw2]; first | done | exact tm_u2_s
    refine tm_goto 15 hC dL_setJoint_9 (by decide) ?_
    refine tm_iconst hC dL_setJoint_15 ?_
    exact tm_iret hC hR dL_setJoint_16 (⟨_, κ, σ9, 0, r9, (vp_updL f0 (0 : Int).toNat ((I (r9)).toInt64)), dj_u2 hd9 hon9, ok9, by rw [hw2, un_u2 hon9], hRC9, hG9, rfl, rfl, by omega, hS9, fun _ => rfl⟩)

set_option maxHeartbeats 4000000 in
set_option maxRecDepth 100000 in
theorem h_grade (γ : tmG) (hst : γ.1.stackTraces = false) (Λ Λf : tmL) (hd : dj Λ Λf) (o1 : okL Λ) (o2 : okL Λf) (κ : KP) (σ : ST) (hM : RC γ.2.2.1 Λ κ σ) (hw : WF0 σ) (hW : WF σ) (hG : grp (s_aj σ) (s_cu σ) (k_cs κ) 0 (s_nm σ)) (o : Nat) (f0 : Nat → Int64) (ho : Λf o = some (.inl (tm_al γ.2.2.1 1 f0))) (b pl : Int) (hr : (-2147483648 ≤ b ∧ b ≤ 2147483647) ∧ (-2147483648 ≤ pl ∧ pl ≤ 2147483647)) : tm_ConH γ (tm_h2 γ.2.1 γ.2.2.1 γ.2.2.2.1) M_L_grade [(0, 10, 13, 21)] 8 2 12 [.ref (k_o κ), .int (I (b)), .int (I (pl)), .ref (o)] (un Λ Λf) (fun v w' => ∃ (Λ' : tmL) (κ' : KP) (σ' : ST) (k r : Int) (g' : Nat → Int64), dj Λ' (tm_u2 Λf o (tm_al γ.2.2.1 1 g')) ∧ okL Λ' ∧ un Λ' (tm_u2 Λf o (tm_al γ.2.2.1 1 g')) = w' ∧ RC γ.2.2.1 Λ' κ' σ' ∧ grp (s_aj σ') (s_cu σ') (k_cs κ') 0 (s_nm σ') ∧ k_o κ' = k_o κ ∧ v = some (.int (I k)) ∧ (0 ≤ k ∧ k ≤ 3) ∧ ((Sp_grade σ b pl k r) ∧ σ' = σ) ∧ (k = 0 → g' 0 = (I r).toInt64)) := by
  refine tm_conH hst (by decide) (Nat.le_of_ble_eq_true rfl) (fun x hB hR htab hNc => ?_)
  have hg := hB.1
  subst hg
  have hC : tm_C x cL_grade RL (some FieldType.int) := hB.2.2.2.1
  show tm_V x (tm_H x (un Λ Λf)) 2 12 0 [(0, .ref (k_o κ)), (1, .int (I (b))), (2, .int (I (pl))), (3, .ref (o))] []
  refine tm_aload_n 3 hC dL_grade_0 rfl rfl ?_
  refine tm_iconst hC dL_grade_1 ?_
  refine tm_aload_n 0 hC dL_grade_2 rfl rfl ?_
  refine tm_iload_n 1 hC dL_grade_3 rfl rfl ?_
  refine tm_iload_n 2 hC dL_grade_4 rfl rfl ?_
  have hrec : ∀ H, tm_h2 (tm_D x) (tm_T x) (tm_e0 x) (tm_Fz x) (un Λ Λf) H → _ := tm_rec2 hC (un_1 (rc_o hM)) rfl
  refine tm_less (b' := 2 + 0) (n' := 12 + 0) ⟨by omega, by omega⟩ ?_
  refine tm_callVC (b := 0) (n := 0) (rest := [.int (I (0)), .ref (o)]) hC (fr_conX hd o1 o2 (c_T_grade (tm_g x) hst Λ κ σ hM hw b pl hr)) k_L_34 (by rw [hB.2.2.1]; exact ⟨Nat.le_of_ble_eq_true rfl, Nat.le_of_ble_eq_true rfl⟩) rfl hrec rfl (by simp [Value.category]) dL_grade_5 (fun E9 w9 q9 z9 => ?_) (fun v9 w9 z9 => ?_)
  · obtain ⟨Λ9, ⟨rfl, zx⟩, hd9, ok9, rfl⟩ := z9
    obtain ⟨rfl, zs⟩ := zx
    refine tm_catch [] ⟨0, 10, 13, 21⟩ [] hC (htab.trans rfl) (fun z hz => absurd hz List.not_mem_nil) rfl (by decide) cl_L_21 ct_iob ?_
    show tm_V x (tm_H x (un Λ Λf)) 0 0 13 [(0, .ref (k_o κ)), (1, .int (I (b))), (2, .int (I (pl))), (3, .ref (o))] [.ref (q9)]
    refine tm_astore [(4, .ref (q9)), (0, .ref (k_o κ)), (1, .int (I (b))), (2, .int (I (pl))), (3, .ref (o))] hC dL_grade_13 (by rw [hB.2.1]; exact Nat.le_of_ble_eq_true rfl) rfl ?_
    refine tm_iconst hC dL_grade_15 ?_
    exact tm_iret hC hR dL_grade_16 (⟨_, κ, σ, 1, 0, f0, by rw [u2_self ho]; exact hd9, ok9, by rw [u2_self ho], hM, hG, rfl, rfl, by omega, ⟨zs, rfl⟩, fun z => by omega⟩)
  · obtain ⟨Λ9, ⟨rfl, r9, rfl, hS9⟩, hd9, ok9, rfl⟩ := z9
    have hon9 : Λ o = none := by rcases hd9 o with h8 | h8; exact h8; rw [ho] at h8; cases h8
    have hou9 : (un Λ Λf) o = some (.inl (tm_al (tm_T x) 1 f0)) := un_2 hd9 ho
    show tm_V x (tm_H x (un Λ Λf)) 0 0 8 [(0, .ref (k_o κ)), (1, .int (I (b))), (2, .int (I (pl))), (3, .ref (o))] [.int (I (r9)), .int (I (0)), .ref (o)]
    refine tm_i2l hC dL_grade_8 ?_
    refine tm_last2 hC hou9 (by omega) dL_grade_9 ?_
    obtain ⟨w1, hw2⟩ : ∃ z, z = tm_u2 (un Λ Λf) o (tm_al (tm_T x) 1 (vp_updL f0 (0 : Int).toNat ((I (r9)).toInt64))) := ⟨_, rfl⟩
    show tm_V x (tm_H x (tm_u2 (un Λ Λf) o (tm_al (tm_T x) 1 (vp_updL f0 (0 : Int).toNat ((I (r9)).toInt64))))) 0 0 10 [(0, .ref (k_o κ)), (1, .int (I (b))), (2, .int (I (pl))), (3, .ref (o))] []
    rw [← hw2]
    have hw1_o : w1 o = some (.inl (tm_al (tm_T x) 1 (vp_updL f0 (0 : Int).toNat ((I (r9)).toInt64)))) := by rw [hw2]; first | done | exact tm_u2_s
    refine tm_goto 17 hC dL_grade_10 (by decide) ?_
    refine tm_iconst hC dL_grade_17 ?_
    exact tm_iret hC hR dL_grade_18 (⟨_, κ, σ, 0, r9, (vp_updL f0 (0 : Int).toNat ((I (r9)).toInt64)), dj_u2 hd9 hon9, ok9, by rw [hw2, un_u2 hon9], hM, hG, rfl, rfl, by omega, ⟨hS9, rfl⟩, fun _ => rfl⟩)

set_option maxHeartbeats 4000000 in
set_option maxRecDepth 100000 in
theorem h_stretches (γ : tmG) (hst : γ.1.stackTraces = false) (Λ Λf : tmL) (hd : dj Λ Λf) (o1 : okL Λ) (o2 : okL Λf) (κ : KP) (σ : ST) (hM : RC γ.2.2.1 Λ κ σ) (hw : WF0 σ) (hW : WF σ) (hG : grp (s_aj σ) (s_cu σ) (k_cs κ) 0 (s_nm σ)) (o : Nat) (f0 : Nat → Int64) (ho : Λf o = some (.inl (tm_al γ.2.2.1 1 f0))) (b g : Int) (hr : (-2147483648 ≤ b ∧ b ≤ 2147483647) ∧ (-2147483648 ≤ g ∧ g ≤ 2147483647)) : tm_ConH γ (tm_h2 γ.2.1 γ.2.2.1 γ.2.2.2.1) M_L_stretches [(0, 10, 13, 21), (0, 10, 17, 13)] 9 2 12 [.ref (k_o κ), .int (I (b)), .int (I (g)), .ref (o)] (un Λ Λf) (fun v w' => ∃ (Λ' : tmL) (κ' : KP) (σ' : ST) (k r : Int) (g' : Nat → Int64), dj Λ' (tm_u2 Λf o (tm_al γ.2.2.1 1 g')) ∧ okL Λ' ∧ un Λ' (tm_u2 Λf o (tm_al γ.2.2.1 1 g')) = w' ∧ RC γ.2.2.1 Λ' κ' σ' ∧ grp (s_aj σ') (s_cu σ') (k_cs κ') 0 (s_nm σ') ∧ k_o κ' = k_o κ ∧ v = some (.int (I k)) ∧ (0 ≤ k ∧ k ≤ 3) ∧ ((Sp_stretches σ b g k r) ∧ σ' = σ) ∧ (k = 0 → g' 0 = (I r).toInt64)) := by
  refine tm_conH hst (by decide) (Nat.le_of_ble_eq_true rfl) (fun x hB hR htab hNc => ?_)
  have hg := hB.1
  subst hg
  have hC : tm_C x cL_stretches RL (some FieldType.int) := hB.2.2.2.1
  show tm_V x (tm_H x (un Λ Λf)) 2 12 0 [(0, .ref (k_o κ)), (1, .int (I (b))), (2, .int (I (g))), (3, .ref (o))] []
  refine tm_aload_n 3 hC dL_stretches_0 rfl rfl ?_
  refine tm_iconst hC dL_stretches_1 ?_
  refine tm_aload_n 0 hC dL_stretches_2 rfl rfl ?_
  refine tm_iload_n 1 hC dL_stretches_3 rfl rfl ?_
  refine tm_iload_n 2 hC dL_stretches_4 rfl rfl ?_
  have hrec : ∀ H, tm_h2 (tm_D x) (tm_T x) (tm_e0 x) (tm_Fz x) (un Λ Λf) H → _ := tm_rec2 hC (un_1 (rc_o hM)) rfl
  refine tm_less (b' := 2 + 0) (n' := 12 + 0) ⟨by omega, by omega⟩ ?_
  refine tm_callVC (b := 0) (n := 0) (rest := [.int (I (0)), .ref (o)]) hC (fr_conX hd o1 o2 (c_T_stretches (tm_g x) hst Λ κ σ hM hw b g hr)) k_L_38 (by rw [hB.2.2.1]; exact ⟨Nat.le_of_ble_eq_true rfl, Nat.le_of_ble_eq_true rfl⟩) rfl hrec rfl (by simp [Value.category]) dL_stretches_5 (fun E9 w9 q9 z9 => ?_) (fun v9 w9 z9 => ?_)
  · obtain ⟨Λ9, ⟨rfl, zx⟩, hd9, ok9, rfl⟩ := z9
    rcases zx with ⟨rfl, zs⟩ | ⟨rfl, zs⟩
    · refine tm_catch [] ⟨0, 10, 13, 21⟩ [⟨0, 10, 17, 13⟩] hC (htab.trans rfl) (fun z hz => absurd hz List.not_mem_nil) rfl (by decide) cl_L_21 ct_iob ?_
      show tm_V x (tm_H x (un Λ Λf)) 0 0 13 [(0, .ref (k_o κ)), (1, .int (I (b))), (2, .int (I (g))), (3, .ref (o))] [.ref (q9)]
      refine tm_astore [(4, .ref (q9)), (0, .ref (k_o κ)), (1, .int (I (b))), (2, .int (I (g))), (3, .ref (o))] hC dL_stretches_13 (by rw [hB.2.1]; exact Nat.le_of_ble_eq_true rfl) rfl ?_
      refine tm_iconst hC dL_stretches_15 ?_
      exact tm_iret hC hR dL_stretches_16 (⟨_, κ, σ, 1, 0, f0, by rw [u2_self ho]; exact hd9, ok9, by rw [u2_self ho], hM, hG, rfl, rfl, by omega, ⟨zs, rfl⟩, fun z => by omega⟩)
    · refine tm_catch [⟨0, 10, 13, 21⟩] ⟨0, 10, 17, 13⟩ [] hC (htab.trans rfl) (List.forall_mem_cons.mpr ⟨Or.inr ⟨by decide, _, cl_L_21, nc_iae_iob hNc⟩, fun z hz => absurd hz List.not_mem_nil⟩) rfl (by decide) cl_L_13 ct_iae ?_
      show tm_V x (tm_H x (un Λ Λf)) 0 0 17 [(0, .ref (k_o κ)), (1, .int (I (b))), (2, .int (I (g))), (3, .ref (o))] [.ref (q9)]
      refine tm_astore [(4, .ref (q9)), (0, .ref (k_o κ)), (1, .int (I (b))), (2, .int (I (g))), (3, .ref (o))] hC dL_stretches_17 (by rw [hB.2.1]; exact Nat.le_of_ble_eq_true rfl) rfl ?_
      refine tm_iconst hC dL_stretches_19 ?_
      exact tm_iret hC hR dL_stretches_20 (⟨_, κ, σ, 2, 0, f0, by rw [u2_self ho]; exact hd9, ok9, by rw [u2_self ho], hM, hG, rfl, rfl, by omega, ⟨zs, rfl⟩, fun z => by omega⟩)
  · obtain ⟨Λ9, ⟨rfl, r9, rfl, hS9⟩, hd9, ok9, rfl⟩ := z9
    have hon9 : Λ o = none := by rcases hd9 o with h8 | h8; exact h8; rw [ho] at h8; cases h8
    have hou9 : (un Λ Λf) o = some (.inl (tm_al (tm_T x) 1 f0)) := un_2 hd9 ho
    show tm_V x (tm_H x (un Λ Λf)) 0 0 8 [(0, .ref (k_o κ)), (1, .int (I (b))), (2, .int (I (g))), (3, .ref (o))] [.int (I (r9)), .int (I (0)), .ref (o)]
    refine tm_i2l hC dL_stretches_8 ?_
    refine tm_last2 hC hou9 (by omega) dL_stretches_9 ?_
    obtain ⟨w1, hw2⟩ : ∃ z, z = tm_u2 (un Λ Λf) o (tm_al (tm_T x) 1 (vp_updL f0 (0 : Int).toNat ((I (r9)).toInt64))) := ⟨_, rfl⟩
    show tm_V x (tm_H x (tm_u2 (un Λ Λf) o (tm_al (tm_T x) 1 (vp_updL f0 (0 : Int).toNat ((I (r9)).toInt64))))) 0 0 10 [(0, .ref (k_o κ)), (1, .int (I (b))), (2, .int (I (g))), (3, .ref (o))] []
    rw [← hw2]
    have hw1_o : w1 o = some (.inl (tm_al (tm_T x) 1 (vp_updL f0 (0 : Int).toNat ((I (r9)).toInt64)))) := by rw [hw2]; first | done | exact tm_u2_s
    refine tm_goto 21 hC dL_stretches_10 (by decide) ?_
    refine tm_iconst hC dL_stretches_21 ?_
    exact tm_iret hC hR dL_stretches_22 (⟨_, κ, σ, 0, r9, (vp_updL f0 (0 : Int).toNat ((I (r9)).toInt64)), dj_u2 hd9 hon9, ok9, by rw [hw2, un_u2 hon9], hM, hG, rfl, rfl, by omega, ⟨hS9, rfl⟩, fun _ => rfl⟩)

set_option maxHeartbeats 4000000 in
set_option maxRecDepth 100000 in
theorem h_stretch (γ : tmG) (hst : γ.1.stackTraces = false) (Λ Λf : tmL) (hd : dj Λ Λf) (o1 : okL Λ) (o2 : okL Λf) (κ : KP) (σ : ST) (hM : RC γ.2.2.1 Λ κ σ) (hw : WF0 σ) (hW : WF σ) (hG : grp (s_aj σ) (s_cu σ) (k_cs κ) 0 (s_nm σ)) (o : Nat) (f0 : Nat → Int64) (ho : Λf o = some (.inl (tm_al γ.2.2.1 1 f0))) (b g n e : Int) (hr : (-2147483648 ≤ b ∧ b ≤ 2147483647) ∧ (-2147483648 ≤ g ∧ g ≤ 2147483647) ∧ (-2147483648 ≤ n ∧ n ≤ 2147483647) ∧ (e = 0 ∨ e = 1)) : tm_ConH γ (tm_h2 γ.2.1 γ.2.2.1 γ.2.2.2.1) M_L_stretch [(0, 14, 17, 21), (0, 14, 21, 13)] 9 3 18 [.ref (k_o κ), .int (I (b)), .int (I (g)), .int (I (n)), .int (I (e)), .ref (o)] (un Λ Λf) (fun v w' => ∃ (Λ' : tmL) (κ' : KP) (σ' : ST) (k r : Int) (g' : Nat → Int64), dj Λ' (tm_u2 Λf o (tm_al γ.2.2.1 1 g')) ∧ okL Λ' ∧ un Λ' (tm_u2 Λf o (tm_al γ.2.2.1 1 g')) = w' ∧ RC γ.2.2.1 Λ' κ' σ' ∧ grp (s_aj σ') (s_cu σ') (k_cs κ') 0 (s_nm σ') ∧ k_o κ' = k_o κ ∧ v = some (.int (I k)) ∧ (0 ≤ k ∧ k ≤ 3) ∧ ((Sp_stretch σ b g n e k r) ∧ σ' = σ) ∧ (k = 0 → g' 0 = (I r).toInt64)) := by
  refine tm_conH hst (by decide) (Nat.le_of_ble_eq_true rfl) (fun x hB hR htab hNc => ?_)
  have hg := hB.1
  subst hg
  have hC : tm_C x cL_stretch RL (some FieldType.int) := hB.2.2.2.1
  show tm_V x (tm_H x (un Λ Λf)) 3 18 0 [(0, .ref (k_o κ)), (1, .int (I (b))), (2, .int (I (g))), (3, .int (I (n))), (4, .int (I (e))), (5, .ref (o))] []
  refine tm_aload 5 hC dL_stretch_0 rfl ?_
  refine tm_iconst hC dL_stretch_2 ?_
  refine tm_aload_n 0 hC dL_stretch_3 rfl rfl ?_
  refine tm_iload_n 1 hC dL_stretch_4 rfl rfl ?_
  refine tm_iload_n 2 hC dL_stretch_5 rfl rfl ?_
  refine tm_iload_n 3 hC dL_stretch_6 rfl rfl ?_
  refine tm_iload 4 hC dL_stretch_7 rfl ?_
  have hrec : ∀ H, tm_h2 (tm_D x) (tm_T x) (tm_e0 x) (tm_Fz x) (un Λ Λf) H → _ := tm_rec2 hC (un_1 (rc_o hM)) rfl
  refine tm_less (b' := 3 + 0) (n' := 18 + 0) ⟨by omega, by omega⟩ ?_
  refine tm_callVC (b := 0) (n := 0) (rest := [.int (I (0)), .ref (o)]) hC (fr_conX hd o1 o2 (c_T_stretch (tm_g x) hst Λ κ σ hM hw b g n e hr)) k_L_41 (by rw [hB.2.2.1]; exact ⟨Nat.le_of_ble_eq_true rfl, Nat.le_of_ble_eq_true rfl⟩) rfl hrec rfl (by simp [Value.category]) dL_stretch_9 (fun E9 w9 q9 z9 => ?_) (fun v9 w9 z9 => ?_)
  · obtain ⟨Λ9, ⟨rfl, zx⟩, hd9, ok9, rfl⟩ := z9
    rcases zx with ⟨rfl, zs⟩ | ⟨rfl, zs⟩
    · refine tm_catch [] ⟨0, 14, 17, 21⟩ [⟨0, 14, 21, 13⟩] hC (htab.trans rfl) (fun z hz => absurd hz List.not_mem_nil) rfl (by decide) cl_L_21 ct_iob ?_
      show tm_V x (tm_H x (un Λ Λf)) 0 0 17 [(0, .ref (k_o κ)), (1, .int (I (b))), (2, .int (I (g))), (3, .int (I (n))), (4, .int (I (e))), (5, .ref (o))] [.ref (q9)]
      refine tm_astore [(6, .ref (q9)), (0, .ref (k_o κ)), (1, .int (I (b))), (2, .int (I (g))), (3, .int (I (n))), (4, .int (I (e))), (5, .ref (o))] hC dL_stretch_17 (by rw [hB.2.1]; exact Nat.le_of_ble_eq_true rfl) rfl ?_
      refine tm_iconst hC dL_stretch_19 ?_
      exact tm_iret hC hR dL_stretch_20 (⟨_, κ, σ, 1, 0, f0, by rw [u2_self ho]; exact hd9, ok9, by rw [u2_self ho], hM, hG, rfl, rfl, by omega, ⟨zs, rfl⟩, fun z => by omega⟩)
    · refine tm_catch [⟨0, 14, 17, 21⟩] ⟨0, 14, 21, 13⟩ [] hC (htab.trans rfl) (List.forall_mem_cons.mpr ⟨Or.inr ⟨by decide, _, cl_L_21, nc_iae_iob hNc⟩, fun z hz => absurd hz List.not_mem_nil⟩) rfl (by decide) cl_L_13 ct_iae ?_
      show tm_V x (tm_H x (un Λ Λf)) 0 0 21 [(0, .ref (k_o κ)), (1, .int (I (b))), (2, .int (I (g))), (3, .int (I (n))), (4, .int (I (e))), (5, .ref (o))] [.ref (q9)]
      refine tm_astore [(6, .ref (q9)), (0, .ref (k_o κ)), (1, .int (I (b))), (2, .int (I (g))), (3, .int (I (n))), (4, .int (I (e))), (5, .ref (o))] hC dL_stretch_21 (by rw [hB.2.1]; exact Nat.le_of_ble_eq_true rfl) rfl ?_
      refine tm_iconst hC dL_stretch_23 ?_
      exact tm_iret hC hR dL_stretch_24 (⟨_, κ, σ, 2, 0, f0, by rw [u2_self ho]; exact hd9, ok9, by rw [u2_self ho], hM, hG, rfl, rfl, by omega, ⟨zs, rfl⟩, fun z => by omega⟩)
  · obtain ⟨Λ9, ⟨rfl, r9, rfl, hS9⟩, hd9, ok9, rfl⟩ := z9
    have hon9 : Λ o = none := by rcases hd9 o with h8 | h8; exact h8; rw [ho] at h8; cases h8
    have hou9 : (un Λ Λf) o = some (.inl (tm_al (tm_T x) 1 f0)) := un_2 hd9 ho
    show tm_V x (tm_H x (un Λ Λf)) 0 0 12 [(0, .ref (k_o κ)), (1, .int (I (b))), (2, .int (I (g))), (3, .int (I (n))), (4, .int (I (e))), (5, .ref (o))] [.int (I (r9)), .int (I (0)), .ref (o)]
    refine tm_i2l hC dL_stretch_12 ?_
    refine tm_last2 hC hou9 (by omega) dL_stretch_13 ?_
    obtain ⟨w1, hw2⟩ : ∃ z, z = tm_u2 (un Λ Λf) o (tm_al (tm_T x) 1 (vp_updL f0 (0 : Int).toNat ((I (r9)).toInt64))) := ⟨_, rfl⟩
    show tm_V x (tm_H x (tm_u2 (un Λ Λf) o (tm_al (tm_T x) 1 (vp_updL f0 (0 : Int).toNat ((I (r9)).toInt64))))) 0 0 14 [(0, .ref (k_o κ)), (1, .int (I (b))), (2, .int (I (g))), (3, .int (I (n))), (4, .int (I (e))), (5, .ref (o))] []
    rw [← hw2]
    have hw1_o : w1 o = some (.inl (tm_al (tm_T x) 1 (vp_updL f0 (0 : Int).toNat ((I (r9)).toInt64)))) := by rw [hw2]; first | done | exact tm_u2_s
    refine tm_goto 25 hC dL_stretch_14 (by decide) ?_
    refine tm_iconst hC dL_stretch_25 ?_
    exact tm_iret hC hR dL_stretch_26 (⟨_, κ, σ, 0, r9, (vp_updL f0 (0 : Int).toNat ((I (r9)).toInt64)), dj_u2 hd9 hon9, ok9, by rw [hw2, un_u2 hon9], hM, hG, rfl, rfl, by omega, ⟨hS9, rfl⟩, fun _ => rfl⟩)

set_option maxHeartbeats 4000000 in
set_option maxRecDepth 100000 in
theorem h_fits (γ : tmG) (hst : γ.1.stackTraces = false) (Λ Λf : tmL) (hd : dj Λ Λf) (o1 : okL Λ) (o2 : okL Λf) (κ : KP) (σ : ST) (hM : RC γ.2.2.1 Λ κ σ) (hw : WF0 σ) (hW : WF σ) (hG : grp (s_aj σ) (s_cu σ) (k_cs κ) 0 (s_nm σ)) (o : Nat) (f0 : Nat → Int64) (ho : Λf o = some (.inl (tm_al γ.2.2.1 1 f0))) (p b pl : Int) (hr : (-2147483648 ≤ p ∧ p ≤ 2147483647) ∧ (-2147483648 ≤ b ∧ b ≤ 2147483647) ∧ (-2147483648 ≤ pl ∧ pl ≤ 2147483647)) : tm_ConH γ (tm_h2 γ.2.1 γ.2.2.1 γ.2.2.2.1) M_L_fits [(0, 19, 22, 21)] 8 2 12 [.ref (k_o κ), .int (I (p)), .int (I (b)), .int (I (pl)), .ref (o)] (un Λ Λf) (fun v w' => ∃ (Λ' : tmL) (κ' : KP) (σ' : ST) (k r : Int) (g' : Nat → Int64), dj Λ' (tm_u2 Λf o (tm_al γ.2.2.1 1 g')) ∧ okL Λ' ∧ un Λ' (tm_u2 Λf o (tm_al γ.2.2.1 1 g')) = w' ∧ RC γ.2.2.1 Λ' κ' σ' ∧ grp (s_aj σ') (s_cu σ') (k_cs κ') 0 (s_nm σ') ∧ k_o κ' = k_o κ ∧ v = some (.int (I k)) ∧ (0 ≤ k ∧ k ≤ 3) ∧ ((Sp_fits σ p b pl k r) ∧ σ' = σ) ∧ (k = 0 → g' 0 = (I r).toInt64)) := by
  refine tm_conH hst (by decide) (Nat.le_of_ble_eq_true rfl) (fun x hB hR htab hNc => ?_)
  have hg := hB.1
  subst hg
  have hC : tm_C x cL_fits RL (some FieldType.int) := hB.2.2.2.1
  show tm_V x (tm_H x (un Λ Λf)) 2 12 0 [(0, .ref (k_o κ)), (1, .int (I (p))), (2, .int (I (b))), (3, .int (I (pl))), (4, .ref (o))] []
  refine tm_aload 4 hC dL_fits_0 rfl ?_
  refine tm_iconst hC dL_fits_2 ?_
  refine tm_aload_n 0 hC dL_fits_3 rfl rfl ?_
  refine tm_iload_n 1 hC dL_fits_4 rfl rfl ?_
  refine tm_iload_n 2 hC dL_fits_5 rfl rfl ?_
  refine tm_iload_n 3 hC dL_fits_6 rfl rfl ?_
  have hrec : ∀ H, tm_h2 (tm_D x) (tm_T x) (tm_e0 x) (tm_Fz x) (un Λ Λf) H → _ := tm_rec2 hC (un_1 (rc_o hM)) rfl
  refine tm_less (b' := 2 + 0) (n' := 12 + 0) ⟨by omega, by omega⟩ ?_
  refine tm_callVC (b := 0) (n := 0) (rest := [.int (I (0)), .ref (o)]) hC (fr_conX hd o1 o2 (c_T_fits (tm_g x) hst Λ κ σ hM hw p b pl hr)) k_L_45 (by rw [hB.2.2.1]; exact ⟨Nat.le_of_ble_eq_true rfl, Nat.le_of_ble_eq_true rfl⟩) rfl hrec rfl (by simp [Value.category]) dL_fits_7 (fun E9 w9 q9 z9 => ?_) (fun v9 w9 z9 => ?_)
  · obtain ⟨Λ9, ⟨rfl, zx⟩, hd9, ok9, rfl⟩ := z9
    obtain ⟨rfl, zs⟩ := zx
    refine tm_catch [] ⟨0, 19, 22, 21⟩ [] hC (htab.trans rfl) (fun z hz => absurd hz List.not_mem_nil) rfl (by decide) cl_L_21 ct_iob ?_
    show tm_V x (tm_H x (un Λ Λf)) 0 0 22 [(0, .ref (k_o κ)), (1, .int (I (p))), (2, .int (I (b))), (3, .int (I (pl))), (4, .ref (o))] [.ref (q9)]
    refine tm_astore [(5, .ref (q9)), (0, .ref (k_o κ)), (1, .int (I (p))), (2, .int (I (b))), (3, .int (I (pl))), (4, .ref (o))] hC dL_fits_22 (by rw [hB.2.1]; exact Nat.le_of_ble_eq_true rfl) rfl ?_
    refine tm_iconst hC dL_fits_24 ?_
    exact tm_iret hC hR dL_fits_25 (⟨_, κ, σ, 1, 0, f0, by rw [u2_self ho]; exact hd9, ok9, by rw [u2_self ho], hM, hG, rfl, rfl, by omega, ⟨zs, rfl⟩, fun z => by omega⟩)
  · obtain ⟨Λ9, ⟨rfl, r9, rfl, hS9⟩, hd9, ok9, rfl⟩ := z9
    have hon9 : Λ o = none := by rcases hd9 o with h8 | h8; exact h8; rw [ho] at h8; cases h8
    have hou9 : (un Λ Λf) o = some (.inl (tm_al (tm_T x) 1 f0)) := un_2 hd9 ho
    have hrb9 : 0 ≤ r9 ∧ r9 ≤ 1 := by rcases hS9 with ⟨-, h8⟩ | ⟨-, -, h8⟩; omega; rw [h8]; exact bi_rg _
    show tm_V x (tm_H x (un Λ Λf)) 0 0 10 [(0, .ref (k_o κ)), (1, .int (I (p))), (2, .int (I (b))), (3, .int (I (pl))), (4, .ref (o))] [.int (I (r9)), .int (I (0)), .ref (o)]
    refine tm_if_eq 17 hC dL_fits_10 (by decide) (by omega) (fun c_10 => ?_) (fun c_10 => ?_)
    · refine tm_lconst (w := 0) hC dL_fits_17 rfl ?_
      refine tm_last2 hC hou9 (by omega) dL_fits_18 ?_
      obtain ⟨w1, hw2⟩ : ∃ z, z = tm_u2 (un Λ Λf) o (tm_al (tm_T x) 1 (vp_updL f0 (0 : Int).toNat (0))) := ⟨_, rfl⟩
      show tm_V x (tm_H x (tm_u2 (un Λ Λf) o (tm_al (tm_T x) 1 (vp_updL f0 (0 : Int).toNat (0))))) 0 0 19 [(0, .ref (k_o κ)), (1, .int (I (p))), (2, .int (I (b))), (3, .int (I (pl))), (4, .ref (o))] []
      rw [← hw2]
      have hw1_o : w1 o = some (.inl (tm_al (tm_T x) 1 (vp_updL f0 (0 : Int).toNat (0)))) := by rw [hw2]; first | done | exact tm_u2_s
      refine tm_goto 26 hC dL_fits_19 (by decide) ?_
      refine tm_iconst hC dL_fits_26 ?_
      exact tm_iret hC hR dL_fits_27 (⟨_, κ, σ, 0, r9, (vp_updL f0 (0 : Int).toNat (0)), dj_u2 hd9 hon9, ok9, by rw [hw2, un_u2 hon9], hM, hG, rfl, rfl, by omega, ⟨hS9, rfl⟩, fun _ => (show (0 : Int64) = _ by rw [show r9 = 0 by omega]; rfl)⟩)
    · refine tm_lconst (w := 1) hC dL_fits_13 rfl ?_
      refine tm_goto 18 hC dL_fits_14 (by decide) ?_
      refine tm_last2 hC hou9 (by omega) dL_fits_18 ?_
      obtain ⟨w3, hw4⟩ : ∃ z, z = tm_u2 (un Λ Λf) o (tm_al (tm_T x) 1 (vp_updL f0 (0 : Int).toNat (1))) := ⟨_, rfl⟩
      show tm_V x (tm_H x (tm_u2 (un Λ Λf) o (tm_al (tm_T x) 1 (vp_updL f0 (0 : Int).toNat (1))))) 0 0 19 [(0, .ref (k_o κ)), (1, .int (I (p))), (2, .int (I (b))), (3, .int (I (pl))), (4, .ref (o))] []
      rw [← hw4]
      have hw3_o : w3 o = some (.inl (tm_al (tm_T x) 1 (vp_updL f0 (0 : Int).toNat (1)))) := by rw [hw4]; first | done | exact tm_u2_s
      refine tm_goto 26 hC dL_fits_19 (by decide) ?_
      refine tm_iconst hC dL_fits_26 ?_
      exact tm_iret hC hR dL_fits_27 (⟨_, κ, σ, 0, r9, (vp_updL f0 (0 : Int).toNat (1)), dj_u2 hd9 hon9, ok9, by rw [hw4, un_u2 hon9], hM, hG, rfl, rfl, by omega, ⟨hS9, rfl⟩, fun _ => (show (1 : Int64) = _ by rw [show r9 = 1 by omega]; rfl)⟩)

set_option maxHeartbeats 4000000 in
set_option maxRecDepth 100000 in
theorem h_earliest (γ : tmG) (hst : γ.1.stackTraces = false) (Λ Λf : tmL) (hd : dj Λ Λf) (o1 : okL Λ) (o2 : okL Λf) (κ : KP) (σ : ST) (hM : RC γ.2.2.1 Λ κ σ) (hw : WF0 σ) (hW : WF σ) (hG : grp (s_aj σ) (s_cu σ) (k_cs κ) 0 (s_nm σ)) (o : Nat) (f0 : Nat → Int64) (ho : Λf o = some (.inl (tm_al γ.2.2.1 1 f0))) (p b : Int) (hr : (-2147483648 ≤ p ∧ p ≤ 2147483647) ∧ (-2147483648 ≤ b ∧ b ≤ 2147483647)) : tm_ConH γ (tm_h2 γ.2.1 γ.2.2.1 γ.2.2.2.1) M_L_earliest [(0, 10, 13, 21)] 9 2 12 [.ref (k_o κ), .int (I (p)), .int (I (b)), .ref (o)] (un Λ Λf) (fun v w' => ∃ (Λ' : tmL) (κ' : KP) (σ' : ST) (k r : Int) (g' : Nat → Int64), dj Λ' (tm_u2 Λf o (tm_al γ.2.2.1 1 g')) ∧ okL Λ' ∧ un Λ' (tm_u2 Λf o (tm_al γ.2.2.1 1 g')) = w' ∧ RC γ.2.2.1 Λ' κ' σ' ∧ grp (s_aj σ') (s_cu σ') (k_cs κ') 0 (s_nm σ') ∧ k_o κ' = k_o κ ∧ v = some (.int (I k)) ∧ (0 ≤ k ∧ k ≤ 3) ∧ ((Sp_earliest σ p b k r) ∧ σ' = σ) ∧ (k = 0 → g' 0 = (I r).toInt64)) := by
  refine tm_conH hst (by decide) (Nat.le_of_ble_eq_true rfl) (fun x hB hR htab hNc => ?_)
  have hg := hB.1
  subst hg
  have hC : tm_C x cL_earliest RL (some FieldType.int) := hB.2.2.2.1
  show tm_V x (tm_H x (un Λ Λf)) 2 12 0 [(0, .ref (k_o κ)), (1, .int (I (p))), (2, .int (I (b))), (3, .ref (o))] []
  refine tm_aload_n 3 hC dL_earliest_0 rfl rfl ?_
  refine tm_iconst hC dL_earliest_1 ?_
  refine tm_aload_n 0 hC dL_earliest_2 rfl rfl ?_
  refine tm_iload_n 1 hC dL_earliest_3 rfl rfl ?_
  refine tm_iload_n 2 hC dL_earliest_4 rfl rfl ?_
  have hrec : ∀ H, tm_h2 (tm_D x) (tm_T x) (tm_e0 x) (tm_Fz x) (un Λ Λf) H → _ := tm_rec2 hC (un_1 (rc_o hM)) rfl
  refine tm_less (b' := 2 + 0) (n' := 12 + 0) ⟨by omega, by omega⟩ ?_
  refine tm_callVC (b := 0) (n := 0) (rest := [.int (I (0)), .ref (o)]) hC (fr_conX hd o1 o2 (c_T_earliest (tm_g x) hst Λ κ σ hM hw p b hr)) k_L_49 (by rw [hB.2.2.1]; exact ⟨Nat.le_of_ble_eq_true rfl, Nat.le_of_ble_eq_true rfl⟩) rfl hrec rfl (by simp [Value.category]) dL_earliest_5 (fun E9 w9 q9 z9 => ?_) (fun v9 w9 z9 => ?_)
  · obtain ⟨Λ9, ⟨rfl, zx⟩, hd9, ok9, rfl⟩ := z9
    obtain ⟨rfl, zs⟩ := zx
    refine tm_catch [] ⟨0, 10, 13, 21⟩ [] hC (htab.trans rfl) (fun z hz => absurd hz List.not_mem_nil) rfl (by decide) cl_L_21 ct_iob ?_
    show tm_V x (tm_H x (un Λ Λf)) 0 0 13 [(0, .ref (k_o κ)), (1, .int (I (p))), (2, .int (I (b))), (3, .ref (o))] [.ref (q9)]
    refine tm_astore [(4, .ref (q9)), (0, .ref (k_o κ)), (1, .int (I (p))), (2, .int (I (b))), (3, .ref (o))] hC dL_earliest_13 (by rw [hB.2.1]; exact Nat.le_of_ble_eq_true rfl) rfl ?_
    refine tm_iconst hC dL_earliest_15 ?_
    exact tm_iret hC hR dL_earliest_16 (⟨_, κ, σ, 1, 0, f0, by rw [u2_self ho]; exact hd9, ok9, by rw [u2_self ho], hM, hG, rfl, rfl, by omega, ⟨zs, rfl⟩, fun z => by omega⟩)
  · obtain ⟨Λ9, ⟨rfl, r9, rfl, hS9⟩, hd9, ok9, rfl⟩ := z9
    have hon9 : Λ o = none := by rcases hd9 o with h8 | h8; exact h8; rw [ho] at h8; cases h8
    have hou9 : (un Λ Λf) o = some (.inl (tm_al (tm_T x) 1 f0)) := un_2 hd9 ho
    show tm_V x (tm_H x (un Λ Λf)) 0 0 8 [(0, .ref (k_o κ)), (1, .int (I (p))), (2, .int (I (b))), (3, .ref (o))] [.int (I (r9)), .int (I (0)), .ref (o)]
    refine tm_i2l hC dL_earliest_8 ?_
    refine tm_last2 hC hou9 (by omega) dL_earliest_9 ?_
    obtain ⟨w1, hw2⟩ : ∃ z, z = tm_u2 (un Λ Λf) o (tm_al (tm_T x) 1 (vp_updL f0 (0 : Int).toNat ((I (r9)).toInt64))) := ⟨_, rfl⟩
    show tm_V x (tm_H x (tm_u2 (un Λ Λf) o (tm_al (tm_T x) 1 (vp_updL f0 (0 : Int).toNat ((I (r9)).toInt64))))) 0 0 10 [(0, .ref (k_o κ)), (1, .int (I (p))), (2, .int (I (b))), (3, .ref (o))] []
    rw [← hw2]
    have hw1_o : w1 o = some (.inl (tm_al (tm_T x) 1 (vp_updL f0 (0 : Int).toNat ((I (r9)).toInt64)))) := by rw [hw2]; first | done | exact tm_u2_s
    refine tm_goto 17 hC dL_earliest_10 (by decide) ?_
    refine tm_iconst hC dL_earliest_17 ?_
    exact tm_iret hC hR dL_earliest_18 (⟨_, κ, σ, 0, r9, (vp_updL f0 (0 : Int).toNat ((I (r9)).toInt64)), dj_u2 hd9 hon9, ok9, by rw [hw2, un_u2 hon9], hM, hG, rfl, rfl, by omega, ⟨hS9, rfl⟩, fun _ => rfl⟩)

set_option maxHeartbeats 4000000 in
set_option maxRecDepth 100000 in
theorem h_cut (γ : tmG) (hst : γ.1.stackTraces = false) (Λ Λf : tmL) (hd : dj Λ Λf) (o1 : okL Λ) (o2 : okL Λf) (κ : KP) (σ : ST) (hM : RC γ.2.2.1 Λ κ σ) (hw : WF0 σ) (hW : WF σ) (hG : grp (s_aj σ) (s_cu σ) (k_cs κ) 0 (s_nm σ)) (o : Nat) (f0 : Nat → Int64) (ho : Λf o = some (.inl (tm_al γ.2.2.1 1 f0))) (p b pl : Int) (hr : (-2147483648 ≤ p ∧ p ≤ 2147483647) ∧ (-2147483648 ≤ b ∧ b ≤ 2147483647) ∧ (-2147483648 ≤ pl ∧ pl ≤ 2147483647)) : tm_ConH γ (tm_h2 γ.2.1 γ.2.2.1 γ.2.2.2.1) M_L_cut [(0, 12, 15, 21), (0, 12, 19, 15)] 12 8 832 [.ref (k_o κ), .int (I (p)), .int (I (b)), .int (I (pl)), .ref (o)] (un Λ Λf) (fun v w' => ∃ (Λ' : tmL) (κ' : KP) (σ' : ST) (k r : Int) (g' : Nat → Int64), dj Λ' (tm_u2 Λf o (tm_al γ.2.2.1 1 g')) ∧ okL Λ' ∧ un Λ' (tm_u2 Λf o (tm_al γ.2.2.1 1 g')) = w' ∧ RC γ.2.2.1 Λ' κ' σ' ∧ grp (s_aj σ') (s_cu σ') (k_cs κ') 0 (s_nm σ') ∧ k_o κ' = k_o κ ∧ v = some (.int (I k)) ∧ (0 ≤ k ∧ k ≤ 3) ∧ (Sp_cut σ p b pl k σ' r) ∧ (k = 0 → g' 0 = (I r).toInt64)) := by
  refine tm_conH hst (by decide) (Nat.le_of_ble_eq_true rfl) (fun x hB hR htab hNc => ?_)
  have hg := hB.1
  subst hg
  have hC : tm_C x cL_cut RL (some FieldType.int) := hB.2.2.2.1
  show tm_V x (tm_H x (un Λ Λf)) 8 832 0 [(0, .ref (k_o κ)), (1, .int (I (p))), (2, .int (I (b))), (3, .int (I (pl))), (4, .ref (o))] []
  refine tm_aload 4 hC dL_cut_0 rfl ?_
  refine tm_iconst hC dL_cut_2 ?_
  refine tm_aload_n 0 hC dL_cut_3 rfl rfl ?_
  refine tm_iload_n 1 hC dL_cut_4 rfl rfl ?_
  refine tm_iload_n 2 hC dL_cut_5 rfl rfl ?_
  refine tm_iload_n 3 hC dL_cut_6 rfl rfl ?_
  have hrec : ∀ H, tm_h2 (tm_D x) (tm_T x) (tm_e0 x) (tm_Fz x) (un Λ Λf) H → _ := tm_rec2 hC (un_1 (rc_o hM)) rfl
  refine tm_less (b' := 8 + 0) (n' := 832 + 0) ⟨by omega, by omega⟩ ?_
  refine tm_callVC (b := 0) (n := 0) (rest := [.int (I (0)), .ref (o)]) hC (fr_conX hd o1 o2 (c_T_cut (tm_g x) hst Λ κ σ hM hw p b pl hr hW hG)) k_L_52 (by rw [hB.2.2.1]; exact ⟨Nat.le_of_ble_eq_true rfl, Nat.le_of_ble_eq_true rfl⟩) rfl hrec rfl (by simp [Value.category]) dL_cut_7 (fun E9 w9 q9 z9 => ?_) (fun v9 w9 z9 => ?_)
  · obtain ⟨Λ9, ⟨rfl, zx⟩, hd9, ok9, rfl⟩ := z9
    rcases zx with ⟨rfl, zs⟩ | ⟨rfl, zs⟩
    · refine tm_catch [] ⟨0, 12, 15, 21⟩ [⟨0, 12, 19, 15⟩] hC (htab.trans rfl) (fun z hz => absurd hz List.not_mem_nil) rfl (by decide) cl_L_21 ct_iob ?_
      show tm_V x (tm_H x (un Λ Λf)) 0 0 15 [(0, .ref (k_o κ)), (1, .int (I (p))), (2, .int (I (b))), (3, .int (I (pl))), (4, .ref (o))] [.ref (q9)]
      refine tm_astore [(5, .ref (q9)), (0, .ref (k_o κ)), (1, .int (I (p))), (2, .int (I (b))), (3, .int (I (pl))), (4, .ref (o))] hC dL_cut_15 (by rw [hB.2.1]; exact Nat.le_of_ble_eq_true rfl) rfl ?_
      refine tm_iconst hC dL_cut_17 ?_
      exact tm_iret hC hR dL_cut_18 (⟨_, κ, σ, 1, 0, f0, by rw [u2_self ho]; exact hd9, ok9, by rw [u2_self ho], hM, hG, rfl, rfl, by omega, zs, fun z => by omega⟩)
    · refine tm_catch [⟨0, 12, 15, 21⟩] ⟨0, 12, 19, 15⟩ [] hC (htab.trans rfl) (List.forall_mem_cons.mpr ⟨Or.inr ⟨by decide, _, cl_L_21, nc_ise_iob hNc⟩, fun z hz => absurd hz List.not_mem_nil⟩) rfl (by decide) cl_L_15 ct_ise ?_
      show tm_V x (tm_H x (un Λ Λf)) 0 0 19 [(0, .ref (k_o κ)), (1, .int (I (p))), (2, .int (I (b))), (3, .int (I (pl))), (4, .ref (o))] [.ref (q9)]
      refine tm_astore [(5, .ref (q9)), (0, .ref (k_o κ)), (1, .int (I (p))), (2, .int (I (b))), (3, .int (I (pl))), (4, .ref (o))] hC dL_cut_19 (by rw [hB.2.1]; exact Nat.le_of_ble_eq_true rfl) rfl ?_
      refine tm_iconst hC dL_cut_21 ?_
      exact tm_iret hC hR dL_cut_22 (⟨_, κ, σ, 2, 0, f0, by rw [u2_self ho]; exact hd9, ok9, by rw [u2_self ho], hM, hG, rfl, rfl, by omega, zs, fun z => by omega⟩)
  · obtain ⟨Λ9, ⟨κ9, σ9, r9, hRC9, hG9, hko9, rfl, hS9⟩, hd9, ok9, rfl⟩ := z9
    have hon9 : Λ9 o = none := by rcases hd9 o with h8 | h8; exact h8; rw [ho] at h8; cases h8
    have hou9 : (un Λ9 Λf) o = some (.inl (tm_al (tm_T x) 1 f0)) := un_2 hd9 ho
    show tm_V x (tm_H x (un Λ9 Λf)) 0 0 10 [(0, .ref (k_o κ)), (1, .int (I (p))), (2, .int (I (b))), (3, .int (I (pl))), (4, .ref (o))] [.int (I (r9)), .int (I (0)), .ref (o)]
    refine tm_i2l hC dL_cut_10 ?_
    refine tm_last2 hC hou9 (by omega) dL_cut_11 ?_
    obtain ⟨w1, hw2⟩ : ∃ z, z = tm_u2 (un Λ9 Λf) o (tm_al (tm_T x) 1 (vp_updL f0 (0 : Int).toNat ((I (r9)).toInt64))) := ⟨_, rfl⟩
    show tm_V x (tm_H x (tm_u2 (un Λ9 Λf) o (tm_al (tm_T x) 1 (vp_updL f0 (0 : Int).toNat ((I (r9)).toInt64))))) 0 0 12 [(0, .ref (k_o κ)), (1, .int (I (p))), (2, .int (I (b))), (3, .int (I (pl))), (4, .ref (o))] []
    rw [← hw2]
    have hw1_o : w1 o = some (.inl (tm_al (tm_T x) 1 (vp_updL f0 (0 : Int).toNat ((I (r9)).toInt64)))) := by rw [hw2]; first | done | exact tm_u2_s
    refine tm_goto 23 hC dL_cut_12 (by decide) ?_
    refine tm_iconst hC dL_cut_23 ?_
    exact tm_iret hC hR dL_cut_24 (⟨_, κ9, σ9, 0, r9, (vp_updL f0 (0 : Int).toNat ((I (r9)).toInt64)), dj_u2 hd9 hon9, ok9, by rw [hw2, un_u2 hon9], hRC9, hG9, hko9, rfl, by omega, hS9, fun _ => rfl⟩)

set_option maxHeartbeats 4000000 in
set_option maxRecDepth 100000 in
theorem h_join (γ : tmG) (hst : γ.1.stackTraces = false) (Λ Λf : tmL) (hd : dj Λ Λf) (o1 : okL Λ) (o2 : okL Λf) (κ : KP) (σ : ST) (hM : RC γ.2.2.1 Λ κ σ) (hw : WF0 σ) (hW : WF σ) (hG : grp (s_aj σ) (s_cu σ) (k_cs κ) 0 (s_nm σ)) (o : Nat) (f0 : Nat → Int64) (ho : Λf o = some (.inl (tm_al γ.2.2.1 1 f0))) (p a pa len b pb : Int) (hr : (-2147483648 ≤ p ∧ p ≤ 2147483647) ∧ (-2147483648 ≤ a ∧ a ≤ 2147483647) ∧ (-2147483648 ≤ pa ∧ pa ≤ 2147483647) ∧ (-2147483648 ≤ len ∧ len ≤ 2147483647) ∧ (-2147483648 ≤ b ∧ b ≤ 2147483647) ∧ (-2147483648 ≤ pb ∧ pb ≤ 2147483647)) : tm_ConH γ (tm_h2 γ.2.1 γ.2.2.1 γ.2.2.2.1) M_L_join [(0, 18, 21, 21), (0, 18, 25, 13), (0, 18, 29, 15)] 12 9 1231 [.ref (k_o κ), .int (I (p)), .int (I (a)), .int (I (pa)), .int (I (len)), .int (I (b)), .int (I (pb)), .ref (o)] (un Λ Λf) (fun v w' => ∃ (Λ' : tmL) (κ' : KP) (σ' : ST) (k r : Int) (g' : Nat → Int64), dj Λ' (tm_u2 Λf o (tm_al γ.2.2.1 1 g')) ∧ okL Λ' ∧ un Λ' (tm_u2 Λf o (tm_al γ.2.2.1 1 g')) = w' ∧ RC γ.2.2.1 Λ' κ' σ' ∧ grp (s_aj σ') (s_cu σ') (k_cs κ') 0 (s_nm σ') ∧ k_o κ' = k_o κ ∧ v = some (.int (I k)) ∧ (0 ≤ k ∧ k ≤ 3) ∧ (Sp_join σ p a pa len b pb k σ' r) ∧ (k = 0 → g' 0 = (I r).toInt64)) := by
  refine tm_conH hst (by decide) (Nat.le_of_ble_eq_true rfl) (fun x hB hR htab hNc => ?_)
  have hg := hB.1
  subst hg
  have hC : tm_C x cL_join RL (some FieldType.int) := hB.2.2.2.1
  show tm_V x (tm_H x (un Λ Λf)) 9 1231 0 [(0, .ref (k_o κ)), (1, .int (I (p))), (2, .int (I (a))), (3, .int (I (pa))), (4, .int (I (len))), (5, .int (I (b))), (6, .int (I (pb))), (7, .ref (o))] []
  refine tm_aload 7 hC dL_join_0 rfl ?_
  refine tm_iconst hC dL_join_2 ?_
  refine tm_aload_n 0 hC dL_join_3 rfl rfl ?_
  refine tm_iload_n 1 hC dL_join_4 rfl rfl ?_
  refine tm_iload_n 2 hC dL_join_5 rfl rfl ?_
  refine tm_iload_n 3 hC dL_join_6 rfl rfl ?_
  refine tm_iload 4 hC dL_join_7 rfl ?_
  refine tm_iload 5 hC dL_join_9 rfl ?_
  refine tm_iload 6 hC dL_join_11 rfl ?_
  have hrec : ∀ H, tm_h2 (tm_D x) (tm_T x) (tm_e0 x) (tm_Fz x) (un Λ Λf) H → _ := tm_rec2 hC (un_1 (rc_o hM)) rfl
  refine tm_less (b' := 9 + 0) (n' := 1231 + 0) ⟨by omega, by omega⟩ ?_
  refine tm_callVC (b := 0) (n := 0) (rest := [.int (I (0)), .ref (o)]) hC (fr_conX hd o1 o2 (c_T_join (tm_g x) hst Λ κ σ hM hw p a pa len b pb hr hW hG)) k_L_55 (by rw [hB.2.2.1]; exact ⟨Nat.le_of_ble_eq_true rfl, Nat.le_of_ble_eq_true rfl⟩) rfl hrec rfl (by simp [Value.category]) dL_join_13 (fun E9 w9 q9 z9 => ?_) (fun v9 w9 z9 => ?_)
  · obtain ⟨Λ9, ⟨hM9, zx⟩, hd9, ok9, rfl⟩ := z9
    rcases zx with ⟨rfl, zs⟩ | ⟨rfl, zs⟩ | ⟨rfl, zs⟩
    · refine tm_catch [] ⟨0, 18, 21, 21⟩ [⟨0, 18, 25, 13⟩, ⟨0, 18, 29, 15⟩] hC (htab.trans rfl) (fun z hz => absurd hz List.not_mem_nil) rfl (by decide) cl_L_21 ct_iob ?_
      show tm_V x (tm_H x (un Λ9 Λf)) 0 0 21 [(0, .ref (k_o κ)), (1, .int (I (p))), (2, .int (I (a))), (3, .int (I (pa))), (4, .int (I (len))), (5, .int (I (b))), (6, .int (I (pb))), (7, .ref (o))] [.ref (q9)]
      refine tm_astore [(8, .ref (q9)), (0, .ref (k_o κ)), (1, .int (I (p))), (2, .int (I (a))), (3, .int (I (pa))), (4, .int (I (len))), (5, .int (I (b))), (6, .int (I (pb))), (7, .ref (o))] hC dL_join_21 (by rw [hB.2.1]; exact Nat.le_of_ble_eq_true rfl) rfl ?_
      refine tm_iconst hC dL_join_23 ?_
      exact tm_iret hC hR dL_join_24 (⟨_, κ, σ, 1, 0, f0, by rw [u2_self ho]; exact hd9, ok9, by rw [u2_self ho], hM9, hG, rfl, rfl, by omega, zs, fun z => by omega⟩)
    · refine tm_catch [⟨0, 18, 21, 21⟩] ⟨0, 18, 25, 13⟩ [⟨0, 18, 29, 15⟩] hC (htab.trans rfl) (List.forall_mem_cons.mpr ⟨Or.inr ⟨by decide, _, cl_L_21, nc_iae_iob hNc⟩, fun z hz => absurd hz List.not_mem_nil⟩) rfl (by decide) cl_L_13 ct_iae ?_
      show tm_V x (tm_H x (un Λ9 Λf)) 0 0 25 [(0, .ref (k_o κ)), (1, .int (I (p))), (2, .int (I (a))), (3, .int (I (pa))), (4, .int (I (len))), (5, .int (I (b))), (6, .int (I (pb))), (7, .ref (o))] [.ref (q9)]
      refine tm_astore [(8, .ref (q9)), (0, .ref (k_o κ)), (1, .int (I (p))), (2, .int (I (a))), (3, .int (I (pa))), (4, .int (I (len))), (5, .int (I (b))), (6, .int (I (pb))), (7, .ref (o))] hC dL_join_25 (by rw [hB.2.1]; exact Nat.le_of_ble_eq_true rfl) rfl ?_
      refine tm_iconst hC dL_join_27 ?_
      exact tm_iret hC hR dL_join_28 (⟨_, κ, σ, 2, 0, f0, by rw [u2_self ho]; exact hd9, ok9, by rw [u2_self ho], hM9, hG, rfl, rfl, by omega, zs, fun z => by omega⟩)
    · refine tm_catch [⟨0, 18, 21, 21⟩, ⟨0, 18, 25, 13⟩] ⟨0, 18, 29, 15⟩ [] hC (htab.trans rfl) (List.forall_mem_cons.mpr ⟨Or.inr ⟨by decide, _, cl_L_21, nc_ise_iob hNc⟩, List.forall_mem_cons.mpr ⟨Or.inr ⟨by decide, _, cl_L_13, nc_ise_iae hNc⟩, fun z hz => absurd hz List.not_mem_nil⟩⟩) rfl (by decide) cl_L_15 ct_ise ?_
      show tm_V x (tm_H x (un Λ9 Λf)) 0 0 29 [(0, .ref (k_o κ)), (1, .int (I (p))), (2, .int (I (a))), (3, .int (I (pa))), (4, .int (I (len))), (5, .int (I (b))), (6, .int (I (pb))), (7, .ref (o))] [.ref (q9)]
      refine tm_astore [(8, .ref (q9)), (0, .ref (k_o κ)), (1, .int (I (p))), (2, .int (I (a))), (3, .int (I (pa))), (4, .int (I (len))), (5, .int (I (b))), (6, .int (I (pb))), (7, .ref (o))] hC dL_join_29 (by rw [hB.2.1]; exact Nat.le_of_ble_eq_true rfl) rfl ?_
      refine tm_iconst hC dL_join_31 ?_
      exact tm_iret hC hR dL_join_32 (⟨_, κ, σ, 3, 0, f0, by rw [u2_self ho]; exact hd9, ok9, by rw [u2_self ho], hM9, hG, rfl, rfl, by omega, zs, fun z => by omega⟩)
  · obtain ⟨Λ9, ⟨κ9, σ9, r9, hRC9, hG9, hko9, rfl, hS9⟩, hd9, ok9, rfl⟩ := z9
    have hon9 : Λ9 o = none := by rcases hd9 o with h8 | h8; exact h8; rw [ho] at h8; cases h8
    have hou9 : (un Λ9 Λf) o = some (.inl (tm_al (tm_T x) 1 f0)) := un_2 hd9 ho
    show tm_V x (tm_H x (un Λ9 Λf)) 0 0 16 [(0, .ref (k_o κ)), (1, .int (I (p))), (2, .int (I (a))), (3, .int (I (pa))), (4, .int (I (len))), (5, .int (I (b))), (6, .int (I (pb))), (7, .ref (o))] [.int (I (r9)), .int (I (0)), .ref (o)]
    refine tm_i2l hC dL_join_16 ?_
    refine tm_last2 hC hou9 (by omega) dL_join_17 ?_
    obtain ⟨w1, hw2⟩ : ∃ z, z = tm_u2 (un Λ9 Λf) o (tm_al (tm_T x) 1 (vp_updL f0 (0 : Int).toNat ((I (r9)).toInt64))) := ⟨_, rfl⟩
    show tm_V x (tm_H x (tm_u2 (un Λ9 Λf) o (tm_al (tm_T x) 1 (vp_updL f0 (0 : Int).toNat ((I (r9)).toInt64))))) 0 0 18 [(0, .ref (k_o κ)), (1, .int (I (p))), (2, .int (I (a))), (3, .int (I (pa))), (4, .int (I (len))), (5, .int (I (b))), (6, .int (I (pb))), (7, .ref (o))] []
    rw [← hw2]
    have hw1_o : w1 o = some (.inl (tm_al (tm_T x) 1 (vp_updL f0 (0 : Int).toNat ((I (r9)).toInt64)))) := by rw [hw2]; first | done | exact tm_u2_s
    refine tm_goto 33 hC dL_join_18 (by decide) ?_
    refine tm_iconst hC dL_join_33 ?_
    exact tm_iret hC hR dL_join_34 (⟨_, κ9, σ9, 0, r9, (vp_updL f0 (0 : Int).toNat ((I (r9)).toInt64)), dj_u2 hd9 hon9, ok9, by rw [hw2, un_u2 hon9], hRC9, hG9, hko9, rfl, by omega, hS9, fun _ => rfl⟩)

set_option maxHeartbeats 4000000 in
set_option maxRecDepth 100000 in
theorem h_undo (γ : tmG) (hst : γ.1.stackTraces = false) (Λ Λf : tmL) (hd : dj Λ Λf) (o1 : okL Λ) (o2 : okL Λf) (κ : KP) (σ : ST) (hM : RC γ.2.2.1 Λ κ σ) (hw : WF0 σ) (hW : WF σ) (hG : grp (s_aj σ) (s_cu σ) (k_cs κ) 0 (s_nm σ)) (o : Nat) (f0 : Nat → Int64) (ho : Λf o = some (.inl (tm_al γ.2.2.1 1 f0)))   : tm_ConH γ (tm_h2 γ.2.1 γ.2.2.1 γ.2.2.2.1) M_L_undo [(0, 8, 11, 15)] 7 1 6 [.ref (k_o κ), .ref (o)] (un Λ Λf) (fun v w' => ∃ (Λ' : tmL) (κ' : KP) (σ' : ST) (k r : Int) (g' : Nat → Int64), dj Λ' (tm_u2 Λf o (tm_al γ.2.2.1 1 g')) ∧ okL Λ' ∧ un Λ' (tm_u2 Λf o (tm_al γ.2.2.1 1 g')) = w' ∧ RC γ.2.2.1 Λ' κ' σ' ∧ grp (s_aj σ') (s_cu σ') (k_cs κ') 0 (s_nm σ') ∧ k_o κ' = k_o κ ∧ v = some (.int (I k)) ∧ (0 ≤ k ∧ k ≤ 3) ∧ (Sp_undo σ k σ' r) ∧ (k = 0 → g' 0 = (I r).toInt64)) := by
  refine tm_conH hst (by decide) (Nat.le_of_ble_eq_true rfl) (fun x hB hR htab hNc => ?_)
  have hg := hB.1
  subst hg
  have hC : tm_C x cL_undo RL (some FieldType.int) := hB.2.2.2.1
  show tm_V x (tm_H x (un Λ Λf)) 1 6 0 [(0, .ref (k_o κ)), (1, .ref (o))] []
  refine tm_aload_n 1 hC dL_undo_0 rfl rfl ?_
  refine tm_iconst hC dL_undo_1 ?_
  refine tm_aload_n 0 hC dL_undo_2 rfl rfl ?_
  have hrec : ∀ H, tm_h2 (tm_D x) (tm_T x) (tm_e0 x) (tm_Fz x) (un Λ Λf) H → _ := tm_rec2 hC (un_1 (rc_o hM)) rfl
  refine tm_less (b' := 1 + 0) (n' := 6 + 0) ⟨by omega, by omega⟩ ?_
  refine tm_callVC (b := 0) (n := 0) (rest := [.int (I (0)), .ref (o)]) hC (fr_conX hd o1 o2 (c_T_undo (tm_g x) hst Λ κ σ hM hw hW hG)) k_L_59 (by rw [hB.2.2.1]; exact ⟨Nat.le_of_ble_eq_true rfl, Nat.le_of_ble_eq_true rfl⟩) rfl hrec rfl (by simp [Value.category]) dL_undo_3 (fun E9 w9 q9 z9 => ?_) (fun v9 w9 z9 => ?_)
  · obtain ⟨Λ9, ⟨rfl, zx⟩, hd9, ok9, rfl⟩ := z9
    obtain ⟨rfl, zs⟩ := zx
    refine tm_catch [] ⟨0, 8, 11, 15⟩ [] hC (htab.trans rfl) (fun z hz => absurd hz List.not_mem_nil) rfl (by decide) cl_L_15 ct_ise ?_
    show tm_V x (tm_H x (un Λ Λf)) 0 0 11 [(0, .ref (k_o κ)), (1, .ref (o))] [.ref (q9)]
    refine tm_astore_n [(2, .ref (q9)), (0, .ref (k_o κ)), (1, .ref (o))] hC dL_undo_11 rfl (by rw [hB.2.1]; exact Nat.le_of_ble_eq_true rfl) rfl ?_
    refine tm_iconst hC dL_undo_12 ?_
    exact tm_iret hC hR dL_undo_13 (⟨_, κ, σ, 1, 0, f0, by rw [u2_self ho]; exact hd9, ok9, by rw [u2_self ho], hM, hG, rfl, rfl, by omega, zs, fun z => by omega⟩)
  · obtain ⟨Λ9, ⟨κ9, σ9, r9, hRC9, hG9, hko9, rfl, hS9⟩, hd9, ok9, rfl⟩ := z9
    have hon9 : Λ9 o = none := by rcases hd9 o with h8 | h8; exact h8; rw [ho] at h8; cases h8
    have hou9 : (un Λ9 Λf) o = some (.inl (tm_al (tm_T x) 1 f0)) := un_2 hd9 ho
    show tm_V x (tm_H x (un Λ9 Λf)) 0 0 6 [(0, .ref (k_o κ)), (1, .ref (o))] [.int (I (r9)), .int (I (0)), .ref (o)]
    refine tm_i2l hC dL_undo_6 ?_
    refine tm_last2 hC hou9 (by omega) dL_undo_7 ?_
    obtain ⟨w1, hw2⟩ : ∃ z, z = tm_u2 (un Λ9 Λf) o (tm_al (tm_T x) 1 (vp_updL f0 (0 : Int).toNat ((I (r9)).toInt64))) := ⟨_, rfl⟩
    show tm_V x (tm_H x (tm_u2 (un Λ9 Λf) o (tm_al (tm_T x) 1 (vp_updL f0 (0 : Int).toNat ((I (r9)).toInt64))))) 0 0 8 [(0, .ref (k_o κ)), (1, .ref (o))] []
    rw [← hw2]
    have hw1_o : w1 o = some (.inl (tm_al (tm_T x) 1 (vp_updL f0 (0 : Int).toNat ((I (r9)).toInt64)))) := by rw [hw2]; first | done | exact tm_u2_s
    refine tm_goto 14 hC dL_undo_8 (by decide) ?_
    refine tm_iconst hC dL_undo_14 ?_
    exact tm_iret hC hR dL_undo_15 (⟨_, κ9, σ9, 0, r9, (vp_updL f0 (0 : Int).toNat ((I (r9)).toInt64)), dj_u2 hd9 hon9, ok9, by rw [hw2, un_u2 hon9], hRC9, hG9, hko9, rfl, by omega, hS9, fun _ => rfl⟩)

set_option maxHeartbeats 4000000 in
set_option maxRecDepth 100000 in
theorem h_left (γ : tmG) (hst : γ.1.stackTraces = false) (Λ Λf : tmL) (hd : dj Λ Λf) (o1 : okL Λ) (o2 : okL Λf) (κ : KP) (σ : ST) (hM : RC γ.2.2.1 Λ κ σ) (hw : WF0 σ) (hW : WF σ) (hG : grp (s_aj σ) (s_cu σ) (k_cs κ) 0 (s_nm σ)) (o : Nat) (f0 : Nat → Int64) (ho : Λf o = some (.inl (tm_al γ.2.2.1 1 f0))) (p : Int) (hr : (-2147483648 ≤ p ∧ p ≤ 2147483647)) : tm_ConH γ (tm_h2 γ.2.1 γ.2.2.1 γ.2.2.2.1) M_L_left [(0, 9, 12, 21)] 8 1 6 [.ref (k_o κ), .int (I (p)), .ref (o)] (un Λ Λf) (fun v w' => ∃ (Λ' : tmL) (κ' : KP) (σ' : ST) (k r : Int) (g' : Nat → Int64), dj Λ' (tm_u2 Λf o (tm_al γ.2.2.1 1 g')) ∧ okL Λ' ∧ un Λ' (tm_u2 Λf o (tm_al γ.2.2.1 1 g')) = w' ∧ RC γ.2.2.1 Λ' κ' σ' ∧ grp (s_aj σ') (s_cu σ') (k_cs κ') 0 (s_nm σ') ∧ k_o κ' = k_o κ ∧ v = some (.int (I k)) ∧ (0 ≤ k ∧ k ≤ 3) ∧ ((Sp_left σ p k r) ∧ σ' = σ) ∧ (k = 0 → g' 0 = (I r).toInt64)) := by
  refine tm_conH hst (by decide) (Nat.le_of_ble_eq_true rfl) (fun x hB hR htab hNc => ?_)
  have hg := hB.1
  subst hg
  have hC : tm_C x cL_left RL (some FieldType.int) := hB.2.2.2.1
  show tm_V x (tm_H x (un Λ Λf)) 1 6 0 [(0, .ref (k_o κ)), (1, .int (I (p))), (2, .ref (o))] []
  refine tm_aload_n 2 hC dL_left_0 rfl rfl ?_
  refine tm_iconst hC dL_left_1 ?_
  refine tm_aload_n 0 hC dL_left_2 rfl rfl ?_
  refine tm_iload_n 1 hC dL_left_3 rfl rfl ?_
  have hrec : ∀ H, tm_h2 (tm_D x) (tm_T x) (tm_e0 x) (tm_Fz x) (un Λ Λf) H → _ := tm_rec2 hC (un_1 (rc_o hM)) rfl
  refine tm_less (b' := 1 + 0) (n' := 6 + 0) ⟨by omega, by omega⟩ ?_
  refine tm_callVC (b := 0) (n := 0) (rest := [.int (I (0)), .ref (o)]) hC (fr_conX hd o1 o2 (c_T_left (tm_g x) hst Λ κ σ hM hw p hr)) k_L_63 (by rw [hB.2.2.1]; exact ⟨Nat.le_of_ble_eq_true rfl, Nat.le_of_ble_eq_true rfl⟩) rfl hrec rfl (by simp [Value.category]) dL_left_4 (fun E9 w9 q9 z9 => ?_) (fun v9 w9 z9 => ?_)
  · obtain ⟨Λ9, ⟨rfl, zx⟩, hd9, ok9, rfl⟩ := z9
    obtain ⟨rfl, zs⟩ := zx
    refine tm_catch [] ⟨0, 9, 12, 21⟩ [] hC (htab.trans rfl) (fun z hz => absurd hz List.not_mem_nil) rfl (by decide) cl_L_21 ct_iob ?_
    show tm_V x (tm_H x (un Λ Λf)) 0 0 12 [(0, .ref (k_o κ)), (1, .int (I (p))), (2, .ref (o))] [.ref (q9)]
    refine tm_astore_n [(3, .ref (q9)), (0, .ref (k_o κ)), (1, .int (I (p))), (2, .ref (o))] hC dL_left_12 rfl (by rw [hB.2.1]; exact Nat.le_of_ble_eq_true rfl) rfl ?_
    refine tm_iconst hC dL_left_13 ?_
    exact tm_iret hC hR dL_left_14 (⟨_, κ, σ, 1, 0, f0, by rw [u2_self ho]; exact hd9, ok9, by rw [u2_self ho], hM, hG, rfl, rfl, by omega, ⟨zs, rfl⟩, fun z => by omega⟩)
  · obtain ⟨Λ9, ⟨rfl, r9, rfl, hS9⟩, hd9, ok9, rfl⟩ := z9
    have hon9 : Λ o = none := by rcases hd9 o with h8 | h8; exact h8; rw [ho] at h8; cases h8
    have hou9 : (un Λ Λf) o = some (.inl (tm_al (tm_T x) 1 f0)) := un_2 hd9 ho
    show tm_V x (tm_H x (un Λ Λf)) 0 0 7 [(0, .ref (k_o κ)), (1, .int (I (p))), (2, .ref (o))] [.int (I (r9)), .int (I (0)), .ref (o)]
    refine tm_i2l hC dL_left_7 ?_
    refine tm_last2 hC hou9 (by omega) dL_left_8 ?_
    obtain ⟨w1, hw2⟩ : ∃ z, z = tm_u2 (un Λ Λf) o (tm_al (tm_T x) 1 (vp_updL f0 (0 : Int).toNat ((I (r9)).toInt64))) := ⟨_, rfl⟩
    show tm_V x (tm_H x (tm_u2 (un Λ Λf) o (tm_al (tm_T x) 1 (vp_updL f0 (0 : Int).toNat ((I (r9)).toInt64))))) 0 0 9 [(0, .ref (k_o κ)), (1, .int (I (p))), (2, .ref (o))] []
    rw [← hw2]
    have hw1_o : w1 o = some (.inl (tm_al (tm_T x) 1 (vp_updL f0 (0 : Int).toNat ((I (r9)).toInt64)))) := by rw [hw2]; first | done | exact tm_u2_s
    refine tm_goto 15 hC dL_left_9 (by decide) ?_
    refine tm_iconst hC dL_left_15 ?_
    exact tm_iret hC hR dL_left_16 (⟨_, κ, σ, 0, r9, (vp_updL f0 (0 : Int).toNat ((I (r9)).toInt64)), dj_u2 hd9 hon9, ok9, by rw [hw2, un_u2 hon9], hM, hG, rfl, rfl, by omega, ⟨hS9, rfl⟩, fun _ => rfl⟩)

set_option maxHeartbeats 4000000 in
set_option maxRecDepth 100000 in
theorem h_pieces (γ : tmG) (hst : γ.1.stackTraces = false) (Λ Λf : tmL) (hd : dj Λ Λf) (o1 : okL Λ) (o2 : okL Λf) (κ : KP) (σ : ST) (hM : RC γ.2.2.1 Λ κ σ) (hw : WF0 σ) (hW : WF σ) (hG : grp (s_aj σ) (s_cu σ) (k_cs κ) 0 (s_nm σ)) (o : Nat) (f0 : Nat → Int64) (ho : Λf o = some (.inl (tm_al γ.2.2.1 1 f0))) (b : Int) (hr : (-2147483648 ≤ b ∧ b ≤ 2147483647)) : tm_ConH γ (tm_h2 γ.2.1 γ.2.2.1 γ.2.2.2.1) M_L_pieces [(0, 9, 12, 21)] 8 1 6 [.ref (k_o κ), .int (I (b)), .ref (o)] (un Λ Λf) (fun v w' => ∃ (Λ' : tmL) (κ' : KP) (σ' : ST) (k r : Int) (g' : Nat → Int64), dj Λ' (tm_u2 Λf o (tm_al γ.2.2.1 1 g')) ∧ okL Λ' ∧ un Λ' (tm_u2 Λf o (tm_al γ.2.2.1 1 g')) = w' ∧ RC γ.2.2.1 Λ' κ' σ' ∧ grp (s_aj σ') (s_cu σ') (k_cs κ') 0 (s_nm σ') ∧ k_o κ' = k_o κ ∧ v = some (.int (I k)) ∧ (0 ≤ k ∧ k ≤ 3) ∧ ((Sp_pieces σ b k r) ∧ σ' = σ) ∧ (k = 0 → g' 0 = (I r).toInt64)) := by
  refine tm_conH hst (by decide) (Nat.le_of_ble_eq_true rfl) (fun x hB hR htab hNc => ?_)
  have hg := hB.1
  subst hg
  have hC : tm_C x cL_pieces RL (some FieldType.int) := hB.2.2.2.1
  show tm_V x (tm_H x (un Λ Λf)) 1 6 0 [(0, .ref (k_o κ)), (1, .int (I (b))), (2, .ref (o))] []
  refine tm_aload_n 2 hC dL_pieces_0 rfl rfl ?_
  refine tm_iconst hC dL_pieces_1 ?_
  refine tm_aload_n 0 hC dL_pieces_2 rfl rfl ?_
  refine tm_iload_n 1 hC dL_pieces_3 rfl rfl ?_
  have hrec : ∀ H, tm_h2 (tm_D x) (tm_T x) (tm_e0 x) (tm_Fz x) (un Λ Λf) H → _ := tm_rec2 hC (un_1 (rc_o hM)) rfl
  refine tm_less (b' := 1 + 0) (n' := 6 + 0) ⟨by omega, by omega⟩ ?_
  refine tm_callVC (b := 0) (n := 0) (rest := [.int (I (0)), .ref (o)]) hC (fr_conX hd o1 o2 (c_T_pieces (tm_g x) hst Λ κ σ hM hw b hr)) k_L_66 (by rw [hB.2.2.1]; exact ⟨Nat.le_of_ble_eq_true rfl, Nat.le_of_ble_eq_true rfl⟩) rfl hrec rfl (by simp [Value.category]) dL_pieces_4 (fun E9 w9 q9 z9 => ?_) (fun v9 w9 z9 => ?_)
  · obtain ⟨Λ9, ⟨rfl, zx⟩, hd9, ok9, rfl⟩ := z9
    obtain ⟨rfl, zs⟩ := zx
    refine tm_catch [] ⟨0, 9, 12, 21⟩ [] hC (htab.trans rfl) (fun z hz => absurd hz List.not_mem_nil) rfl (by decide) cl_L_21 ct_iob ?_
    show tm_V x (tm_H x (un Λ Λf)) 0 0 12 [(0, .ref (k_o κ)), (1, .int (I (b))), (2, .ref (o))] [.ref (q9)]
    refine tm_astore_n [(3, .ref (q9)), (0, .ref (k_o κ)), (1, .int (I (b))), (2, .ref (o))] hC dL_pieces_12 rfl (by rw [hB.2.1]; exact Nat.le_of_ble_eq_true rfl) rfl ?_
    refine tm_iconst hC dL_pieces_13 ?_
    exact tm_iret hC hR dL_pieces_14 (⟨_, κ, σ, 1, 0, f0, by rw [u2_self ho]; exact hd9, ok9, by rw [u2_self ho], hM, hG, rfl, rfl, by omega, ⟨zs, rfl⟩, fun z => by omega⟩)
  · obtain ⟨Λ9, ⟨rfl, r9, rfl, hS9⟩, hd9, ok9, rfl⟩ := z9
    have hon9 : Λ o = none := by rcases hd9 o with h8 | h8; exact h8; rw [ho] at h8; cases h8
    have hou9 : (un Λ Λf) o = some (.inl (tm_al (tm_T x) 1 f0)) := un_2 hd9 ho
    show tm_V x (tm_H x (un Λ Λf)) 0 0 7 [(0, .ref (k_o κ)), (1, .int (I (b))), (2, .ref (o))] [.int (I (r9)), .int (I (0)), .ref (o)]
    refine tm_i2l hC dL_pieces_7 ?_
    refine tm_last2 hC hou9 (by omega) dL_pieces_8 ?_
    obtain ⟨w1, hw2⟩ : ∃ z, z = tm_u2 (un Λ Λf) o (tm_al (tm_T x) 1 (vp_updL f0 (0 : Int).toNat ((I (r9)).toInt64))) := ⟨_, rfl⟩
    show tm_V x (tm_H x (tm_u2 (un Λ Λf) o (tm_al (tm_T x) 1 (vp_updL f0 (0 : Int).toNat ((I (r9)).toInt64))))) 0 0 9 [(0, .ref (k_o κ)), (1, .int (I (b))), (2, .ref (o))] []
    rw [← hw2]
    have hw1_o : w1 o = some (.inl (tm_al (tm_T x) 1 (vp_updL f0 (0 : Int).toNat ((I (r9)).toInt64)))) := by rw [hw2]; first | done | exact tm_u2_s
    refine tm_goto 15 hC dL_pieces_9 (by decide) ?_
    refine tm_iconst hC dL_pieces_15 ?_
    exact tm_iret hC hR dL_pieces_16 (⟨_, κ, σ, 0, r9, (vp_updL f0 (0 : Int).toNat ((I (r9)).toInt64)), dj_u2 hd9 hon9, ok9, by rw [hw2, un_u2 hon9], hM, hG, rfl, rfl, by omega, ⟨hS9, rfl⟩, fun _ => rfl⟩)

set_option maxHeartbeats 4000000 in
set_option maxRecDepth 100000 in
theorem h_piece (γ : tmG) (hst : γ.1.stackTraces = false) (Λ Λf : tmL) (hd : dj Λ Λf) (o1 : okL Λ) (o2 : okL Λf) (κ : KP) (σ : ST) (hM : RC γ.2.2.1 Λ κ σ) (hw : WF0 σ) (hW : WF σ) (hG : grp (s_aj σ) (s_cu σ) (k_cs κ) 0 (s_nm σ)) (o : Nat) (f0 : Nat → Int64) (ho : Λf o = some (.inl (tm_al γ.2.2.1 1 f0))) (b i w : Int) (hr : (-2147483648 ≤ b ∧ b ≤ 2147483647) ∧ (-2147483648 ≤ i ∧ i ≤ 2147483647) ∧ (-2147483648 ≤ w ∧ w ≤ 2147483647)) : tm_ConH γ (tm_h2 γ.2.1 γ.2.2.1 γ.2.2.2.1) M_L_piece [(0, 12, 15, 21)] 8 3 18 [.ref (k_o κ), .int (I (b)), .int (I (i)), .int (I (w)), .ref (o)] (un Λ Λf) (fun v w' => ∃ (Λ' : tmL) (κ' : KP) (σ' : ST) (k r : Int) (g' : Nat → Int64), dj Λ' (tm_u2 Λf o (tm_al γ.2.2.1 1 g')) ∧ okL Λ' ∧ un Λ' (tm_u2 Λf o (tm_al γ.2.2.1 1 g')) = w' ∧ RC γ.2.2.1 Λ' κ' σ' ∧ grp (s_aj σ') (s_cu σ') (k_cs κ') 0 (s_nm σ') ∧ k_o κ' = k_o κ ∧ v = some (.int (I k)) ∧ (0 ≤ k ∧ k ≤ 3) ∧ ((Sp_piece σ b i w k r) ∧ σ' = σ) ∧ (k = 0 → g' 0 = (I r).toInt64)) := by
  refine tm_conH hst (by decide) (Nat.le_of_ble_eq_true rfl) (fun x hB hR htab hNc => ?_)
  have hg := hB.1
  subst hg
  have hC : tm_C x cL_piece RL (some FieldType.int) := hB.2.2.2.1
  show tm_V x (tm_H x (un Λ Λf)) 3 18 0 [(0, .ref (k_o κ)), (1, .int (I (b))), (2, .int (I (i))), (3, .int (I (w))), (4, .ref (o))] []
  refine tm_aload 4 hC dL_piece_0 rfl ?_
  refine tm_iconst hC dL_piece_2 ?_
  refine tm_aload_n 0 hC dL_piece_3 rfl rfl ?_
  refine tm_iload_n 1 hC dL_piece_4 rfl rfl ?_
  refine tm_iload_n 2 hC dL_piece_5 rfl rfl ?_
  refine tm_iload_n 3 hC dL_piece_6 rfl rfl ?_
  have hrec : ∀ H, tm_h2 (tm_D x) (tm_T x) (tm_e0 x) (tm_Fz x) (un Λ Λf) H → _ := tm_rec2 hC (un_1 (rc_o hM)) rfl
  refine tm_less (b' := 3 + 0) (n' := 18 + 0) ⟨by omega, by omega⟩ ?_
  refine tm_callVC (b := 0) (n := 0) (rest := [.int (I (0)), .ref (o)]) hC (fr_conX hd o1 o2 (c_T_piece (tm_g x) hst Λ κ σ hM hw b i w hr)) k_L_69 (by rw [hB.2.2.1]; exact ⟨Nat.le_of_ble_eq_true rfl, Nat.le_of_ble_eq_true rfl⟩) rfl hrec rfl (by simp [Value.category]) dL_piece_7 (fun E9 w9 q9 z9 => ?_) (fun v9 w9 z9 => ?_)
  · obtain ⟨Λ9, ⟨rfl, zx⟩, hd9, ok9, rfl⟩ := z9
    obtain ⟨rfl, zs⟩ := zx
    refine tm_catch [] ⟨0, 12, 15, 21⟩ [] hC (htab.trans rfl) (fun z hz => absurd hz List.not_mem_nil) rfl (by decide) cl_L_21 ct_iob ?_
    show tm_V x (tm_H x (un Λ Λf)) 0 0 15 [(0, .ref (k_o κ)), (1, .int (I (b))), (2, .int (I (i))), (3, .int (I (w))), (4, .ref (o))] [.ref (q9)]
    refine tm_astore [(5, .ref (q9)), (0, .ref (k_o κ)), (1, .int (I (b))), (2, .int (I (i))), (3, .int (I (w))), (4, .ref (o))] hC dL_piece_15 (by rw [hB.2.1]; exact Nat.le_of_ble_eq_true rfl) rfl ?_
    refine tm_iconst hC dL_piece_17 ?_
    exact tm_iret hC hR dL_piece_18 (⟨_, κ, σ, 1, 0, f0, by rw [u2_self ho]; exact hd9, ok9, by rw [u2_self ho], hM, hG, rfl, rfl, by omega, ⟨zs, rfl⟩, fun z => by omega⟩)
  · obtain ⟨Λ9, ⟨rfl, r9, rfl, hS9⟩, hd9, ok9, rfl⟩ := z9
    have hon9 : Λ o = none := by rcases hd9 o with h8 | h8; exact h8; rw [ho] at h8; cases h8
    have hou9 : (un Λ Λf) o = some (.inl (tm_al (tm_T x) 1 f0)) := un_2 hd9 ho
    show tm_V x (tm_H x (un Λ Λf)) 0 0 10 [(0, .ref (k_o κ)), (1, .int (I (b))), (2, .int (I (i))), (3, .int (I (w))), (4, .ref (o))] [.int (I (r9)), .int (I (0)), .ref (o)]
    refine tm_i2l hC dL_piece_10 ?_
    refine tm_last2 hC hou9 (by omega) dL_piece_11 ?_
    obtain ⟨w1, hw2⟩ : ∃ z, z = tm_u2 (un Λ Λf) o (tm_al (tm_T x) 1 (vp_updL f0 (0 : Int).toNat ((I (r9)).toInt64))) := ⟨_, rfl⟩
    show tm_V x (tm_H x (tm_u2 (un Λ Λf) o (tm_al (tm_T x) 1 (vp_updL f0 (0 : Int).toNat ((I (r9)).toInt64))))) 0 0 12 [(0, .ref (k_o κ)), (1, .int (I (b))), (2, .int (I (i))), (3, .int (I (w))), (4, .ref (o))] []
    rw [← hw2]
    have hw1_o : w1 o = some (.inl (tm_al (tm_T x) 1 (vp_updL f0 (0 : Int).toNat ((I (r9)).toInt64)))) := by rw [hw2]; first | done | exact tm_u2_s
    refine tm_goto 19 hC dL_piece_12 (by decide) ?_
    refine tm_iconst hC dL_piece_19 ?_
    exact tm_iret hC hR dL_piece_20 (⟨_, κ, σ, 0, r9, (vp_updL f0 (0 : Int).toNat ((I (r9)).toInt64)), dj_u2 hd9 hon9, ok9, by rw [hw2, un_u2 hon9], hM, hG, rfl, rfl, by omega, ⟨hS9, rfl⟩, fun _ => rfl⟩)

set_option maxHeartbeats 4000000 in
set_option maxRecDepth 100000 in
theorem h_cuts (γ : tmG) (hst : γ.1.stackTraces = false) (Λ Λf : tmL) (hd : dj Λ Λf) (o1 : okL Λ) (o2 : okL Λf) (κ : KP) (σ : ST) (hM : RC γ.2.2.1 Λ κ σ) (hw : WF0 σ) (hW : WF σ) (hG : grp (s_aj σ) (s_cu σ) (k_cs κ) 0 (s_nm σ)) (o : Nat) (f0 : Nat → Int64) (ho : Λf o = some (.inl (tm_al γ.2.2.1 1 f0))) (b : Int) (hr : (-2147483648 ≤ b ∧ b ≤ 2147483647)) : tm_ConH γ (tm_h2 γ.2.1 γ.2.2.1 γ.2.2.2.1) M_L_cuts [(0, 9, 12, 21)] 8 1 6 [.ref (k_o κ), .int (I (b)), .ref (o)] (un Λ Λf) (fun v w' => ∃ (Λ' : tmL) (κ' : KP) (σ' : ST) (k r : Int) (g' : Nat → Int64), dj Λ' (tm_u2 Λf o (tm_al γ.2.2.1 1 g')) ∧ okL Λ' ∧ un Λ' (tm_u2 Λf o (tm_al γ.2.2.1 1 g')) = w' ∧ RC γ.2.2.1 Λ' κ' σ' ∧ grp (s_aj σ') (s_cu σ') (k_cs κ') 0 (s_nm σ') ∧ k_o κ' = k_o κ ∧ v = some (.int (I k)) ∧ (0 ≤ k ∧ k ≤ 3) ∧ ((Sp_cuts σ b k r) ∧ σ' = σ) ∧ (k = 0 → g' 0 = (I r).toInt64)) := by
  refine tm_conH hst (by decide) (Nat.le_of_ble_eq_true rfl) (fun x hB hR htab hNc => ?_)
  have hg := hB.1
  subst hg
  have hC : tm_C x cL_cuts RL (some FieldType.int) := hB.2.2.2.1
  show tm_V x (tm_H x (un Λ Λf)) 1 6 0 [(0, .ref (k_o κ)), (1, .int (I (b))), (2, .ref (o))] []
  refine tm_aload_n 2 hC dL_cuts_0 rfl rfl ?_
  refine tm_iconst hC dL_cuts_1 ?_
  refine tm_aload_n 0 hC dL_cuts_2 rfl rfl ?_
  refine tm_iload_n 1 hC dL_cuts_3 rfl rfl ?_
  have hrec : ∀ H, tm_h2 (tm_D x) (tm_T x) (tm_e0 x) (tm_Fz x) (un Λ Λf) H → _ := tm_rec2 hC (un_1 (rc_o hM)) rfl
  refine tm_less (b' := 1 + 0) (n' := 6 + 0) ⟨by omega, by omega⟩ ?_
  refine tm_callVC (b := 0) (n := 0) (rest := [.int (I (0)), .ref (o)]) hC (fr_conX hd o1 o2 (c_T_cuts (tm_g x) hst Λ κ σ hM hw b hr)) k_L_72 (by rw [hB.2.2.1]; exact ⟨Nat.le_of_ble_eq_true rfl, Nat.le_of_ble_eq_true rfl⟩) rfl hrec rfl (by simp [Value.category]) dL_cuts_4 (fun E9 w9 q9 z9 => ?_) (fun v9 w9 z9 => ?_)
  · obtain ⟨Λ9, ⟨rfl, zx⟩, hd9, ok9, rfl⟩ := z9
    obtain ⟨rfl, zs⟩ := zx
    refine tm_catch [] ⟨0, 9, 12, 21⟩ [] hC (htab.trans rfl) (fun z hz => absurd hz List.not_mem_nil) rfl (by decide) cl_L_21 ct_iob ?_
    show tm_V x (tm_H x (un Λ Λf)) 0 0 12 [(0, .ref (k_o κ)), (1, .int (I (b))), (2, .ref (o))] [.ref (q9)]
    refine tm_astore_n [(3, .ref (q9)), (0, .ref (k_o κ)), (1, .int (I (b))), (2, .ref (o))] hC dL_cuts_12 rfl (by rw [hB.2.1]; exact Nat.le_of_ble_eq_true rfl) rfl ?_
    refine tm_iconst hC dL_cuts_13 ?_
    exact tm_iret hC hR dL_cuts_14 (⟨_, κ, σ, 1, 0, f0, by rw [u2_self ho]; exact hd9, ok9, by rw [u2_self ho], hM, hG, rfl, rfl, by omega, ⟨zs, rfl⟩, fun z => by omega⟩)
  · obtain ⟨Λ9, ⟨rfl, r9, rfl, hS9⟩, hd9, ok9, rfl⟩ := z9
    have hon9 : Λ o = none := by rcases hd9 o with h8 | h8; exact h8; rw [ho] at h8; cases h8
    have hou9 : (un Λ Λf) o = some (.inl (tm_al (tm_T x) 1 f0)) := un_2 hd9 ho
    show tm_V x (tm_H x (un Λ Λf)) 0 0 7 [(0, .ref (k_o κ)), (1, .int (I (b))), (2, .ref (o))] [.int (I (r9)), .int (I (0)), .ref (o)]
    refine tm_i2l hC dL_cuts_7 ?_
    refine tm_last2 hC hou9 (by omega) dL_cuts_8 ?_
    obtain ⟨w1, hw2⟩ : ∃ z, z = tm_u2 (un Λ Λf) o (tm_al (tm_T x) 1 (vp_updL f0 (0 : Int).toNat ((I (r9)).toInt64))) := ⟨_, rfl⟩
    show tm_V x (tm_H x (tm_u2 (un Λ Λf) o (tm_al (tm_T x) 1 (vp_updL f0 (0 : Int).toNat ((I (r9)).toInt64))))) 0 0 9 [(0, .ref (k_o κ)), (1, .int (I (b))), (2, .ref (o))] []
    rw [← hw2]
    have hw1_o : w1 o = some (.inl (tm_al (tm_T x) 1 (vp_updL f0 (0 : Int).toNat ((I (r9)).toInt64)))) := by rw [hw2]; first | done | exact tm_u2_s
    refine tm_goto 15 hC dL_cuts_9 (by decide) ?_
    refine tm_iconst hC dL_cuts_15 ?_
    exact tm_iret hC hR dL_cuts_16 (⟨_, κ, σ, 0, r9, (vp_updL f0 (0 : Int).toNat ((I (r9)).toInt64)), dj_u2 hd9 hon9, ok9, by rw [hw2, un_u2 hon9], hM, hG, rfl, rfl, by omega, ⟨hS9, rfl⟩, fun _ => rfl⟩)

set_option maxHeartbeats 4000000 in
set_option maxRecDepth 100000 in
theorem h_longestRoom (γ : tmG) (hst : γ.1.stackTraces = false) (Λ Λf : tmL) (hd : dj Λ Λf) (o1 : okL Λ) (o2 : okL Λf) (κ : KP) (σ : ST) (hM : RC γ.2.2.1 Λ κ σ) (hw : WF0 σ) (hW : WF σ) (hG : grp (s_aj σ) (s_cu σ) (k_cs κ) 0 (s_nm σ)) (o : Nat) (f0 : Nat → Int64) (ho : Λf o = some (.inl (tm_al γ.2.2.1 1 f0))) (b : Int) (hr : (-2147483648 ≤ b ∧ b ≤ 2147483647)) : tm_ConH γ (tm_h2 γ.2.1 γ.2.2.1 γ.2.2.2.1) M_L_longestRoom [(0, 9, 12, 21)] 8 1 6 [.ref (k_o κ), .int (I (b)), .ref (o)] (un Λ Λf) (fun v w' => ∃ (Λ' : tmL) (κ' : KP) (σ' : ST) (k r : Int) (g' : Nat → Int64), dj Λ' (tm_u2 Λf o (tm_al γ.2.2.1 1 g')) ∧ okL Λ' ∧ un Λ' (tm_u2 Λf o (tm_al γ.2.2.1 1 g')) = w' ∧ RC γ.2.2.1 Λ' κ' σ' ∧ grp (s_aj σ') (s_cu σ') (k_cs κ') 0 (s_nm σ') ∧ k_o κ' = k_o κ ∧ v = some (.int (I k)) ∧ (0 ≤ k ∧ k ≤ 3) ∧ ((Sp_longest σ b k r) ∧ σ' = σ) ∧ (k = 0 → g' 0 = (I r).toInt64)) := by
  refine tm_conH hst (by decide) (Nat.le_of_ble_eq_true rfl) (fun x hB hR htab hNc => ?_)
  have hg := hB.1
  subst hg
  have hC : tm_C x cL_longestRoom RL (some FieldType.int) := hB.2.2.2.1
  show tm_V x (tm_H x (un Λ Λf)) 1 6 0 [(0, .ref (k_o κ)), (1, .int (I (b))), (2, .ref (o))] []
  refine tm_aload_n 2 hC dL_longestRoom_0 rfl rfl ?_
  refine tm_iconst hC dL_longestRoom_1 ?_
  refine tm_aload_n 0 hC dL_longestRoom_2 rfl rfl ?_
  refine tm_iload_n 1 hC dL_longestRoom_3 rfl rfl ?_
  have hrec : ∀ H, tm_h2 (tm_D x) (tm_T x) (tm_e0 x) (tm_Fz x) (un Λ Λf) H → _ := tm_rec2 hC (un_1 (rc_o hM)) rfl
  refine tm_less (b' := 1 + 0) (n' := 6 + 0) ⟨by omega, by omega⟩ ?_
  refine tm_callVC (b := 0) (n := 0) (rest := [.int (I (0)), .ref (o)]) hC (fr_conX hd o1 o2 (c_T_longest (tm_g x) hst Λ κ σ hM hw b hr)) k_L_75 (by rw [hB.2.2.1]; exact ⟨Nat.le_of_ble_eq_true rfl, Nat.le_of_ble_eq_true rfl⟩) rfl hrec rfl (by simp [Value.category]) dL_longestRoom_4 (fun E9 w9 q9 z9 => ?_) (fun v9 w9 z9 => ?_)
  · obtain ⟨Λ9, ⟨rfl, zx⟩, hd9, ok9, rfl⟩ := z9
    obtain ⟨rfl, zs⟩ := zx
    refine tm_catch [] ⟨0, 9, 12, 21⟩ [] hC (htab.trans rfl) (fun z hz => absurd hz List.not_mem_nil) rfl (by decide) cl_L_21 ct_iob ?_
    show tm_V x (tm_H x (un Λ Λf)) 0 0 12 [(0, .ref (k_o κ)), (1, .int (I (b))), (2, .ref (o))] [.ref (q9)]
    refine tm_astore_n [(3, .ref (q9)), (0, .ref (k_o κ)), (1, .int (I (b))), (2, .ref (o))] hC dL_longestRoom_12 rfl (by rw [hB.2.1]; exact Nat.le_of_ble_eq_true rfl) rfl ?_
    refine tm_iconst hC dL_longestRoom_13 ?_
    exact tm_iret hC hR dL_longestRoom_14 (⟨_, κ, σ, 1, 0, f0, by rw [u2_self ho]; exact hd9, ok9, by rw [u2_self ho], hM, hG, rfl, rfl, by omega, ⟨zs, rfl⟩, fun z => by omega⟩)
  · obtain ⟨Λ9, ⟨rfl, r9, rfl, hS9⟩, hd9, ok9, rfl⟩ := z9
    have hon9 : Λ o = none := by rcases hd9 o with h8 | h8; exact h8; rw [ho] at h8; cases h8
    have hou9 : (un Λ Λf) o = some (.inl (tm_al (tm_T x) 1 f0)) := un_2 hd9 ho
    show tm_V x (tm_H x (un Λ Λf)) 0 0 7 [(0, .ref (k_o κ)), (1, .int (I (b))), (2, .ref (o))] [.int (I (r9)), .int (I (0)), .ref (o)]
    refine tm_i2l hC dL_longestRoom_7 ?_
    refine tm_last2 hC hou9 (by omega) dL_longestRoom_8 ?_
    obtain ⟨w1, hw2⟩ : ∃ z, z = tm_u2 (un Λ Λf) o (tm_al (tm_T x) 1 (vp_updL f0 (0 : Int).toNat ((I (r9)).toInt64))) := ⟨_, rfl⟩
    show tm_V x (tm_H x (tm_u2 (un Λ Λf) o (tm_al (tm_T x) 1 (vp_updL f0 (0 : Int).toNat ((I (r9)).toInt64))))) 0 0 9 [(0, .ref (k_o κ)), (1, .int (I (b))), (2, .ref (o))] []
    rw [← hw2]
    have hw1_o : w1 o = some (.inl (tm_al (tm_T x) 1 (vp_updL f0 (0 : Int).toNat ((I (r9)).toInt64)))) := by rw [hw2]; first | done | exact tm_u2_s
    refine tm_goto 15 hC dL_longestRoom_9 (by decide) ?_
    refine tm_iconst hC dL_longestRoom_15 ?_
    exact tm_iret hC hR dL_longestRoom_16 (⟨_, κ, σ, 0, r9, (vp_updL f0 (0 : Int).toNat ((I (r9)).toInt64)), dj_u2 hd9 hon9, ok9, by rw [hw2, un_u2 hon9], hM, hG, rfl, rfl, by omega, ⟨hS9, rfl⟩, fun _ => rfl⟩)

set_option maxHeartbeats 4000000 in
set_option maxRecDepth 100000 in
theorem h_bestUse (γ : tmG) (hst : γ.1.stackTraces = false) (Λ Λf : tmL) (hd : dj Λ Λf) (o1 : okL Λ) (o2 : okL Λf) (κ : KP) (σ : ST) (hM : RC γ.2.2.1 Λ κ σ) (hw : WF0 σ) (hW : WF σ) (hG : grp (s_aj σ) (s_cu σ) (k_cs κ) 0 (s_nm σ)) (o : Nat) (f0 : Nat → Int64) (ho : Λf o = some (.inl (tm_al γ.2.2.1 1 f0))) (b g l : Int) (hr : (-2147483648 ≤ b ∧ b ≤ 2147483647) ∧ (-2147483648 ≤ g ∧ g ≤ 2147483647) ∧ (-2147483648 ≤ l ∧ l ≤ 2147483647)) : tm_ConH γ (tm_h2 γ.2.1 γ.2.2.1 γ.2.2.2.1) M_L_bestUse [(0, 12, 15, 21), (0, 12, 19, 13)] 8 3 18 [.ref (k_o κ), .int (I (b)), .int (I (g)), .int (I (l)), .ref (o)] (un Λ Λf) (fun v w' => ∃ (Λ' : tmL) (κ' : KP) (σ' : ST) (k r : Int) (g' : Nat → Int64), dj Λ' (tm_u2 Λf o (tm_al γ.2.2.1 1 g')) ∧ okL Λ' ∧ un Λ' (tm_u2 Λf o (tm_al γ.2.2.1 1 g')) = w' ∧ RC γ.2.2.1 Λ' κ' σ' ∧ grp (s_aj σ') (s_cu σ') (k_cs κ') 0 (s_nm σ') ∧ k_o κ' = k_o κ ∧ v = some (.int (I k)) ∧ (0 ≤ k ∧ k ≤ 3) ∧ ((Sp_best σ b g l k r) ∧ σ' = σ) ∧ (k = 0 → g' 0 = (I r).toInt64)) := by
  refine tm_conH hst (by decide) (Nat.le_of_ble_eq_true rfl) (fun x hB hR htab hNc => ?_)
  have hg := hB.1
  subst hg
  have hC : tm_C x cL_bestUse RL (some FieldType.int) := hB.2.2.2.1
  show tm_V x (tm_H x (un Λ Λf)) 3 18 0 [(0, .ref (k_o κ)), (1, .int (I (b))), (2, .int (I (g))), (3, .int (I (l))), (4, .ref (o))] []
  refine tm_aload 4 hC dL_bestUse_0 rfl ?_
  refine tm_iconst hC dL_bestUse_2 ?_
  refine tm_aload_n 0 hC dL_bestUse_3 rfl rfl ?_
  refine tm_iload_n 1 hC dL_bestUse_4 rfl rfl ?_
  refine tm_iload_n 2 hC dL_bestUse_5 rfl rfl ?_
  refine tm_iload_n 3 hC dL_bestUse_6 rfl rfl ?_
  have hrec : ∀ H, tm_h2 (tm_D x) (tm_T x) (tm_e0 x) (tm_Fz x) (un Λ Λf) H → _ := tm_rec2 hC (un_1 (rc_o hM)) rfl
  refine tm_less (b' := 3 + 0) (n' := 18 + 0) ⟨by omega, by omega⟩ ?_
  refine tm_callVC (b := 0) (n := 0) (rest := [.int (I (0)), .ref (o)]) hC (fr_conX hd o1 o2 (c_T_best (tm_g x) hst Λ κ σ hM hw b g l hr)) k_L_78 (by rw [hB.2.2.1]; exact ⟨Nat.le_of_ble_eq_true rfl, Nat.le_of_ble_eq_true rfl⟩) rfl hrec rfl (by simp [Value.category]) dL_bestUse_7 (fun E9 w9 q9 z9 => ?_) (fun v9 w9 z9 => ?_)
  · obtain ⟨Λ9, ⟨rfl, zx⟩, hd9, ok9, rfl⟩ := z9
    rcases zx with ⟨rfl, zs⟩ | ⟨rfl, zs⟩
    · refine tm_catch [] ⟨0, 12, 15, 21⟩ [⟨0, 12, 19, 13⟩] hC (htab.trans rfl) (fun z hz => absurd hz List.not_mem_nil) rfl (by decide) cl_L_21 ct_iob ?_
      show tm_V x (tm_H x (un Λ Λf)) 0 0 15 [(0, .ref (k_o κ)), (1, .int (I (b))), (2, .int (I (g))), (3, .int (I (l))), (4, .ref (o))] [.ref (q9)]
      refine tm_astore [(5, .ref (q9)), (0, .ref (k_o κ)), (1, .int (I (b))), (2, .int (I (g))), (3, .int (I (l))), (4, .ref (o))] hC dL_bestUse_15 (by rw [hB.2.1]; exact Nat.le_of_ble_eq_true rfl) rfl ?_
      refine tm_iconst hC dL_bestUse_17 ?_
      exact tm_iret hC hR dL_bestUse_18 (⟨_, κ, σ, 1, 0, f0, by rw [u2_self ho]; exact hd9, ok9, by rw [u2_self ho], hM, hG, rfl, rfl, by omega, ⟨zs, rfl⟩, fun z => by omega⟩)
    · refine tm_catch [⟨0, 12, 15, 21⟩] ⟨0, 12, 19, 13⟩ [] hC (htab.trans rfl) (List.forall_mem_cons.mpr ⟨Or.inr ⟨by decide, _, cl_L_21, nc_iae_iob hNc⟩, fun z hz => absurd hz List.not_mem_nil⟩) rfl (by decide) cl_L_13 ct_iae ?_
      show tm_V x (tm_H x (un Λ Λf)) 0 0 19 [(0, .ref (k_o κ)), (1, .int (I (b))), (2, .int (I (g))), (3, .int (I (l))), (4, .ref (o))] [.ref (q9)]
      refine tm_astore [(5, .ref (q9)), (0, .ref (k_o κ)), (1, .int (I (b))), (2, .int (I (g))), (3, .int (I (l))), (4, .ref (o))] hC dL_bestUse_19 (by rw [hB.2.1]; exact Nat.le_of_ble_eq_true rfl) rfl ?_
      refine tm_iconst hC dL_bestUse_21 ?_
      exact tm_iret hC hR dL_bestUse_22 (⟨_, κ, σ, 2, 0, f0, by rw [u2_self ho]; exact hd9, ok9, by rw [u2_self ho], hM, hG, rfl, rfl, by omega, ⟨zs, rfl⟩, fun z => by omega⟩)
  · obtain ⟨Λ9, ⟨f9, r9, hRC9, rfl, hS9⟩, hd9, ok9, rfl⟩ := z9
    have hon9 : Λ9 o = none := by rcases hd9 o with h8 | h8; exact h8; rw [ho] at h8; cases h8
    have hou9 : (un Λ9 Λf) o = some (.inl (tm_al (tm_T x) 1 f0)) := un_2 hd9 ho
    show tm_V x (tm_H x (un Λ9 Λf)) 0 0 10 [(0, .ref (k_o κ)), (1, .int (I (b))), (2, .int (I (g))), (3, .int (I (l))), (4, .ref (o))] [.int (I (r9)), .int (I (0)), .ref (o)]
    refine tm_i2l hC dL_bestUse_10 ?_
    refine tm_last2 hC hou9 (by omega) dL_bestUse_11 ?_
    obtain ⟨w1, hw2⟩ : ∃ z, z = tm_u2 (un Λ9 Λf) o (tm_al (tm_T x) 1 (vp_updL f0 (0 : Int).toNat ((I (r9)).toInt64))) := ⟨_, rfl⟩
    show tm_V x (tm_H x (tm_u2 (un Λ9 Λf) o (tm_al (tm_T x) 1 (vp_updL f0 (0 : Int).toNat ((I (r9)).toInt64))))) 0 0 12 [(0, .ref (k_o κ)), (1, .int (I (b))), (2, .int (I (g))), (3, .int (I (l))), (4, .ref (o))] []
    rw [← hw2]
    have hw1_o : w1 o = some (.inl (tm_al (tm_T x) 1 (vp_updL f0 (0 : Int).toNat ((I (r9)).toInt64)))) := by rw [hw2]; first | done | exact tm_u2_s
    refine tm_goto 23 hC dL_bestUse_12 (by decide) ?_
    refine tm_iconst hC dL_bestUse_23 ?_
    exact tm_iret hC hR dL_bestUse_24 (⟨_, (kSm κ f9), σ, 0, r9, (vp_updL f0 (0 : Int).toNat ((I (r9)).toInt64)), dj_u2 hd9 hon9, ok9, by rw [hw2, un_u2 hon9], hRC9, hG, rfl, rfl, by omega, ⟨hS9, rfl⟩, fun _ => rfl⟩)
