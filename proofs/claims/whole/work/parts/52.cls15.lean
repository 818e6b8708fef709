set_option maxHeartbeats 4000000 in
set_option maxRecDepth 100000 in
theorem c_B_rem2 (γ : tmG) (hst : γ.1.stackTraces = false) (Λ : tmL) (bo bd bp : Nat) (L W G : Int) (ks : List Int) (f : Int → Nat) (k0 : Int) (hbo : Λ bo = some (.inl (.inr (1, [.int (I L), .int (I W), .int (I G), .ref bd, .ref bp])))) (hbp : Λ bp = some (.inr (ks.map f))) (hk : k0 ∈ ks) (hnd : ks.Nodup) (hinj : ∀ k, k ∈ ks → f k = f k0 → k = k0) (hl : ks.length ≤ 400) (hel : ∀ k, k ∈ ks → ∃ (u v : Nat) (a t j : Int), Λ (f k) = some (.inl (.inr (5, [.ref u, .ref v, .int (I a), .int (I t), .int (I j)])))) : tm_Con γ (tm_h2 γ.2.1 γ.2.2.1 γ.2.2.2.1) M_X0_removePiece 4 0 0 [.ref (bo), .ref (f k0)] Λ (fun r w' => tm_ul Λ bp ((ks.filter (fun k => decide (k ≠ k0))).map f) = w' ∧ r = none) := by
  refine tm_con hst (by decide) (Nat.le_of_ble_eq_true rfl) (fun x hB hR => ?_)
  have hg := hB.1
  subst hg
  have hC : tm_C x cX0_removePiece RX0 (none) := hB.2.2.2.1
  have hl9 := hl
  show tm_V x (tm_H x Λ) 0 0 0 [(0, .ref (bo)), (1, .ref (f k0))] []
  refine tm_iconst hC dX0_removePiece_0 ?_
  refine tm_istore_n [(2, .int (I (0))), (0, .ref (bo)), (1, .ref (f k0))] hC dX0_removePiece_1 rfl (by rw [hB.2.1]; exact Nat.le_of_ble_eq_true rfl) rfl ?_
  have hL_2 : ∀ (fu : Nat) (i : Nat), ((i : Int) ≤ (ks.length : Int) ∧ upto ks i (fun k => k ≠ k0)) → (((ks.length : Int) - i).toNat) < fu → tm_V x (tm_H x Λ) 0 0 2 [(0, .ref (bo)), (1, .ref (f k0)), (2, .int (I ((i : Int))))] [] := by
    intro fu
    induction fu with
    | zero => intro i hinv hm; exact absurd hm (Nat.not_lt_zero _)
    | succ fu ih_2 =>
      intro i hinv_2 hm_2
      obtain ⟨hi, hu⟩ := hinv_2
      refine tm_iload_n 2 hC dX0_removePiece_2 rfl rfl ?_
      refine tm_aload_n 0 hC dX0_removePiece_3 rfl rfl ?_
      refine tm_getf2 hC f_X0_16 hbo rfl dX0_removePiece_4 ?_
      refine tm_callV (b := 0) (n := 0) (rest := [.int (I ((i : Int)))]) hC (c_Lsz (tm_g x) hst _ _ _ ((ks.length : Int)) hbp (len_m _ _)) k_X0_29 (by rw [hB.2.2.1]; exact ⟨Nat.le_of_ble_eq_true rfl, Nat.le_of_ble_eq_true rfl⟩) rfl (tm_recL hC hbp) rfl (by simp [Value.category]) dX0_removePiece_7 (fun v_7 w_7 hp_7 => ?_)
      obtain ⟨rfl, rfl⟩ := hp_7
      show tm_V x (tm_H x Λ) 0 0 10 [(0, .ref (bo)), (1, .ref (f k0)), (2, .int (I ((i : Int))))] [.int (I ((ks.length : Int))), .int (I ((i : Int)))]
      refine tm_icmp_ge 41 hC dX0_removePiece_10 (by decide) (by omega) (fun c_10 => ?_) (fun c_10 => ?_)
      · exact tm_vret hC hR dX0_removePiece_41 ((absurd rfl (upto_a hu (by omega) k0 hk)))
      · refine tm_aload_n 0 hC dX0_removePiece_13 rfl rfl ?_
        refine tm_getf2 hC f_X0_16 hbo rfl dX0_removePiece_14 ?_
        refine tm_iload_n 2 hC dX0_removePiece_17 rfl rfl ?_
        have hi9 : i < ks.length := by omega
        obtain ⟨k9, hk9⟩ : ∃ k9, ks[i]? = some k9 := ⟨_, List.getElem?_eq_getElem hi9⟩
        have hg9 : (ks.map f)[((i : Int)).toNat]? = some (f k9) := by rw [show ((i : Int)).toNat = i from rfl, List.getElem?_map, hk9]; rfl
        refine tm_callV (b := 0) (n := 0) (rest := []) hC (c_Lget (tm_g x) hst _ _ _ (i : Int) (f k9) hbp (by omega) hg9) k_X0_33 (by rw [hB.2.2.1]; exact ⟨Nat.le_of_ble_eq_true rfl, Nat.le_of_ble_eq_true rfl⟩) rfl (tm_recL hC hbp) rfl (by decide) dX0_removePiece_18 (fun v_18 w_18 hp_18 => ?_)
        obtain ⟨rfl, rfl⟩ := hp_18
        show tm_V x (tm_H x Λ) 0 0 21 [(0, .ref (bo)), (1, .ref (f k0)), (2, .int (I ((i : Int))))] [.ref (f k9)]
        refine tm_aload_n 1 hC dX0_removePiece_21 rfl rfl ?_
        refine tm_acmp_ne 35 hC dX0_removePiece_22 (by decide) (fun c_22 => ?_) (fun c_22 => ?_)
        · refine tm_iinc 2 [(2, .int (I ((i : Int) + 1))), (0, .ref (bo)), (1, .ref (f k0))] hC dX0_removePiece_35 rfl (by rw [hB.2.1]; exact Nat.le_of_ble_eq_true rfl) rfl ?_
          refine tm_goto 2 hC dX0_removePiece_38 (by decide) ?_
          refine tm_sub (L' := [(0, .ref (bo)), (1, .ref (f k0)), (2, .int (I ((i : Int) + 1)))]) [1, 2, 0] rfl ?_
          exact ih_2  (i + 1) (⟨by omega, upto_s hu hk9 (fun z => c_22 (by rw [z]))⟩) (by omega)
        · refine tm_aload_n 0 hC dX0_removePiece_25 rfl rfl ?_
          refine tm_getf2 hC f_X0_16 hbo rfl dX0_removePiece_26 ?_
          refine tm_iload_n 2 hC dX0_removePiece_29 rfl rfl ?_
          refine tm_callV (b := 0) (n := 0) (rest := []) hC (c_Lrem (tm_g x) hst _ _ (i : Int) (f k9) (ks.map f) hbp (by omega) hg9) k_X0_49 (by rw [hB.2.2.1]; exact ⟨Nat.le_of_ble_eq_true rfl, Nat.le_of_ble_eq_true rfl⟩) rfl (tm_recL hC hbp) rfl (by decide) dX0_removePiece_30 (fun v_30 w_30 hp_30 => ?_)
          obtain ⟨hwr, rfl⟩ := hp_30
          show tm_V x (tm_H x w_30) 0 0 33 [(0, .ref (bo)), (1, .ref (f k0)), (2, .int (I ((i : Int))))] [.ref (f k9)]
          refine tm_pop hC dX0_removePiece_33 rfl ?_
          exact tm_vret hC hR dX0_removePiece_34 (⟨by rw [← hwr, show ((i : Int)).toNat = i from rfl, erase_f ks i hnd (by rw [List.getElem?_map, hk9, show k9 = k0 from hinj k9 (List.mem_of_getElem? hk9) c_22]; rfl) hinj], rfl⟩)
  refine tm_sub (L' := [(0, .ref (bo)), (1, .ref (f k0)), (2, .int (I (0)))]) [1, 2, 0] rfl ?_
  exact hL_2 _ 0 (⟨by omega, upto_0⟩) (Nat.lt_succ_self _)

theorem w_X5_196 : Cond.classLink RX5 196 RX1 ∈ ALL := tm_in1 162 rfl rfl
/-- the pieces' lists, each one without some of its pieces -/
def DL (Λ : tmL) (κ : KP) (σ : ST) (P : Int → Bool) : Prop := ∀ c, 0 ≤ c ∧ c < s_nb σ → Λ (k_bp κ c) = some (.inr (((k_ks κ c).filter P).map (k_pc κ)))
theorem DL_0 {T : ClassId × ClassId × ClassId × ClassId} {Λ : tmL} {κ : KP} {σ : ST} (h : RC T Λ κ σ) : DL Λ κ σ (fun _ => true) := by
  intro c hc
  rw [List.filter_eq_self.mpr (fun _ _ => rfl)]
  exact rc_bp h c hc
theorem DL_s {T : ClassId × ClassId × ClassId × ClassId} {Λ0 Λ : tmL} {κ : KP} {σ : ST} (h : RC T Λ0 κ σ) (hw : WF0 σ) {P : Int → Bool} (hd : DL Λ κ σ P) {k b : Int} (hb : 0 ≤ b ∧ b < s_nb σ) (hk : s_cu σ (4 * k) = b) : DL (tm_ul Λ (k_bp κ b) ((((k_ks κ b).filter P).filter (fun z => decide (z ≠ k))).map (k_pc κ))) κ σ (fun z => P z && decide (z ≠ k)) := by
  intro c hc
  by_cases e : c = b
  · subst e
    rw [tm_ul_s, List.filter_filter]
    refine congrArg (fun l => some (Sum.inr (List.map (k_pc κ) l))) (List.filter_congr (fun z _ => ?_))
    exact Bool.and_comm _ _
  · rw [tm_ul_n (fun z => e (((rc_ap h).2.2.1 c b hc hb).2.2.1 z)), hd c hc]
    refine congrArg (fun l => some (Sum.inr (List.map (k_pc κ) l))) (List.filter_congr (fun z hz => ?_))
    have h1 := ((Srt_mm hw (rc_srt h c hc) z).mp hz).2.1
    rw [decide_eq_true (show z ≠ k from fun y => e (by rw [← h1, y, hk])), Bool.and_true]
theorem DL_e {T : ClassId × ClassId × ClassId × ClassId} {Λ0 Λ : tmL} {κ : KP} {σ : ST} (h : RC T Λ0 κ σ) (hw : WF0 σ) {P : Int → Bool} (hd : DL Λ κ σ P) {m : Int} (hP : ∀ z, 0 ≤ z ∧ z < s_nm σ → P z = decide (z < m)) : ∀ c, 0 ≤ c ∧ c < s_nb σ → Λ (k_bp κ c) = some (.inr (((k_ks κ c).filter (fun z => decide (z < m))).map (k_pc κ))) := by
  intro c hc
  rw [hd c hc]
  refine congrArg (fun l => some (Sum.inr (List.map (k_pc κ) l))) (List.filter_congr (fun z hz => ?_))
  exact hP z ((Srt_mm hw (rc_srt h c hc) z).mp hz).1

set_option maxHeartbeats 4000000 in
set_option maxRecDepth 100000 in
theorem c_T_undo (γ : tmG) (hst : γ.1.stackTraces = false) (Λ : tmL) (κ : KP) (σ : ST) (hM : RC γ.2.2.1 Λ κ σ) (hw : WF0 σ) (hW : WF σ) (hG : grp (s_aj σ) (s_cu σ) (k_cs κ) 0 (s_nm σ)) : tm_ConX γ (tm_h2 γ.2.1 γ.2.2.1 γ.2.2.2.1) M_X5_undo 6 1 6 [.ref (k_o κ)] Λ (fun v w' => ∃ κ' σ' r, RC γ.2.2.1 w' κ' σ' ∧ grp (s_aj σ') (s_cu σ') (k_cs κ') 0 (s_nm σ') ∧ k_o κ' = k_o κ ∧ v = some (.int (I r)) ∧ Sp_undo σ 0 σ' r) (fun E w' => Λ = w' ∧ ((E = "java/lang/IllegalStateException" ∧ Sp_undo σ 1 σ 0))) := by
  refine tm_conX hst (by decide) (Nat.le_of_ble_eq_true rfl) (fun x hB hR hnt => ?_)
  have hg := hB.1
  subst hg
  have hC : tm_C x cX5_undo RX5 (some FieldType.int) := hB.2.2.2.1
  have hn := wf_n hw
  have hca := ca_nil hM hG
  show tm_V x (tm_H x Λ) 1 6 0 [(0, .ref (k_o κ))] []
  refine tm_aload_n 0 hC dX5_undo_0 rfl rfl ?_
  have hx1 := rc_o hM
  refine tm_getf2 hC f_X5_22 hx1 rfl dX5_undo_1 ?_
  refine tm_callV (b := 1) (n := 6) (rest := []) hC (c_LisE (tm_g x) hst _ _ _ (rc_lc hM)) k_X5_113 (by rw [hB.2.2.1]; exact ⟨Nat.le_of_ble_eq_true rfl, Nat.le_of_ble_eq_true rfl⟩) rfl (tm_recL hC (rc_lc hM)) rfl (by decide) dX5_undo_4 (fun v_4 w_4 hp_4 => ?_)
  obtain ⟨rfl, rfl⟩ := hp_4
  show tm_V x (tm_H x Λ) 1 6 7 [(0, .ref (k_o κ))] [.int (I (bi ((k_ca κ).length = 0)))]
  refine tm_ifb_eq 20 hC dX5_undo_7 (by decide) (fun c_7 => ?_) (fun c_7 => ?_)
  · have hz9 : s_nm σ ≠ 0 := fun z => c_7 (hca.mpr (by omega))
    obtain ⟨ca9, c9, hca9, hll9⟩ : ∃ ca9 c9, k_ca κ = ca9 ++ [c9] ∧ ca9.length + 1 = (k_ca κ).length := by
      obtain ⟨l, z, e, f⟩ := snoc_of (l := k_ca κ) (n := (k_ca κ).length - 1) (by omega)
      exact ⟨l, z, e, by omega⟩
    obtain ⟨cs9, j9, hcs9, hg9, hd9⟩ := grp_last (k_cs κ) 0 _ hG (fun z => by rw [z] at hG; have : (0 : Int) = s_nm σ := hG; omega)
    have hgl9 := grp_le _ _ _ hg9
    have hlc9 : ca9.length = cs9.length := by have h1 := (rc_cu hM).2.1; rw [hca9, hcs9, List.length_append, List.length_append, List.length_singleton, List.length_singleton] at h1; omega
    have hj9 : 0 ≤ j9 ∧ j9 < s_nm σ := by omega
    have hkj9 := wf_k hw j9 hj9
    have hp9 : 0 ≤ (s_cu σ (4 * j9 + 3)) ∧ (s_cu σ (4 * j9 + 3)) < s_np σ := by omega
    have hc9 := (rc_cu hM).2.2 cs9.length j9 c9 (by rw [hcs9, List.getElem?_append_right (Nat.le_refl _), Nat.sub_self]; rfl) (by rw [hca9, ← hlc9, List.getElem?_append_right (Nat.le_refl _), Nat.sub_self]; rfl)
    rcases hd9 with ⟨ha9, hn9⟩ | ⟨ha9, ha8, hq9, hn9⟩
    · have hcp9 : Λ c9 = some (.inl (.inr (2, [.ref (k_pa κ (s_cu σ (4 * j9 + 3))), .ref (k_pc κ j9), .null]))) := by have h8 : Λ c9 = (some (.inl (.inr (2, [.ref (k_pa κ (s_cu σ (4 * j9 + 3))), .ref (k_pc κ j9), if s_aj σ j9 = 0 then .null else .ref (k_pc κ (j9 + 1))]))) : Option (va_E ⊕ List Nat)) := hc9; rw [if_pos ha9] at h8; exact h8
      refine tm_aload_n 0 hC dX5_undo_20 rfl rfl ?_
      refine tm_getf2 hC f_X5_22 hx1 rfl dX5_undo_21 ?_
      refine tm_aload_n 0 hC dX5_undo_24 rfl rfl ?_
      refine tm_getf2 hC f_X5_22 hx1 rfl dX5_undo_25 ?_
      refine tm_callV (b := 1) (n := 6) (rest := [.ref (k_lc κ)]) hC (c_Lsz (tm_g x) hst _ _ _ (((k_ca κ).length : Int)) (rc_lc hM) (rfl)) k_X5_54 (by rw [hB.2.2.1]; exact ⟨Nat.le_of_ble_eq_true rfl, Nat.le_of_ble_eq_true rfl⟩) rfl (tm_recL hC (rc_lc hM)) rfl (by simp [Value.category]) dX5_undo_28 (fun v_28 w_28 hp_28 => ?_)
      obtain ⟨rfl, rfl⟩ := hp_28
      show tm_V x (tm_H x Λ) 1 6 31 [(0, .ref (k_o κ))] [.int (I (((k_ca κ).length : Int))), .ref (k_lc κ)]
      refine tm_iconst hC dX5_undo_31 ?_
      refine tm_isub hC dX5_undo_32 ?_
      refine tm_callV (b := 1) (n := 6) (rest := []) hC (c_Lrem (tm_g x) hst _ _ ((k_ca κ).length - 1 : Int) c9 (k_ca κ) (rc_lc hM) (by omega) (by rw [show (((k_ca κ).length : Int) - 1).toNat = ca9.length by omega, hca9, List.getElem?_append_right (Nat.le_refl _), Nat.sub_self]; rfl)) k_X5_207 (by rw [hB.2.2.1]; exact ⟨Nat.le_of_ble_eq_true rfl, Nat.le_of_ble_eq_true rfl⟩) rfl (tm_recL hC (rc_lc hM)) rfl (by decide) dX5_undo_33 (fun v_33 w_33 hp_33 => ?_)
      obtain ⟨hwr9, rfl⟩ := hp_33
      have hwl9 : tm_ul Λ (k_lc κ) ca9 = w_33 := by rw [← hwr9, show (((k_ca κ).length : Int) - 1).toNat = ca9.length by omega, hca9, List.eraseIdx_append_of_length_le (Nat.le_refl _), Nat.sub_self]; simp
      have hRC1 : RC (tm_T x) w_33 (kCs κ ca9 cs9) σ := by rw [← hwl9]; exact RC_cs hM ⟨j9, by omega, hg9⟩ hlc9 (fun i j c h1 h2 => (rc_cu hM).2.2 i j c (by rw [hcs9, List.getElem?_append_left (List.getElem?_eq_some_iff.mp h1).1]; exact h1) (by rw [hca9, List.getElem?_append_left (List.getElem?_eq_some_iff.mp h2).1]; exact h2))
      have hcc9 : w_33 c9 = some (.inl (.inr (2, [.ref (k_pa κ (s_cu σ (4 * j9 + 3))), .ref (k_pc κ j9), .null]))) := by rw [← hwl9, tm_ul_n (fun z => by rw [z, rc_lc hM] at hc9; cases hc9)]; exact hcp9
      have hpj9 := rc_K hRC1 j9 hj9
      show tm_V x (tm_H x w_33) 1 6 36 [(0, .ref (k_o κ))] [.ref (c9)]
      refine tm_cast2 hC hcc9 rfl w_X5_196 dX5_undo_36 ?_
      refine tm_astore_n [(1, .ref (c9)), (0, .ref (k_o κ))] hC dX5_undo_39 rfl (by rw [hB.2.1]; exact Nat.le_of_ble_eq_true rfl) rfl ?_
      refine tm_aload_n 0 hC dX5_undo_40 rfl rfl ?_
      refine tm_getf2 hC f_X5_211 hcc9 rfl dX5_undo_41 ?_
      refine tm_getf2 hC f_X5_215 hpj9 rfl dX5_undo_44 ?_
      refine tm_aload_n 0 hC dX5_undo_47 rfl rfl ?_
      refine tm_getf2 hC f_X5_211 hcc9 rfl dX5_undo_48 ?_
      have hk9 := wf_k hw j9 (by omega)
      have hb9 : 0 ≤ (s_cu σ (4 * j9)) ∧ (s_cu σ (4 * j9)) < s_nb σ := by omega
      have hmm9 : ∀ k, k ∈ k_ks κ (s_cu σ (4 * j9)) ↔ _ := Srt_mm hw (rc_srt hM (s_cu σ (4 * j9)) hb9)
      have hln9 := (rc_len hM hw (s_cu σ (4 * j9)) hb9).1
      have hfl9 : ((k_ks κ (s_cu σ (4 * j9))).filter (fun _ => true)).length ≤ 400 := Nat.le_trans (List.length_filter_le _ _) (by omega)
      refine tm_callVN (b := 1) (n := 6) (rest := []) hC (c_B_rem2 (tm_g x) hst _ _ _ (k_bp κ (s_cu σ (4 * j9))) _ _ _ ((k_ks κ (s_cu σ (4 * j9))).filter (fun _ => true)) (k_pc κ) j9 (rc_B hRC1 (s_cu σ (4 * j9)) (by omega)) ((DL_0 hRC1) (s_cu σ (4 * j9)) hb9) (List.mem_filter.mpr ⟨(hmm9 j9).mpr ⟨by omega, rfl, by omega⟩, rfl⟩) ((Srt_nd hw (rc_srt hM (s_cu σ (4 * j9)) hb9)).filter _) (fun k hk e => (rc_ap hM).2.2.2.2 k j9 ((hmm9 k).mp (List.mem_filter.mp hk).1).1 (by omega) e) hfl9 (fun k hk => ⟨_, _, _, _, _, rc_K hRC1 k ((hmm9 k).mp (List.mem_filter.mp hk).1).1⟩)) k_X5_219 (by rw [hB.2.2.1]; exact ⟨Nat.le_of_ble_eq_true rfl, Nat.le_of_ble_eq_true rfl⟩) rfl (tm_rec2 hC (rc_B hRC1 (s_cu σ (4 * j9)) (by omega)) rfl) rfl (by decide) dX5_undo_51 (fun v_51 w_51 hp_51 => ?_)
      obtain ⟨hwp_51, rfl⟩ := hp_51
      have hDL1 : DL w_51 (kCs κ ca9 cs9) σ (fun z => (fun _ => true) z && decide (z ≠ j9)) := by rw [← hwp_51]; exact DL_s hRC1 hw (DL_0 hRC1) hb9 rfl
      have h8 : w_33 (k_bp κ (s_cu σ (4 * j9))) = _ := (DL_0 hRC1) (s_cu σ (4 * j9)) hb9
      have hsm1 : ∀ (a : Nat) (e : va_E), w_33 a = some (.inl e) → w_51 a = some (.inl e) := fun a e ha => by rw [← hwp_51, tm_ul_n (fun z => by rw [z, h8] at ha; cases ha)]; exact ha
      have hlo1 : ∀ (a : Nat) (e : va_E ⊕ List Nat), w_33 a = some e → (∀ c, 0 ≤ c ∧ c < s_nb σ → a ≠ k_bp κ c) → w_51 a = some e := fun a e ha hne => by rw [← hwp_51, tm_ul_n (hne _ hb9)]; exact ha
      clear hk9 hb9 hmm9 hln9 hfl9 h8
      have hy_51_c9 := hsm1 _ _ hcc9
      have hy_51_k_pc_κ_j9 := hsm1 _ _ hpj9
      have hRC2 : RC (tm_T x) w_51 (kDel (kCs κ ca9 cs9) j9) (setNm σ j9) := RC_del hRC1 hw (by omega) hg9 hlo1 (DL_e hRC1 hw hDL1 (fun z hz => by rw [Bool.true_and, decide_eq_decide]; omega))
      have hpx9 := rc_P hRC2 (s_cu σ (4 * j9 + 3)) hp9
      have hpy9 : w_51 (k_pa κ (s_cu σ (4 * j9 + 3))) = some (.inl (.inr (4, [.int (I (s_cu σ (4 * j9 + 3))), .int (I (s_wa σ (4 * (s_cu σ (4 * j9 + 3)) + 0))), .int (I (s_wa σ (4 * (s_cu σ (4 * j9 + 3)) + 1))), .int (I (s_wa σ (4 * (s_cu σ (4 * j9 + 3)) + 2))), .int (I (s_mj σ (s_cu σ (4 * j9 + 3)))), .int (I (s_wa σ (4 * (s_cu σ (4 * j9 + 3)) + 3)))]))) := hpx9
      show tm_V x (tm_H x w_51) 1 6 54 [(1, .ref (c9)), (0, .ref (k_o κ))] []
      refine tm_aload_n 0 hC dX5_undo_54 rfl rfl ?_
      refine tm_getf2 hC f_X5_223 hy_51_c9 rfl dX5_undo_55 ?_
      refine tm_ifnullN 75 hC dX5_undo_58 (by decide) ?_
      refine tm_aload_n 0 hC dX5_undo_75 rfl rfl ?_
      refine tm_getf2 hC f_X5_226 hy_51_c9 rfl dX5_undo_76 ?_
      refine tm_dup hC dX5_undo_79 rfl ?_
      refine tm_getf2 hC f_X5_159 hpy9 rfl dX5_undo_80 ?_
      refine tm_iconst hC dX5_undo_83 ?_
      refine tm_iadd hC dX5_undo_84 ?_
      refine tm_putf2 hC f_X5_159 hpy9 (tt_4_5 _) (Nat.le_of_ble_eq_true rfl) dX5_undo_85 ?_
      obtain ⟨w2, hw3⟩ : ∃ z, z = tm_u2 w_51 (k_pa κ (s_cu σ (4 * j9 + 3))) (.inr (4, [.int (I ((s_cu σ (4 * j9 + 3)))), .int (I (s_wa σ (4 * (s_cu σ (4 * j9 + 3)) + 0))), .int (I (s_wa σ (4 * (s_cu σ (4 * j9 + 3)) + 1))), .int (I (s_wa σ (4 * (s_cu σ (4 * j9 + 3)) + 2))), .int (I (s_mj σ (s_cu σ (4 * j9 + 3)))), .int (I ((s_wa σ (4 * (s_cu σ (4 * j9 + 3)) + 3)) + 1))])) := ⟨_, rfl⟩
      show tm_V x (tm_H x (tm_u2 w_51 (k_pa κ (s_cu σ (4 * j9 + 3))) (.inr (4, [.int (I ((s_cu σ (4 * j9 + 3)))), .int (I (s_wa σ (4 * (s_cu σ (4 * j9 + 3)) + 0))), .int (I (s_wa σ (4 * (s_cu σ (4 * j9 + 3)) + 1))), .int (I (s_wa σ (4 * (s_cu σ (4 * j9 + 3)) + 2))), .int (I (s_mj σ (s_cu σ (4 * j9 + 3)))), .int (I ((s_wa σ (4 * (s_cu σ (4 * j9 + 3)) + 3)) + 1))])))) 1 6 88 [(1, .ref (c9)), (0, .ref (k_o κ))] []
      rw [← hw3]
      have hw2_k_pa_κ__s_cu_σ__4___j9___3__ : w2 (k_pa κ (s_cu σ (4 * j9 + 3))) = some (.inl (.inr (4, [.int (I ((s_cu σ (4 * j9 + 3)))), .int (I (s_wa σ (4 * (s_cu σ (4 * j9 + 3)) + 0))), .int (I (s_wa σ (4 * (s_cu σ (4 * j9 + 3)) + 1))), .int (I (s_wa σ (4 * (s_cu σ (4 * j9 + 3)) + 2))), .int (I (s_mj σ (s_cu σ (4 * j9 + 3)))), .int (I ((s_wa σ (4 * (s_cu σ (4 * j9 + 3)) + 3)) + 1))]))) := by rw [hw3]; first | done | exact tm_u2_s
      have hw2_c9 := (show w2 c9 = _ by rw [hw3]; exact tm_u2_n (fun z => absurd (hpy9.symm.trans (z ▸ hy_51_c9)) (by intro q; cases q))).trans hy_51_c9
      have hw2_k_pc_κ_j9 := (show w2 (k_pc κ j9) = _ by rw [hw3]; exact tm_u2_n (fun z => absurd (hpy9.symm.trans (z ▸ hy_51_k_pc_κ_j9)) (by intro q; cases q))).trans hy_51_k_pc_κ_j9
      have hRC3 : RC (tm_T x) w2 (kDel (kCs κ ca9 cs9) j9) (more (setNm σ j9) (s_cu σ (4 * j9 + 3))) := by rw [hw3]; exact RC_left hRC2 hp9
      refine tm_aload_n 0 hC dX5_undo_88 rfl rfl ?_
      refine tm_getf2 hC f_X5_226 hw2_c9 rfl dX5_undo_89 ?_
      refine tm_getf2 hC f_X5_108 hw2_k_pa_κ__s_cu_σ__4___j9___3__ rfl dX5_undo_92 ?_
      exact tm_iretX hC hR dX5_undo_95 (⟨_, _, _, hRC3, hg9, rfl, rfl, Or.inr ⟨hz9, rfl, by rw [show s_nm σ - 1 = j9 by omega], by rw [show s_nm σ - 1 = j9 by omega, if_pos ha9, show s_nm σ - 1 = j9 by omega]⟩⟩)
    · have hcp9 : Λ c9 = some (.inl (.inr (2, [.ref (k_pa κ (s_cu σ (4 * j9 + 3))), .ref (k_pc κ j9), .ref (k_pc κ (j9 + 1))]))) := by have h8 : Λ c9 = (some (.inl (.inr (2, [.ref (k_pa κ (s_cu σ (4 * j9 + 3))), .ref (k_pc κ j9), if s_aj σ j9 = 0 then .null else .ref (k_pc κ (j9 + 1))]))) : Option (va_E ⊕ List Nat)) := hc9; rw [if_neg (show ¬ s_aj σ j9 = 0 by omega)] at h8; exact h8
      refine tm_aload_n 0 hC dX5_undo_20 rfl rfl ?_
      refine tm_getf2 hC f_X5_22 hx1 rfl dX5_undo_21 ?_
      refine tm_aload_n 0 hC dX5_undo_24 rfl rfl ?_
      refine tm_getf2 hC f_X5_22 hx1 rfl dX5_undo_25 ?_
      refine tm_callV (b := 1) (n := 6) (rest := [.ref (k_lc κ)]) hC (c_Lsz (tm_g x) hst _ _ _ (((k_ca κ).length : Int)) (rc_lc hM) (rfl)) k_X5_54 (by rw [hB.2.2.1]; exact ⟨Nat.le_of_ble_eq_true rfl, Nat.le_of_ble_eq_true rfl⟩) rfl (tm_recL hC (rc_lc hM)) rfl (by simp [Value.category]) dX5_undo_28 (fun v_28 w_28 hp_28 => ?_)
      obtain ⟨rfl, rfl⟩ := hp_28
      show tm_V x (tm_H x Λ) 1 6 31 [(0, .ref (k_o κ))] [.int (I (((k_ca κ).length : Int))), .ref (k_lc κ)]
      refine tm_iconst hC dX5_undo_31 ?_
      refine tm_isub hC dX5_undo_32 ?_
      refine tm_callV (b := 1) (n := 6) (rest := []) hC (c_Lrem (tm_g x) hst _ _ ((k_ca κ).length - 1 : Int) c9 (k_ca κ) (rc_lc hM) (by omega) (by rw [show (((k_ca κ).length : Int) - 1).toNat = ca9.length by omega, hca9, List.getElem?_append_right (Nat.le_refl _), Nat.sub_self]; rfl)) k_X5_207 (by rw [hB.2.2.1]; exact ⟨Nat.le_of_ble_eq_true rfl, Nat.le_of_ble_eq_true rfl⟩) rfl (tm_recL hC (rc_lc hM)) rfl (by decide) dX5_undo_33 (fun v_33 w_33 hp_33 => ?_)
      obtain ⟨hwr9, rfl⟩ := hp_33
      have hwl9 : tm_ul Λ (k_lc κ) ca9 = w_33 := by rw [← hwr9, show (((k_ca κ).length : Int) - 1).toNat = ca9.length by omega, hca9, List.eraseIdx_append_of_length_le (Nat.le_refl _), Nat.sub_self]; simp
      have hRC1 : RC (tm_T x) w_33 (kCs κ ca9 cs9) σ := by rw [← hwl9]; exact RC_cs hM ⟨j9, by omega, hg9⟩ hlc9 (fun i j c h1 h2 => (rc_cu hM).2.2 i j c (by rw [hcs9, List.getElem?_append_left (List.getElem?_eq_some_iff.mp h1).1]; exact h1) (by rw [hca9, List.getElem?_append_left (List.getElem?_eq_some_iff.mp h2).1]; exact h2))
      have hcc9 : w_33 c9 = some (.inl (.inr (2, [.ref (k_pa κ (s_cu σ (4 * j9 + 3))), .ref (k_pc κ j9), .ref (k_pc κ (j9 + 1))]))) := by rw [← hwl9, tm_ul_n (fun z => by rw [z, rc_lc hM] at hc9; cases hc9)]; exact hcp9
      have hpj9 := rc_K hRC1 j9 hj9
      have hpk9 := rc_K hRC1 (j9 + 1) (by omega)
      show tm_V x (tm_H x w_33) 1 6 36 [(0, .ref (k_o κ))] [.ref (c9)]
      refine tm_cast2 hC hcc9 rfl w_X5_196 dX5_undo_36 ?_
      refine tm_astore_n [(1, .ref (c9)), (0, .ref (k_o κ))] hC dX5_undo_39 rfl (by rw [hB.2.1]; exact Nat.le_of_ble_eq_true rfl) rfl ?_
      refine tm_aload_n 0 hC dX5_undo_40 rfl rfl ?_
      refine tm_getf2 hC f_X5_211 hcc9 rfl dX5_undo_41 ?_
      refine tm_getf2 hC f_X5_215 hpj9 rfl dX5_undo_44 ?_
      refine tm_aload_n 0 hC dX5_undo_47 rfl rfl ?_
      refine tm_getf2 hC f_X5_211 hcc9 rfl dX5_undo_48 ?_
      have hk9 := wf_k hw j9 (by omega)
      have hb9 : 0 ≤ (s_cu σ (4 * j9)) ∧ (s_cu σ (4 * j9)) < s_nb σ := by omega
      have hmm9 : ∀ k, k ∈ k_ks κ (s_cu σ (4 * j9)) ↔ _ := Srt_mm hw (rc_srt hM (s_cu σ (4 * j9)) hb9)
      have hln9 := (rc_len hM hw (s_cu σ (4 * j9)) hb9).1
      have hfl9 : ((k_ks κ (s_cu σ (4 * j9))).filter (fun _ => true)).length ≤ 400 := Nat.le_trans (List.length_filter_le _ _) (by omega)
      refine tm_callVN (b := 1) (n := 6) (rest := []) hC (c_B_rem2 (tm_g x) hst _ _ _ (k_bp κ (s_cu σ (4 * j9))) _ _ _ ((k_ks κ (s_cu σ (4 * j9))).filter (fun _ => true)) (k_pc κ) j9 (rc_B hRC1 (s_cu σ (4 * j9)) (by omega)) ((DL_0 hRC1) (s_cu σ (4 * j9)) hb9) (List.mem_filter.mpr ⟨(hmm9 j9).mpr ⟨by omega, rfl, by omega⟩, rfl⟩) ((Srt_nd hw (rc_srt hM (s_cu σ (4 * j9)) hb9)).filter _) (fun k hk e => (rc_ap hM).2.2.2.2 k j9 ((hmm9 k).mp (List.mem_filter.mp hk).1).1 (by omega) e) hfl9 (fun k hk => ⟨_, _, _, _, _, rc_K hRC1 k ((hmm9 k).mp (List.mem_filter.mp hk).1).1⟩)) k_X5_219 (by rw [hB.2.2.1]; exact ⟨Nat.le_of_ble_eq_true rfl, Nat.le_of_ble_eq_true rfl⟩) rfl (tm_rec2 hC (rc_B hRC1 (s_cu σ (4 * j9)) (by omega)) rfl) rfl (by decide) dX5_undo_51 (fun v_51 w_51 hp_51 => ?_)
      obtain ⟨hwp_51, rfl⟩ := hp_51
      have hDL1 : DL w_51 (kCs κ ca9 cs9) σ (fun z => (fun _ => true) z && decide (z ≠ j9)) := by rw [← hwp_51]; exact DL_s hRC1 hw (DL_0 hRC1) hb9 rfl
      have h8 : w_33 (k_bp κ (s_cu σ (4 * j9))) = _ := (DL_0 hRC1) (s_cu σ (4 * j9)) hb9
      have hsm1 : ∀ (a : Nat) (e : va_E), w_33 a = some (.inl e) → w_51 a = some (.inl e) := fun a e ha => by rw [← hwp_51, tm_ul_n (fun z => by rw [z, h8] at ha; cases ha)]; exact ha
      have hlo1 : ∀ (a : Nat) (e : va_E ⊕ List Nat), w_33 a = some e → (∀ c, 0 ≤ c ∧ c < s_nb σ → a ≠ k_bp κ c) → w_51 a = some e := fun a e ha hne => by rw [← hwp_51, tm_ul_n (hne _ hb9)]; exact ha
      clear hk9 hb9 hmm9 hln9 hfl9 h8
      have hy_51_c9 := hsm1 _ _ hcc9
      have hy_51_k_pc_κ_j9 := hsm1 _ _ hpj9
      have hy_51_k_pc_κ__j9___1_ := hsm1 _ _ hpk9
      show tm_V x (tm_H x w_51) 1 6 54 [(1, .ref (c9)), (0, .ref (k_o κ))] []
      refine tm_aload_n 0 hC dX5_undo_54 rfl rfl ?_
      refine tm_getf2 hC f_X5_223 hy_51_c9 rfl dX5_undo_55 ?_
      refine tm_ifnull hC dX5_undo_58 ?_
      refine tm_aload_n 0 hC dX5_undo_61 rfl rfl ?_
      refine tm_getf2 hC f_X5_223 hy_51_c9 rfl dX5_undo_62 ?_
      refine tm_getf2 hC f_X5_215 hy_51_k_pc_κ__j9___1_ rfl dX5_undo_65 ?_
      refine tm_aload_n 0 hC dX5_undo_68 rfl rfl ?_
      refine tm_getf2 hC f_X5_223 hy_51_c9 rfl dX5_undo_69 ?_
      have hk9 := wf_k hw (j9 + 1) (by omega)
      have hb9 : 0 ≤ (s_cu σ (4 * (j9 + 1))) ∧ (s_cu σ (4 * (j9 + 1))) < s_nb σ := by omega
      have hmm9 : ∀ k, k ∈ k_ks κ (s_cu σ (4 * (j9 + 1))) ↔ _ := Srt_mm hw (rc_srt hM (s_cu σ (4 * (j9 + 1))) hb9)
      have hln9 := (rc_len hM hw (s_cu σ (4 * (j9 + 1))) hb9).1
      have hfl9 : ((k_ks κ (s_cu σ (4 * (j9 + 1)))).filter (fun z => (fun _ => true) z && decide (z ≠ j9))).length ≤ 400 := Nat.le_trans (List.length_filter_le _ _) (by omega)
      refine tm_callVN (b := 1) (n := 6) (rest := []) hC (c_B_rem2 (tm_g x) hst _ _ _ (k_bp κ (s_cu σ (4 * (j9 + 1)))) _ _ _ ((k_ks κ (s_cu σ (4 * (j9 + 1)))).filter (fun z => (fun _ => true) z && decide (z ≠ j9))) (k_pc κ) (j9 + 1) (hsm1 _ _ (rc_B hRC1 (s_cu σ (4 * (j9 + 1))) (by omega))) (hDL1 (s_cu σ (4 * (j9 + 1))) hb9) (List.mem_filter.mpr ⟨(hmm9 (j9 + 1)).mpr ⟨by omega, rfl, by omega⟩, by simp; omega⟩) ((Srt_nd hw (rc_srt hM (s_cu σ (4 * (j9 + 1))) hb9)).filter _) (fun k hk e => (rc_ap hM).2.2.2.2 k (j9 + 1) ((hmm9 k).mp (List.mem_filter.mp hk).1).1 (by omega) e) hfl9 (fun k hk => ⟨_, _, _, _, _, hsm1 _ _ (rc_K hRC1 k ((hmm9 k).mp (List.mem_filter.mp hk).1).1)⟩)) k_X5_219 (by rw [hB.2.2.1]; exact ⟨Nat.le_of_ble_eq_true rfl, Nat.le_of_ble_eq_true rfl⟩) rfl (tm_rec2 hC (hsm1 _ _ (rc_B hRC1 (s_cu σ (4 * (j9 + 1))) (by omega))) rfl) rfl (by decide) dX5_undo_72 (fun v_72 w_72 hp_72 => ?_)
      obtain ⟨hwp_72, rfl⟩ := hp_72
      have hDL2 : DL w_72 (kCs κ ca9 cs9) σ (fun z => (fun z => (fun _ => true) z && decide (z ≠ j9)) z && decide (z ≠ (j9 + 1))) := by rw [← hwp_72]; exact DL_s hRC1 hw hDL1 hb9 rfl
      have h8 : w_51 (k_bp κ (s_cu σ (4 * (j9 + 1)))) = _ := hDL1 (s_cu σ (4 * (j9 + 1))) hb9
      have hsm2 : ∀ (a : Nat) (e : va_E), w_33 a = some (.inl e) → w_72 a = some (.inl e) := fun a e ha => by have ha2 := hsm1 a e ha; rw [← hwp_72, tm_ul_n (fun z => by rw [z, h8] at ha2; cases ha2)]; exact ha2
      have hlo2 : ∀ (a : Nat) (e : va_E ⊕ List Nat), w_33 a = some e → (∀ c, 0 ≤ c ∧ c < s_nb σ → a ≠ k_bp κ c) → w_72 a = some e := fun a e ha hne => by rw [← hwp_72, tm_ul_n (hne _ hb9)]; exact hlo1 a e ha hne
      clear hk9 hb9 hmm9 hln9 hfl9 h8
      have hy_72_c9 := hsm2 _ _ hcc9
      have hy_72_k_pc_κ_j9 := hsm2 _ _ hpj9
      have hy_72_k_pc_κ__j9___1_ := hsm2 _ _ hpk9
      have hRC2 : RC (tm_T x) w_72 (kDel (kCs κ ca9 cs9) j9) (setNm σ j9) := RC_del hRC1 hw (by omega) hg9 hlo2 (DL_e hRC1 hw hDL2 (fun z hz => by show ((true && decide (z ≠ j9)) && decide (z ≠ j9 + 1)) = decide (z < j9); rw [Bool.true_and, ← Bool.decide_and, decide_eq_decide]; omega))
      have hpx9 := rc_P hRC2 (s_cu σ (4 * j9 + 3)) hp9
      have hpy9 : w_72 (k_pa κ (s_cu σ (4 * j9 + 3))) = some (.inl (.inr (4, [.int (I (s_cu σ (4 * j9 + 3))), .int (I (s_wa σ (4 * (s_cu σ (4 * j9 + 3)) + 0))), .int (I (s_wa σ (4 * (s_cu σ (4 * j9 + 3)) + 1))), .int (I (s_wa σ (4 * (s_cu σ (4 * j9 + 3)) + 2))), .int (I (s_mj σ (s_cu σ (4 * j9 + 3)))), .int (I (s_wa σ (4 * (s_cu σ (4 * j9 + 3)) + 3)))]))) := hpx9
      show tm_V x (tm_H x w_72) 1 6 75 [(1, .ref (c9)), (0, .ref (k_o κ))] []
      refine tm_aload_n 0 hC dX5_undo_75 rfl rfl ?_
      refine tm_getf2 hC f_X5_226 hy_72_c9 rfl dX5_undo_76 ?_
      refine tm_dup hC dX5_undo_79 rfl ?_
      refine tm_getf2 hC f_X5_159 hpy9 rfl dX5_undo_80 ?_
      refine tm_iconst hC dX5_undo_83 ?_
      refine tm_iadd hC dX5_undo_84 ?_
      refine tm_putf2 hC f_X5_159 hpy9 (tt_4_5 _) (Nat.le_of_ble_eq_true rfl) dX5_undo_85 ?_
      obtain ⟨w4, hw5⟩ : ∃ z, z = tm_u2 w_72 (k_pa κ (s_cu σ (4 * j9 + 3))) (.inr (4, [.int (I ((s_cu σ (4 * j9 + 3)))), .int (I (s_wa σ (4 * (s_cu σ (4 * j9 + 3)) + 0))), .int (I (s_wa σ (4 * (s_cu σ (4 * j9 + 3)) + 1))), .int (I (s_wa σ (4 * (s_cu σ (4 * j9 + 3)) + 2))), .int (I (s_mj σ (s_cu σ (4 * j9 + 3)))), .int (I ((s_wa σ (4 * (s_cu σ (4 * j9 + 3)) + 3)) + 1))])) := ⟨_, rfl⟩
      show tm_V x (tm_H x (tm_u2 w_72 (k_pa κ (s_cu σ (4 * j9 + 3))) (.inr (4, [.int (I ((s_cu σ (4 * j9 + 3)))), .int (I (s_wa σ (4 * (s_cu σ (4 * j9 + 3)) + 0))), .int (I (s_wa σ (4 * (s_cu σ (4 * j9 + 3)) + 1))), .int (I (s_wa σ (4 * (s_cu σ (4 * j9 + 3)) + 2))), .int (I (s_mj σ (s_cu σ (4 * j9 + 3)))), .int (I ((s_wa σ (4 * (s_cu σ (4 * j9 + 3)) + 3)) + 1))])))) 1 6 88 [(1, .ref (c9)), (0, .ref (k_o κ))] []
      rw [← hw5]
      have hw4_k_pa_κ__s_cu_σ__4___j9___3__ : w4 (k_pa κ (s_cu σ (4 * j9 + 3))) = some (.inl (.inr (4, [.int (I ((s_cu σ (4 * j9 + 3)))), .int (I (s_wa σ (4 * (s_cu σ (4 * j9 + 3)) + 0))), .int (I (s_wa σ (4 * (s_cu σ (4 * j9 + 3)) + 1))), .int (I (s_wa σ (4 * (s_cu σ (4 * j9 + 3)) + 2))), .int (I (s_mj σ (s_cu σ (4 * j9 + 3)))), .int (I ((s_wa σ (4 * (s_cu σ (4 * j9 + 3)) + 3)) + 1))]))) := by rw [hw5]; first | done | exact tm_u2_s
      have hw4_c9 := (show w4 c9 = _ by rw [hw5]; exact tm_u2_n (fun z => absurd (hpy9.symm.trans (z ▸ hy_72_c9)) (by intro q; cases q))).trans hy_72_c9
      have hw4_k_pc_κ_j9 := (show w4 (k_pc κ j9) = _ by rw [hw5]; exact tm_u2_n (fun z => absurd (hpy9.symm.trans (z ▸ hy_72_k_pc_κ_j9)) (by intro q; cases q))).trans hy_72_k_pc_κ_j9
      have hw4_k_pc_κ__j9___1_ := (show w4 (k_pc κ (j9 + 1)) = _ by rw [hw5]; exact tm_u2_n (fun z => absurd (hpy9.symm.trans (z ▸ hy_72_k_pc_κ__j9___1_)) (by intro q; cases q))).trans hy_72_k_pc_κ__j9___1_
      have hRC3 : RC (tm_T x) w4 (kDel (kCs κ ca9 cs9) j9) (more (setNm σ j9) (s_cu σ (4 * j9 + 3))) := by rw [hw5]; exact RC_left hRC2 hp9
      refine tm_aload_n 0 hC dX5_undo_88 rfl rfl ?_
      refine tm_getf2 hC f_X5_226 hw4_c9 rfl dX5_undo_89 ?_
      refine tm_getf2 hC f_X5_108 hw4_k_pa_κ__s_cu_σ__4___j9___3__ rfl dX5_undo_92 ?_
      exact tm_iretX hC hR dX5_undo_95 (⟨_, _, _, hRC3, hg9, rfl, rfl, Or.inr ⟨hz9, rfl, by rw [show s_nm σ - 1 = j9 + 1 by omega]; exact hq9.symm, by rw [show s_nm σ - 1 = j9 + 1 by omega, if_neg (show ¬ s_aj σ (j9 + 1) = 0 by omega), show s_nm σ - 2 = j9 by omega]⟩⟩)
  · refine tm_less (b' := 1 + 0) (n' := 6 + 0) ⟨by omega, by omega⟩ ?_
    exact tm_throw hC hR hnt tm_kp2 th_ise sr_205 (by rw [hB.2.2.1]; exact ⟨Nat.le_of_ble_eq_true rfl, Nat.le_of_ble_eq_true rfl⟩) (by decide) dX5_undo_10 dX5_undo_13 dX5_undo_14 dX5_undo_16 dX5_undo_19 (⟨rfl, rfl, Or.inl ⟨by have := hca.mp c_7; omega, rfl, rfl⟩⟩)
