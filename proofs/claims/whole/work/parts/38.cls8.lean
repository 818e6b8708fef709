def exR (κ : KP) (σ : ST) (b r : Int) : Prop := 0 ≤ r → ∃ i, i ≤ (k_ks κ b).length ∧ rmS σ (k_ks κ b) i ≤ r ∧ r < rmE σ b (k_ks κ b) i

set_option maxHeartbeats 4000000 in
set_option maxRecDepth 100000 in
theorem c_T_tight (γ : tmG) (hst : γ.1.stackTraces = false) (Λ : tmL) (κ : KP) (σ : ST) (hM : RC γ.2.2.1 Λ κ σ) (hw : WF0 σ) (p : Int) (hp : 0 ≤ p ∧ p < s_np σ) : tm_Con γ (tm_h2 γ.2.1 γ.2.2.1 γ.2.2.2.1) M_X5_tightestBoard 7 0 0 [.ref (k_o κ), .ref (k_pa κ p)] Λ (fun v w' => Λ = w' ∧ ((v = some .null ∧ ∀ b pl, 0 ≤ b ∧ b < s_nb σ → isEarl σ p b pl → pl = -1) ∨ ∃ b least, v = some (.ref (k_bo κ b)) ∧ (0 ≤ b ∧ b < s_nb σ) ∧ onN σ p (s_nb σ) b least)) := by
  refine tm_con hst (by decide) (Nat.le_of_ble_eq_true rfl) (fun x hB hR => ?_)
  have hg := hB.1
  subst hg
  have hC : tm_C x cX5_tightestBoard RX5 (some (FieldType.object "TimberList$Board")) := hB.2.2.2.1
  have hn := wf_n hw
  have hp9 := wf_p hw p hp
  show tm_V x (tm_H x Λ) 0 0 0 [(0, .ref (k_o κ)), (1, .ref (k_pa κ p))] []
  refine tm_null hC dX5_tightestBoard_0 ?_
  refine tm_astore_nN [(2, .null), (0, .ref (k_o κ)), (1, .ref (k_pa κ p))] hC dX5_tightestBoard_1 rfl (by rw [hB.2.1]; exact Nat.le_of_ble_eq_true rfl) rfl ?_
  refine tm_iconst hC dX5_tightestBoard_2 ?_
  refine tm_istore_n [(3, .int (I (0))), (2, .null), (0, .ref (k_o κ)), (1, .ref (k_pa κ p))] hC dX5_tightestBoard_3 rfl (by rw [hB.2.1]; exact Nat.le_of_ble_eq_true rfl) rfl ?_
  refine tm_iconst hC dX5_tightestBoard_4 ?_
  refine tm_istore [(4, .int (I (0))), (3, .int (I (0))), (2, .null), (0, .ref (k_o κ)), (1, .ref (k_pa κ p))] hC dX5_tightestBoard_5 (by rw [hB.2.1]; exact Nat.le_of_ble_eq_true rfl) rfl ?_
  have hL_7 : ∀ (fu : Nat) (tb : Value) (on : Int) (lst : Int) (i : Nat), ((i : Int) ≤ s_nb σ ∧ onN σ p (i : Int) on lst ∧ (-20000 ≤ lst ∧ lst ≤ 20000) ∧ ((on = -1 ∧ tb = .null) ∨ (0 ≤ on ∧ on < s_nb σ ∧ tb = .ref (k_bo κ on)))) → ((s_nb σ - i).toNat) < fu → tm_V x (tm_H x Λ) 0 0 7 [(0, .ref (k_o κ)), (1, .ref (k_pa κ p)), (2, tb), (3, .int (I (lst))), (4, .int (I ((i : Int))))] [] := by
    intro fu
    induction fu with
    | zero => intro tb on lst i hinv hm; exact absurd hm (Nat.not_lt_zero _)
    | succ fu ih_7 =>
      intro tb on lst i hinv_7 hm_7
      obtain ⟨hi, hon, hlst, htb⟩ := hinv_7
      rcases htb with htb | htb
      · obtain ⟨hon1, rfl⟩ := htb
        refine tm_iload 4 hC dX5_tightestBoard_7 rfl ?_
        refine tm_aload_n 0 hC dX5_tightestBoard_9 rfl rfl ?_
        have hx1 := rc_o hM
        refine tm_getf2 hC f_X5_10 hx1 rfl dX5_tightestBoard_10 ?_
        refine tm_callV (b := 0) (n := 0) (rest := [.int (I ((i : Int)))]) hC (c_Lsz (tm_g x) hst _ _ _ (s_nb σ) (rc_lb hM) (len_b hw)) k_X5_54 (by rw [hB.2.2.1]; exact ⟨Nat.le_of_ble_eq_true rfl, Nat.le_of_ble_eq_true rfl⟩) rfl (tm_recL hC (rc_lb hM)) rfl (by simp [Value.category]) dX5_tightestBoard_13 (fun v_13 w_13 hp_13 => ?_)
        obtain ⟨rfl, rfl⟩ := hp_13
        show tm_V x (tm_H x Λ) 0 0 16 [(0, .ref (k_o κ)), (1, .ref (k_pa κ p)), (2, .null), (3, .int (I (lst))), (4, .int (I ((i : Int))))] [.int (I (s_nb σ)), .int (I ((i : Int)))]
        refine tm_icmp_ge 88 hC dX5_tightestBoard_16 (by decide) (by omega) (fun c_16 => ?_) (fun c_16 => ?_)
        · refine tm_aload_nN 2 hC dX5_tightestBoard_88 rfl rfl ?_
          exact tm_aretN hC hR (Or.inl ⟨_, rfl⟩) dX5_tightestBoard_89 (⟨rfl, Or.inl ⟨rfl, fun b pl hb he => by rcases hon with h | h; exact h.2 b pl (by omega) he; omega⟩⟩)
        · have hb9 := wf_b hw i (by omega)
          refine tm_aload_n 0 hC dX5_tightestBoard_19 rfl rfl ?_
          refine tm_getf2 hC f_X5_10 hx1 rfl dX5_tightestBoard_20 ?_
          refine tm_iload 4 hC dX5_tightestBoard_23 rfl ?_
          refine tm_callV (b := 0) (n := 0) (rest := []) hC (c_Lget (tm_g x) hst _ _ _ (i : Int) (k_bo κ (i : Int)) (rc_lb hM) (by omega) (rc_bat (i : Int) (by omega))) k_X5_230 (by rw [hB.2.2.1]; exact ⟨Nat.le_of_ble_eq_true rfl, Nat.le_of_ble_eq_true rfl⟩) rfl (tm_recL hC (rc_lb hM)) rfl (by decide) dX5_tightestBoard_25 (fun v_25 w_25 hp_25 => ?_)
          obtain ⟨rfl, rfl⟩ := hp_25
          show tm_V x (tm_H x Λ) 0 0 28 [(0, .ref (k_o κ)), (1, .ref (k_pa κ p)), (2, .null), (3, .int (I (lst))), (4, .int (I ((i : Int))))] [.ref (k_bo κ (i : Int))]
          have hx2 := rc_B hM (i : Int) (by omega)
          refine tm_cast2 hC hx2 rfl w_X5_63 dX5_tightestBoard_28 ?_
          refine tm_astore [(5, .ref (k_bo κ (i : Int))), (0, .ref (k_o κ)), (1, .ref (k_pa κ p)), (2, .null), (3, .int (I (lst))), (4, .int (I ((i : Int))))] hC dX5_tightestBoard_31 (by rw [hB.2.1]; exact Nat.le_of_ble_eq_true rfl) rfl ?_
          refine tm_aload 0 hC dX5_tightestBoard_33 rfl ?_
          refine tm_aload_n 2 hC dX5_tightestBoard_35 rfl rfl ?_
          refine tm_aload_n 1 hC dX5_tightestBoard_36 rfl rfl ?_
          refine tm_getf2 hC f_X5_33 hx1 rfl dX5_tightestBoard_37 ?_
          refine tm_callVN (b := 0) (n := 0) (rest := []) hC (c_B_earliest (tm_g x) hst Λ κ σ hM hw (i : Int) (by omega) p (by omega)) k_X5_155 (by rw [hB.2.2.1]; exact ⟨Nat.le_of_ble_eq_true rfl, Nat.le_of_ble_eq_true rfl⟩) rfl (tm_rec2 hC (rc_B hM (i : Int) (by omega)) rfl) rfl (by decide) dX5_tightestBoard_40 (fun v_40 w_40 hp_40 => ?_)
          obtain ⟨rfl, r_40, rfl, he_40, heb_40, hex_40⟩ := hp_40
          show tm_V x (tm_H x Λ) 0 0 43 [(5, .ref (k_bo κ (i : Int))), (0, .ref (k_o κ)), (1, .ref (k_pa κ p)), (2, .null), (3, .int (I (lst))), (4, .int (I ((i : Int))))] [.int (I (r_40))]
          have hex9 : exR κ σ (i : Int) r_40 := hex_40
          clear hex_40
          refine tm_istore [(6, .int (I (r_40))), (5, .ref (k_bo κ (i : Int))), (0, .ref (k_o κ)), (1, .ref (k_pa κ p)), (2, .null), (3, .int (I (lst))), (4, .int (I ((i : Int))))] hC dX5_tightestBoard_43 (by rw [hB.2.1]; exact Nat.le_of_ble_eq_true rfl) rfl ?_
          refine tm_iload 0 hC dX5_tightestBoard_45 rfl ?_
          refine tm_if_ge 53 hC dX5_tightestBoard_47 (by decide) (by omega) (fun c_47 => ?_) (fun c_47 => ?_)
          · refine tm_aload 1 hC dX5_tightestBoard_53 rfl ?_
            refine tm_iload 0 hC dX5_tightestBoard_55 rfl ?_
            refine tm_aload_n 2 hC dX5_tightestBoard_57 rfl rfl ?_
            refine tm_getf2 hC f_X5_33 hx1 rfl dX5_tightestBoard_58 ?_
            refine tm_callVN (b := 0) (n := 0) (rest := []) hC (c_B_room (tm_g x) hst Λ κ σ hM hw (i : Int) (by omega) r_40 (by omega) (hex9 (by omega))) k_X5_304 (by rw [hB.2.2.1]; exact ⟨Nat.le_of_ble_eq_true rfl, Nat.le_of_ble_eq_true rfl⟩) rfl (tm_rec2 hC (rc_B hM (i : Int) (by omega)) rfl) rfl (by decide) dX5_tightestBoard_61 (fun v_61 w_61 hp_61 => ?_)
            obtain ⟨rfl, rm_61, rfl, hrm_61, hrb_61⟩ := hp_61
            show tm_V x (tm_H x Λ) 0 0 64 [(6, .int (I (r_40))), (5, .ref (k_bo κ (i : Int))), (0, .ref (k_o κ)), (1, .ref (k_pa κ p)), (2, .null), (3, .int (I (lst))), (4, .int (I ((i : Int))))] [.int (I (rm_61))]
            refine tm_istore [(7, .int (I (rm_61))), (6, .int (I (r_40))), (5, .ref (k_bo κ (i : Int))), (0, .ref (k_o κ)), (1, .ref (k_pa κ p)), (2, .null), (3, .int (I (lst))), (4, .int (I ((i : Int))))] hC dX5_tightestBoard_64 (by rw [hB.2.1]; exact Nat.le_of_ble_eq_true rfl) rfl ?_
            refine tm_aload_nN 5 hC dX5_tightestBoard_66 rfl rfl ?_
            refine tm_ifnullN 76 hC dX5_tightestBoard_67 (by decide) ?_
            refine tm_aload 2 hC dX5_tightestBoard_76 rfl ?_
            refine tm_astore_n [(2, .ref (k_bo κ (i : Int))), (7, .int (I (rm_61))), (6, .int (I (r_40))), (5, .ref (k_bo κ (i : Int))), (0, .ref (k_o κ)), (1, .ref (k_pa κ p)), (3, .int (I (lst))), (4, .int (I ((i : Int))))] hC dX5_tightestBoard_78 rfl (by rw [hB.2.1]; exact Nat.le_of_ble_eq_true rfl) rfl ?_
            refine tm_iload 1 hC dX5_tightestBoard_79 rfl ?_
            refine tm_istore_n [(3, .int (I (rm_61))), (2, .ref (k_bo κ (i : Int))), (7, .int (I (rm_61))), (6, .int (I (r_40))), (5, .ref (k_bo κ (i : Int))), (0, .ref (k_o κ)), (1, .ref (k_pa κ p)), (4, .int (I ((i : Int))))] hC dX5_tightestBoard_81 rfl (by rw [hB.2.1]; exact Nat.le_of_ble_eq_true rfl) rfl ?_
            refine tm_iinc 7 [(4, .int (I ((i : Int) + 1))), (3, .int (I (rm_61))), (2, .ref (k_bo κ (i : Int))), (7, .int (I (rm_61))), (6, .int (I (r_40))), (5, .ref (k_bo κ (i : Int))), (0, .ref (k_o κ)), (1, .ref (k_pa κ p))] hC dX5_tightestBoard_82 rfl (by rw [hB.2.1]; exact Nat.le_of_ble_eq_true rfl) rfl ?_
            refine tm_goto 7 hC dX5_tightestBoard_85 (by decide) ?_
            refine tm_sub (L' := [(0, .ref (k_o κ)), (1, .ref (k_pa κ p)), (2, .ref (k_bo κ (i : Int))), (3, .int (I (rm_61))), (4, .int (I ((i : Int) + 1)))]) [6, 7, 2, 1, 0] rfl ?_
            exact ih_7  (.ref (k_bo κ (i : Int))) (i : Int) rm_61 (i + 1) (⟨by omega, onN_new hon (by omega) he_40 (by omega) hrm_61 (Or.inl hon1), by omega, Or.inr ⟨by omega, by omega, rfl⟩⟩) (by omega)
          · refine tm_goto 82 hC dX5_tightestBoard_50 (by decide) ?_
            refine tm_iinc 6 [(4, .int (I ((i : Int) + 1))), (6, .int (I (r_40))), (5, .ref (k_bo κ (i : Int))), (0, .ref (k_o κ)), (1, .ref (k_pa κ p)), (2, .null), (3, .int (I (lst)))] hC dX5_tightestBoard_82 rfl (by rw [hB.2.1]; exact Nat.le_of_ble_eq_true rfl) rfl ?_
            refine tm_goto 7 hC dX5_tightestBoard_85 (by decide) ?_
            refine tm_sub (L' := [(0, .ref (k_o κ)), (1, .ref (k_pa κ p)), (2, .null), (3, .int (I (lst))), (4, .int (I ((i : Int) + 1)))]) [3, 4, 5, 6, 0] rfl ?_
            exact ih_7  .null on lst (i + 1) (⟨by omega, onN_no hon ((show r_40 = -1 by omega) ▸ he_40), by omega, Or.inl ⟨by omega, rfl⟩⟩) (by omega)
      · obtain ⟨hon1, hon2, rfl⟩ := htb
        refine tm_iload 4 hC dX5_tightestBoard_7 rfl ?_
        refine tm_aload_n 0 hC dX5_tightestBoard_9 rfl rfl ?_
        have hx3 := rc_o hM
        refine tm_getf2 hC f_X5_10 hx3 rfl dX5_tightestBoard_10 ?_
        refine tm_callV (b := 0) (n := 0) (rest := [.int (I ((i : Int)))]) hC (c_Lsz (tm_g x) hst _ _ _ (s_nb σ) (rc_lb hM) (len_b hw)) k_X5_54 (by rw [hB.2.2.1]; exact ⟨Nat.le_of_ble_eq_true rfl, Nat.le_of_ble_eq_true rfl⟩) rfl (tm_recL hC (rc_lb hM)) rfl (by simp [Value.category]) dX5_tightestBoard_13 (fun v_13 w_13 hp_13 => ?_)
        obtain ⟨rfl, rfl⟩ := hp_13
        show tm_V x (tm_H x Λ) 0 0 16 [(0, .ref (k_o κ)), (1, .ref (k_pa κ p)), (2, .ref (k_bo κ on)), (3, .int (I (lst))), (4, .int (I ((i : Int))))] [.int (I (s_nb σ)), .int (I ((i : Int)))]
        refine tm_icmp_ge 88 hC dX5_tightestBoard_16 (by decide) (by omega) (fun c_16 => ?_) (fun c_16 => ?_)
        · refine tm_aload_n 2 hC dX5_tightestBoard_88 rfl rfl ?_
          exact tm_aret hC hR (Or.inl ⟨_, rfl⟩) dX5_tightestBoard_89 (⟨rfl, Or.inr ⟨on, lst, rfl, by omega, (show (i : Int) = s_nb σ by omega) ▸ hon⟩⟩)
        · have hb9 := wf_b hw i (by omega)
          refine tm_aload_n 0 hC dX5_tightestBoard_19 rfl rfl ?_
          refine tm_getf2 hC f_X5_10 hx3 rfl dX5_tightestBoard_20 ?_
          refine tm_iload 4 hC dX5_tightestBoard_23 rfl ?_
          refine tm_callV (b := 0) (n := 0) (rest := []) hC (c_Lget (tm_g x) hst _ _ _ (i : Int) (k_bo κ (i : Int)) (rc_lb hM) (by omega) (rc_bat (i : Int) (by omega))) k_X5_230 (by rw [hB.2.2.1]; exact ⟨Nat.le_of_ble_eq_true rfl, Nat.le_of_ble_eq_true rfl⟩) rfl (tm_recL hC (rc_lb hM)) rfl (by decide) dX5_tightestBoard_25 (fun v_25 w_25 hp_25 => ?_)
          obtain ⟨rfl, rfl⟩ := hp_25
          show tm_V x (tm_H x Λ) 0 0 28 [(0, .ref (k_o κ)), (1, .ref (k_pa κ p)), (2, .ref (k_bo κ on)), (3, .int (I (lst))), (4, .int (I ((i : Int))))] [.ref (k_bo κ (i : Int))]
          have hx4 := rc_B hM (i : Int) (by omega)
          refine tm_cast2 hC hx4 rfl w_X5_63 dX5_tightestBoard_28 ?_
          refine tm_astore [(5, .ref (k_bo κ (i : Int))), (0, .ref (k_o κ)), (1, .ref (k_pa κ p)), (2, .ref (k_bo κ on)), (3, .int (I (lst))), (4, .int (I ((i : Int))))] hC dX5_tightestBoard_31 (by rw [hB.2.1]; exact Nat.le_of_ble_eq_true rfl) rfl ?_
          refine tm_aload 0 hC dX5_tightestBoard_33 rfl ?_
          refine tm_aload_n 2 hC dX5_tightestBoard_35 rfl rfl ?_
          refine tm_aload_n 1 hC dX5_tightestBoard_36 rfl rfl ?_
          refine tm_getf2 hC f_X5_33 hx3 rfl dX5_tightestBoard_37 ?_
          refine tm_callVN (b := 0) (n := 0) (rest := []) hC (c_B_earliest (tm_g x) hst Λ κ σ hM hw (i : Int) (by omega) p (by omega)) k_X5_155 (by rw [hB.2.2.1]; exact ⟨Nat.le_of_ble_eq_true rfl, Nat.le_of_ble_eq_true rfl⟩) rfl (tm_rec2 hC (rc_B hM (i : Int) (by omega)) rfl) rfl (by decide) dX5_tightestBoard_40 (fun v_40 w_40 hp_40 => ?_)
          obtain ⟨rfl, r_40, rfl, he_40, heb_40, hex_40⟩ := hp_40
          show tm_V x (tm_H x Λ) 0 0 43 [(5, .ref (k_bo κ (i : Int))), (0, .ref (k_o κ)), (1, .ref (k_pa κ p)), (2, .ref (k_bo κ on)), (3, .int (I (lst))), (4, .int (I ((i : Int))))] [.int (I (r_40))]
          have hex9 : exR κ σ (i : Int) r_40 := hex_40
          clear hex_40
          refine tm_istore [(6, .int (I (r_40))), (5, .ref (k_bo κ (i : Int))), (0, .ref (k_o κ)), (1, .ref (k_pa κ p)), (2, .ref (k_bo κ on)), (3, .int (I (lst))), (4, .int (I ((i : Int))))] hC dX5_tightestBoard_43 (by rw [hB.2.1]; exact Nat.le_of_ble_eq_true rfl) rfl ?_
          refine tm_iload 0 hC dX5_tightestBoard_45 rfl ?_
          refine tm_if_ge 53 hC dX5_tightestBoard_47 (by decide) (by omega) (fun c_47 => ?_) (fun c_47 => ?_)
          · refine tm_aload 1 hC dX5_tightestBoard_53 rfl ?_
            refine tm_iload 0 hC dX5_tightestBoard_55 rfl ?_
            refine tm_aload_n 2 hC dX5_tightestBoard_57 rfl rfl ?_
            refine tm_getf2 hC f_X5_33 hx3 rfl dX5_tightestBoard_58 ?_
            refine tm_callVN (b := 0) (n := 0) (rest := []) hC (c_B_room (tm_g x) hst Λ κ σ hM hw (i : Int) (by omega) r_40 (by omega) (hex9 (by omega))) k_X5_304 (by rw [hB.2.2.1]; exact ⟨Nat.le_of_ble_eq_true rfl, Nat.le_of_ble_eq_true rfl⟩) rfl (tm_rec2 hC (rc_B hM (i : Int) (by omega)) rfl) rfl (by decide) dX5_tightestBoard_61 (fun v_61 w_61 hp_61 => ?_)
            obtain ⟨rfl, rm_61, rfl, hrm_61, hrb_61⟩ := hp_61
            show tm_V x (tm_H x Λ) 0 0 64 [(6, .int (I (r_40))), (5, .ref (k_bo κ (i : Int))), (0, .ref (k_o κ)), (1, .ref (k_pa κ p)), (2, .ref (k_bo κ on)), (3, .int (I (lst))), (4, .int (I ((i : Int))))] [.int (I (rm_61))]
            refine tm_istore [(7, .int (I (rm_61))), (6, .int (I (r_40))), (5, .ref (k_bo κ (i : Int))), (0, .ref (k_o κ)), (1, .ref (k_pa κ p)), (2, .ref (k_bo κ on)), (3, .int (I (lst))), (4, .int (I ((i : Int))))] hC dX5_tightestBoard_64 (by rw [hB.2.1]; exact Nat.le_of_ble_eq_true rfl) rfl ?_
            refine tm_aload_n 5 hC dX5_tightestBoard_66 rfl rfl ?_
            refine tm_ifnull hC dX5_tightestBoard_67 ?_
            refine tm_iload 0 hC dX5_tightestBoard_70 rfl ?_
            refine tm_iload_n 6 hC dX5_tightestBoard_72 rfl rfl ?_
            refine tm_icmp_ge 82 hC dX5_tightestBoard_73 (by decide) (by omega) (fun c_73 => ?_) (fun c_73 => ?_)
            · refine tm_iinc 7 [(4, .int (I ((i : Int) + 1))), (7, .int (I (rm_61))), (6, .int (I (r_40))), (5, .ref (k_bo κ (i : Int))), (0, .ref (k_o κ)), (1, .ref (k_pa κ p)), (2, .ref (k_bo κ on)), (3, .int (I (lst)))] hC dX5_tightestBoard_82 rfl (by rw [hB.2.1]; exact Nat.le_of_ble_eq_true rfl) rfl ?_
              refine tm_goto 7 hC dX5_tightestBoard_85 (by decide) ?_
              refine tm_sub (L' := [(0, .ref (k_o κ)), (1, .ref (k_pa κ p)), (2, .ref (k_bo κ on)), (3, .int (I (lst))), (4, .int (I ((i : Int) + 1)))]) [4, 5, 6, 7, 0] rfl ?_
              exact ih_7  (.ref (k_bo κ on)) on lst (i + 1) (⟨by omega, onN_old hon he_40 (by omega) hrm_61 (by omega) (by omega), by omega, Or.inr ⟨by omega, by omega, rfl⟩⟩) (by omega)
            · refine tm_aload 2 hC dX5_tightestBoard_76 rfl ?_
              refine tm_astore_n [(2, .ref (k_bo κ (i : Int))), (7, .int (I (rm_61))), (6, .int (I (r_40))), (5, .ref (k_bo κ (i : Int))), (0, .ref (k_o κ)), (1, .ref (k_pa κ p)), (3, .int (I (lst))), (4, .int (I ((i : Int))))] hC dX5_tightestBoard_78 rfl (by rw [hB.2.1]; exact Nat.le_of_ble_eq_true rfl) rfl ?_
              refine tm_iload 1 hC dX5_tightestBoard_79 rfl ?_
              refine tm_istore_n [(3, .int (I (rm_61))), (2, .ref (k_bo κ (i : Int))), (7, .int (I (rm_61))), (6, .int (I (r_40))), (5, .ref (k_bo κ (i : Int))), (0, .ref (k_o κ)), (1, .ref (k_pa κ p)), (4, .int (I ((i : Int))))] hC dX5_tightestBoard_81 rfl (by rw [hB.2.1]; exact Nat.le_of_ble_eq_true rfl) rfl ?_
              refine tm_iinc 7 [(4, .int (I ((i : Int) + 1))), (3, .int (I (rm_61))), (2, .ref (k_bo κ (i : Int))), (7, .int (I (rm_61))), (6, .int (I (r_40))), (5, .ref (k_bo κ (i : Int))), (0, .ref (k_o κ)), (1, .ref (k_pa κ p))] hC dX5_tightestBoard_82 rfl (by rw [hB.2.1]; exact Nat.le_of_ble_eq_true rfl) rfl ?_
              refine tm_goto 7 hC dX5_tightestBoard_85 (by decide) ?_
              refine tm_sub (L' := [(0, .ref (k_o κ)), (1, .ref (k_pa κ p)), (2, .ref (k_bo κ (i : Int))), (3, .int (I (rm_61))), (4, .int (I ((i : Int) + 1)))]) [6, 7, 2, 1, 0] rfl ?_
              exact ih_7  (.ref (k_bo κ (i : Int))) (i : Int) rm_61 (i + 1) (⟨by omega, onN_new hon (by omega) he_40 (by omega) hrm_61 (Or.inr (by omega)), by omega, Or.inr ⟨by omega, by omega, rfl⟩⟩) (by omega)
          · refine tm_goto 82 hC dX5_tightestBoard_50 (by decide) ?_
            refine tm_iinc 6 [(4, .int (I ((i : Int) + 1))), (6, .int (I (r_40))), (5, .ref (k_bo κ (i : Int))), (0, .ref (k_o κ)), (1, .ref (k_pa κ p)), (2, .ref (k_bo κ on)), (3, .int (I (lst)))] hC dX5_tightestBoard_82 rfl (by rw [hB.2.1]; exact Nat.le_of_ble_eq_true rfl) rfl ?_
            refine tm_goto 7 hC dX5_tightestBoard_85 (by decide) ?_
            refine tm_sub (L' := [(0, .ref (k_o κ)), (1, .ref (k_pa κ p)), (2, .ref (k_bo κ on)), (3, .int (I (lst))), (4, .int (I ((i : Int) + 1)))]) [3, 4, 5, 6, 0] rfl ?_
            exact ih_7  (.ref (k_bo κ on)) on lst (i + 1) (⟨by omega, onN_no hon ((show r_40 = -1 by omega) ▸ he_40), by omega, Or.inr ⟨by omega, by omega, rfl⟩⟩) (by omega)
  refine tm_sub (L' := [(0, .ref (k_o κ)), (1, .ref (k_pa κ p)), (2, .null), (3, .int (I (0))), (4, .int (I (0)))]) [3, 4, 2, 1, 0] rfl ?_
  exact hL_7 _ .null (-1) 0 0 (⟨by omega, Or.inl ⟨rfl, fun b pl hb => by omega⟩, by omega, Or.inl ⟨rfl, rfl⟩⟩) (Nat.lt_succ_self _)

set_option maxHeartbeats 4000000 in
set_option maxRecDepth 100000 in
theorem c_B_insP (γ : tmG) (hst : γ.1.stackTraces = false) (Λ : tmL) (κ : KP) (σ : ST) (hM : RC γ.2.2.1 Λ κ σ) (hw : WF0 σ) (b : Int) (hb : 0 ≤ b ∧ b < s_nb σ) (a : Nat) (u v : Nat) (f t j : Int) (ha : Λ a = some (.inl (.inr (5, [.ref u, .ref v, .int (I f), .int (I t), .int (I j)])))) (hf : 0 ≤ f ∧ f ≤ 3000) : tm_Con γ (tm_h2 γ.2.1 γ.2.2.1 γ.2.2.2.1) M_X0_insertPiece 7 1 400 [.ref (k_bo κ b), .ref (a)] Λ (fun r w' => ∃ i : Nat, i ≤ (k_ks κ b).length ∧ tm_ul Λ (k_bp κ b) (((k_ks κ b).map (k_pc κ)).take i ++ a :: ((k_ks κ b).map (k_pc κ)).drop i) = w' ∧ upto (k_ks κ b) i (fun k => s_cu σ (4 * k + 1) < f) ∧ (∀ k, (k_ks κ b)[i]? = some k → f ≤ s_cu σ (4 * k + 1)) ∧ r = none) := by
  refine tm_con hst (by decide) (Nat.le_of_ble_eq_true rfl) (fun x hB hR => ?_)
  have hg := hB.1
  subst hg
  have hC : tm_C x cX0_insertPiece RX0 (none) := hB.2.2.2.1
  have hn := wf_n hw
  have hb9 := wf_b hw b hb
  have hkl := rc_len hM hw b hb
  show tm_V x (tm_H x Λ) 1 400 0 [(0, .ref (k_bo κ b)), (1, .ref (a))] []
  refine tm_iconst hC dX0_insertPiece_0 ?_
  refine tm_istore_n [(2, .int (I (0))), (0, .ref (k_bo κ b)), (1, .ref (a))] hC dX0_insertPiece_1 rfl (by rw [hB.2.1]; exact Nat.le_of_ble_eq_true rfl) rfl ?_
  have hL_2 : ∀ (fu : Nat) (i : Nat), ((i : Int) ≤ ((k_ks κ b).length : Int) ∧ upto (k_ks κ b) i (fun k => s_cu σ (4 * k + 1) < f)) → ((((k_ks κ b).length : Int) - i).toNat) < fu → tm_V x (tm_H x Λ) 1 400 2 [(0, .ref (k_bo κ b)), (1, .ref (a)), (2, .int (I ((i : Int))))] [] := by
    intro fu
    induction fu with
    | zero => intro i hinv hm; exact absurd hm (Nat.not_lt_zero _)
    | succ fu ih_2 =>
      intro i hinv_2 hm_2
      obtain ⟨hi, hu⟩ := hinv_2
      refine tm_iload_n 2 hC dX0_insertPiece_2 rfl rfl ?_
      refine tm_aload_n 0 hC dX0_insertPiece_3 rfl rfl ?_
      have hx1 := rc_B hM b (by omega)
      refine tm_getf2 hC f_X0_16 hx1 rfl dX0_insertPiece_4 ?_
      refine tm_callV (b := 1) (n := 400) (rest := [.int (I ((i : Int)))]) hC (c_Lsz (tm_g x) hst _ _ _ (((k_ks κ b).length : Int)) (rc_bp hM b (by omega)) (len_m _ _)) k_X0_29 (by rw [hB.2.2.1]; exact ⟨Nat.le_of_ble_eq_true rfl, Nat.le_of_ble_eq_true rfl⟩) rfl (tm_recL hC (rc_bp hM b (by omega))) rfl (by simp [Value.category]) dX0_insertPiece_7 (fun v_7 w_7 hp_7 => ?_)
      obtain ⟨rfl, rfl⟩ := hp_7
      show tm_V x (tm_H x Λ) 1 400 10 [(0, .ref (k_bo κ b)), (1, .ref (a)), (2, .int (I ((i : Int))))] [.int (I (((k_ks κ b).length : Int))), .int (I ((i : Int)))]
      refine tm_icmp_ge 40 hC dX0_insertPiece_10 (by decide) (by omega) (fun c_10 => ?_) (fun c_10 => ?_)
      · refine tm_aload_n 0 hC dX0_insertPiece_40 rfl rfl ?_
        refine tm_getf2 hC f_X0_16 hx1 rfl dX0_insertPiece_41 ?_
        refine tm_iload_n 2 hC dX0_insertPiece_44 rfl rfl ?_
        refine tm_aload_n 1 hC dX0_insertPiece_45 rfl rfl ?_
        refine tm_less (b' := 1 + 0) (n' := 400 + 0) ⟨by omega, by omega⟩ ?_
        refine tm_callV (b := 0) (n := 0) (rest := []) hC (c_Laddi (tm_g x) hst _ _ a (i : Int) ((k_ks κ b).map (k_pc κ)) (rc_bp hM b (by omega)) ⟨_, _, _, ha, rfl, w_el_X4, by decide⟩ (by rw [List.length_map]; omega) (by rw [List.length_map]; omega)) k_X0_42 (by rw [hB.2.2.1]; exact ⟨Nat.le_of_ble_eq_true rfl, Nat.le_of_ble_eq_true rfl⟩) rfl (tm_recL hC (rc_bp hM b (by omega))) rfl (by decide) dX0_insertPiece_46 (fun v_46 w_46 hp_46 => ?_)
        obtain ⟨hwi, rfl⟩ := hp_46
        show tm_V x (tm_H x w_46) 0 0 49 [(0, .ref (k_bo κ b)), (1, .ref (a)), (2, .int (I ((i : Int))))] []
        exact tm_vret hC hR dX0_insertPiece_49 (⟨i, by omega, hwi, hu, (fun k hk => by rw [List.getElem?_eq_none (by omega)] at hk; cases hk), rfl⟩)
      · refine tm_aload_n 0 hC dX0_insertPiece_13 rfl rfl ?_
        refine tm_getf2 hC f_X0_16 hx1 rfl dX0_insertPiece_14 ?_
        refine tm_iload_n 2 hC dX0_insertPiece_17 rfl rfl ?_
        obtain ⟨k_18, hga_18, hgb_18, hgc_18, hgd_18⟩ := rc_kat hM hw b (by omega) i (by omega)
        have hg9_18 := wf_k hw k_18 hgc_18
        refine tm_callV (b := 1) (n := 400) (rest := []) hC (c_Lget (tm_g x) hst _ _ _ (i : Int) (k_pc κ k_18) (rc_bp hM b (by omega)) (by omega) (hga_18)) k_X0_33 (by rw [hB.2.2.1]; exact ⟨Nat.le_of_ble_eq_true rfl, Nat.le_of_ble_eq_true rfl⟩) rfl (tm_recL hC (rc_bp hM b (by omega))) rfl (by decide) dX0_insertPiece_18 (fun v_18 w_18 hp_18 => ?_)
        obtain ⟨rfl, rfl⟩ := hp_18
        show tm_V x (tm_H x Λ) 1 400 21 [(0, .ref (k_bo κ b)), (1, .ref (a)), (2, .int (I ((i : Int))))] [.ref (k_pc κ k_18)]
        have hx2 := rc_K hM k_18 (by omega)
        refine tm_cast2 hC hx2 rfl w_X0_46 dX0_insertPiece_21 ?_
        refine tm_getf2 hC f_X0_48 hx2 rfl dX0_insertPiece_24 ?_
        refine tm_aload_n 1 hC dX0_insertPiece_27 rfl rfl ?_
        refine tm_getf2 hC f_X0_48 ha rfl dX0_insertPiece_28 ?_
        refine tm_icmp_ge 40 hC dX0_insertPiece_31 (by decide) (by omega) (fun c_31 => ?_) (fun c_31 => ?_)
        · refine tm_aload_n 0 hC dX0_insertPiece_40 rfl rfl ?_
          refine tm_getf2 hC f_X0_16 hx1 rfl dX0_insertPiece_41 ?_
          refine tm_iload_n 2 hC dX0_insertPiece_44 rfl rfl ?_
          refine tm_aload_n 1 hC dX0_insertPiece_45 rfl rfl ?_
          refine tm_less (b' := 1 + 0) (n' := 400 + 0) ⟨by omega, by omega⟩ ?_
          refine tm_callV (b := 0) (n := 0) (rest := []) hC (c_Laddi (tm_g x) hst _ _ a (i : Int) ((k_ks κ b).map (k_pc κ)) (rc_bp hM b (by omega)) ⟨_, _, _, ha, rfl, w_el_X4, by decide⟩ (by rw [List.length_map]; omega) (by rw [List.length_map]; omega)) k_X0_42 (by rw [hB.2.2.1]; exact ⟨Nat.le_of_ble_eq_true rfl, Nat.le_of_ble_eq_true rfl⟩) rfl (tm_recL hC (rc_bp hM b (by omega))) rfl (by decide) dX0_insertPiece_46 (fun v_46 w_46 hp_46 => ?_)
          obtain ⟨hwi, rfl⟩ := hp_46
          show tm_V x (tm_H x w_46) 0 0 49 [(0, .ref (k_bo κ b)), (1, .ref (a)), (2, .int (I ((i : Int))))] []
          exact tm_vret hC hR dX0_insertPiece_49 (⟨i, by omega, hwi, hu, (fun k hk => by rw [hgb_18] at hk; cases hk; omega), rfl⟩)
        · refine tm_iinc 2 [(2, .int (I ((i : Int) + 1))), (0, .ref (k_bo κ b)), (1, .ref (a))] hC dX0_insertPiece_34 rfl (by rw [hB.2.1]; exact Nat.le_of_ble_eq_true rfl) rfl ?_
          refine tm_goto 2 hC dX0_insertPiece_37 (by decide) ?_
          refine tm_sub (L' := [(0, .ref (k_bo κ b)), (1, .ref (a)), (2, .int (I ((i : Int) + 1)))]) [1, 2, 0] rfl ?_
          exact ih_2  (i + 1) (⟨by omega, upto_s hu hgb_18 (by omega)⟩) (by omega)
  refine tm_sub (L' := [(0, .ref (k_bo κ b)), (1, .ref (a)), (2, .int (I (0)))]) [1, 2, 0] rfl ?_
  exact hL_2 _ 0 (⟨by omega, upto_0⟩) (Nat.lt_succ_self _)

set_option maxHeartbeats 4000000 in
set_option maxRecDepth 100000 in
theorem c_B_insD (γ : tmG) (hst : γ.1.stackTraces = false) (Λ : tmL) (κ : KP) (σ : ST) (hM : RC γ.2.2.1 Λ κ σ) (hw : WF0 σ) (b : Int) (hb : 0 ≤ b ∧ b < s_nb σ) (a : Nat) (f t g : Int) (ha : Λ a = some (.inl (.inr (3, [.int (I f), .int (I t), .int (I g)])))) (hf : 0 ≤ f ∧ f ≤ 3000) : tm_Con γ (tm_h2 γ.2.1 γ.2.2.1 γ.2.2.2.1) M_X0_insertDefect 7 1 400 [.ref (k_bo κ b), .ref (a)] Λ (fun r w' => ∃ i : Nat, i ≤ (k_ds κ b).length ∧ tm_ul Λ (k_bd κ b) (((k_ds κ b).map (k_df κ)).take i ++ a :: ((k_ds κ b).map (k_df κ)).drop i) = w' ∧ upto (k_ds κ b) i (fun k => s_fl σ (4 * k + 1) ≤ f) ∧ (∀ k, (k_ds κ b)[i]? = some k → f < s_fl σ (4 * k + 1)) ∧ r = none) := by
  refine tm_con hst (by decide) (Nat.le_of_ble_eq_true rfl) (fun x hB hR => ?_)
  have hg := hB.1
  subst hg
  have hC : tm_C x cX0_insertDefect RX0 (none) := hB.2.2.2.1
  have hn := wf_n hw
  have hb9 := wf_b hw b hb
  have hkl := rc_len hM hw b hb
  show tm_V x (tm_H x Λ) 1 400 0 [(0, .ref (k_bo κ b)), (1, .ref (a))] []
  refine tm_iconst hC dX0_insertDefect_0 ?_
  refine tm_istore_n [(2, .int (I (0))), (0, .ref (k_bo κ b)), (1, .ref (a))] hC dX0_insertDefect_1 rfl (by rw [hB.2.1]; exact Nat.le_of_ble_eq_true rfl) rfl ?_
  have hL_2 : ∀ (fu : Nat) (i : Nat), ((i : Int) ≤ ((k_ds κ b).length : Int) ∧ upto (k_ds κ b) i (fun k => s_fl σ (4 * k + 1) ≤ f)) → ((((k_ds κ b).length : Int) - i).toNat) < fu → tm_V x (tm_H x Λ) 1 400 2 [(0, .ref (k_bo κ b)), (1, .ref (a)), (2, .int (I ((i : Int))))] [] := by
    intro fu
    induction fu with
    | zero => intro i hinv hm; exact absurd hm (Nat.not_lt_zero _)
    | succ fu ih_2 =>
      intro i hinv_2 hm_2
      obtain ⟨hi, hu⟩ := hinv_2
      refine tm_iload_n 2 hC dX0_insertDefect_2 rfl rfl ?_
      refine tm_aload_n 0 hC dX0_insertDefect_3 rfl rfl ?_
      have hx1 := rc_B hM b (by omega)
      refine tm_getf2 hC f_X0_10 hx1 rfl dX0_insertDefect_4 ?_
      refine tm_callV (b := 1) (n := 400) (rest := [.int (I ((i : Int)))]) hC (c_Lsz (tm_g x) hst _ _ _ (((k_ds κ b).length : Int)) (rc_bd hM b (by omega)) (len_m _ _)) k_X0_29 (by rw [hB.2.2.1]; exact ⟨Nat.le_of_ble_eq_true rfl, Nat.le_of_ble_eq_true rfl⟩) rfl (tm_recL hC (rc_bd hM b (by omega))) rfl (by simp [Value.category]) dX0_insertDefect_7 (fun v_7 w_7 hp_7 => ?_)
      obtain ⟨rfl, rfl⟩ := hp_7
      show tm_V x (tm_H x Λ) 1 400 10 [(0, .ref (k_bo κ b)), (1, .ref (a)), (2, .int (I ((i : Int))))] [.int (I (((k_ds κ b).length : Int))), .int (I ((i : Int)))]
      refine tm_icmp_ge 40 hC dX0_insertDefect_10 (by decide) (by omega) (fun c_10 => ?_) (fun c_10 => ?_)
      · refine tm_aload_n 0 hC dX0_insertDefect_40 rfl rfl ?_
        refine tm_getf2 hC f_X0_10 hx1 rfl dX0_insertDefect_41 ?_
        refine tm_iload_n 2 hC dX0_insertDefect_44 rfl rfl ?_
        refine tm_aload_n 1 hC dX0_insertDefect_45 rfl rfl ?_
        refine tm_less (b' := 1 + 0) (n' := 400 + 0) ⟨by omega, by omega⟩ ?_
        refine tm_callV (b := 0) (n := 0) (rest := []) hC (c_Laddi (tm_g x) hst _ _ a (i : Int) ((k_ds κ b).map (k_df κ)) (rc_bd hM b (by omega)) ⟨_, _, _, ha, rfl, w_el_X2, by decide⟩ (by rw [List.length_map]; omega) (by rw [List.length_map]; omega)) k_X0_42 (by rw [hB.2.2.1]; exact ⟨Nat.le_of_ble_eq_true rfl, Nat.le_of_ble_eq_true rfl⟩) rfl (tm_recL hC (rc_bd hM b (by omega))) rfl (by decide) dX0_insertDefect_46 (fun v_46 w_46 hp_46 => ?_)
        obtain ⟨hwi, rfl⟩ := hp_46
        show tm_V x (tm_H x w_46) 0 0 49 [(0, .ref (k_bo κ b)), (1, .ref (a)), (2, .int (I ((i : Int))))] []
        exact tm_vret hC hR dX0_insertDefect_49 (⟨i, by omega, hwi, hu, (fun k hk => by rw [List.getElem?_eq_none (by omega)] at hk; cases hk), rfl⟩)
      · refine tm_aload_n 0 hC dX0_insertDefect_13 rfl rfl ?_
        refine tm_getf2 hC f_X0_10 hx1 rfl dX0_insertDefect_14 ?_
        refine tm_iload_n 2 hC dX0_insertDefect_17 rfl rfl ?_
        obtain ⟨d_18, hga_18, hgb_18, hgc_18, hgd_18⟩ := rc_dat hM b (by omega) i (by omega)
        have hg9_18 := wf_d hw d_18 hgc_18
        refine tm_callV (b := 1) (n := 400) (rest := []) hC (c_Lget (tm_g x) hst _ _ _ (i : Int) (k_df κ d_18) (rc_bd hM b (by omega)) (by omega) (hga_18)) k_X0_33 (by rw [hB.2.2.1]; exact ⟨Nat.le_of_ble_eq_true rfl, Nat.le_of_ble_eq_true rfl⟩) rfl (tm_recL hC (rc_bd hM b (by omega))) rfl (by decide) dX0_insertDefect_18 (fun v_18 w_18 hp_18 => ?_)
        obtain ⟨rfl, rfl⟩ := hp_18
        show tm_V x (tm_H x Λ) 1 400 21 [(0, .ref (k_bo κ b)), (1, .ref (a)), (2, .int (I ((i : Int))))] [.ref (k_df κ d_18)]
        have hx2 := rc_D hM d_18 (by omega)
        refine tm_cast2 hC hx2 rfl w_X0_37 dX0_insertDefect_21 ?_
        refine tm_getf2 hC f_X0_39 hx2 rfl dX0_insertDefect_24 ?_
        refine tm_aload_n 1 hC dX0_insertDefect_27 rfl rfl ?_
        refine tm_getf2 hC f_X0_39 ha rfl dX0_insertDefect_28 ?_
        refine tm_icmp_gt 40 hC dX0_insertDefect_31 (by decide) (by omega) (fun c_31 => ?_) (fun c_31 => ?_)
        · refine tm_aload_n 0 hC dX0_insertDefect_40 rfl rfl ?_
          refine tm_getf2 hC f_X0_10 hx1 rfl dX0_insertDefect_41 ?_
          refine tm_iload_n 2 hC dX0_insertDefect_44 rfl rfl ?_
          refine tm_aload_n 1 hC dX0_insertDefect_45 rfl rfl ?_
          refine tm_less (b' := 1 + 0) (n' := 400 + 0) ⟨by omega, by omega⟩ ?_
          refine tm_callV (b := 0) (n := 0) (rest := []) hC (c_Laddi (tm_g x) hst _ _ a (i : Int) ((k_ds κ b).map (k_df κ)) (rc_bd hM b (by omega)) ⟨_, _, _, ha, rfl, w_el_X2, by decide⟩ (by rw [List.length_map]; omega) (by rw [List.length_map]; omega)) k_X0_42 (by rw [hB.2.2.1]; exact ⟨Nat.le_of_ble_eq_true rfl, Nat.le_of_ble_eq_true rfl⟩) rfl (tm_recL hC (rc_bd hM b (by omega))) rfl (by decide) dX0_insertDefect_46 (fun v_46 w_46 hp_46 => ?_)
          obtain ⟨hwi, rfl⟩ := hp_46
          show tm_V x (tm_H x w_46) 0 0 49 [(0, .ref (k_bo κ b)), (1, .ref (a)), (2, .int (I ((i : Int))))] []
          exact tm_vret hC hR dX0_insertDefect_49 (⟨i, by omega, hwi, hu, (fun k hk => by rw [hgb_18] at hk; cases hk; omega), rfl⟩)
        · refine tm_iinc 2 [(2, .int (I ((i : Int) + 1))), (0, .ref (k_bo κ b)), (1, .ref (a))] hC dX0_insertDefect_34 rfl (by rw [hB.2.1]; exact Nat.le_of_ble_eq_true rfl) rfl ?_
          refine tm_goto 2 hC dX0_insertDefect_37 (by decide) ?_
          refine tm_sub (L' := [(0, .ref (k_bo κ b)), (1, .ref (a)), (2, .int (I ((i : Int) + 1)))]) [1, 2, 0] rfl ?_
          exact ih_2  (i + 1) (⟨by omega, upto_s hu hgb_18 (by omega)⟩) (by omega)
  refine tm_sub (L' := [(0, .ref (k_bo κ b)), (1, .ref (a)), (2, .int (I (0)))]) [1, 2, 0] rfl ?_
  exact hL_2 _ 0 (⟨by omega, upto_0⟩) (Nat.lt_succ_self _)
