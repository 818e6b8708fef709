theorem Bst_of {σ : ST} {os : List Int} {i : Nat} {p : Int} (h : Ordd σ os) (hu : upto os i (fun q => ¬ canP σ q)) (hp : os[i]? = some p) : Bst σ p := by
  intro q hq
  obtain ⟨j, hj⟩ := List.getElem?_of_mem ((h.1 q).mpr hq.1)
  rcases Nat.lt_trichotomy j i with z | z | z
  · exact absurd hq (hu j q z hj)
  · subst z; rw [hp] at hj; cases hj; exact Or.inl rfl
  · exact Or.inr (h.2.2 i j p q z hp hj)
theorem tight_no {σ : ST} {p : Int} (h : ∀ b pl, 0 ≤ b ∧ b < s_nb σ → isEarl σ p b pl → pl = -1) : ¬ canP σ p :=
  canP_not (b := s_nb σ) (Int.le_refl _) (fun _ j hj => by
    obtain ⟨r, hr⟩ := isEarl_ex σ p j
    have e := h j r hj hr
    subst e
    exact hr)
theorem tight_yes {σ : ST} {p b l : Int} (hp : 0 ≤ p ∧ p < s_np σ) (hl : 0 < s_wa σ (4 * p + 3)) (hb : 0 ≤ b ∧ b < s_nb σ) (h : onN σ p (s_nb σ) b l) : canP σ p ∧ ∃ pl, isEarl σ p b pl ∧ bestB σ p b pl := by
  have hc : canP σ p := by
    rcases h with ⟨h1, -⟩ | ⟨-, ⟨pl, h2, h3, h4⟩, -⟩
    · omega
    · exact canP_of hp hl hb h2 (by omega)
  obtain ⟨pl, h1, h2, h3, h4⟩ := onN_best h (Int.le_refl _) (Int.le_refl _) hc (fun b hb => isEarl_ex σ p b)
  exact ⟨hc, pl, h2, h4⟩

theorem tm_astoreN {x : tmX} {cc : ByteArray} {own : String} {ret : Option FieldType} {G : Heap → Prop} {b n pc : Nat} {L : List (Nat × Value)} {st : List Value} {i : Nat} (L' : List (Nat × Value)) (hC : tm_C x cc own ret) (hd : decode cc pc = .ok (.astore i, 2)) (hn : i < tm_nL x) (hl0 : (i, Value.null) :: L.filter (fun q => !(q.1 == i) && !(q.1 + 1 == i && q.2.category == 2)) = L') (k : tm_V x G b n (pc + 2) L' st) : tm_V x G b n pc L (.null :: st) :=
  fun H locs ls cells slots h1 h2 hS hG hl => lv_astoreN hC.1 hC.2.1 hd hl hn hl0 (fun ls' hl' => k H locs ls' cells slots h1 h2 hS hG hl')
theorem tm_aloadN {x : tmX} {cc : ByteArray} {own : String} {ret : Option FieldType} {G : Heap → Prop} {b n pc : Nat} {L : List (Nat × Value)} {st : List Value} {i : Nat} (p : Nat) (hC : tm_C x cc own ret) (hd : decode cc pc = .ok (.aload i, 2)) (hl0 : L[p]? = some (i, .null)) (k : tm_V x G b n (pc + 2) L (.null :: st)) : tm_V x G b n pc L st :=
  fun H locs ls cells slots h1 h2 hS hG hl => lv_aloadN hC.1 hC.2.1 hd (lv_at hl p hl0) (k H locs ls cells slots h1 h2 hS hG hl)

set_option maxHeartbeats 4000000 in
set_option maxRecDepth 100000 in
theorem c_T_cutW (γ : tmG) (hst : γ.1.stackTraces = false) (Λ : tmL) (κ : KP) (σ : ST) (hM : RC γ.2.2.1 Λ κ σ) (hw : WF0 σ) (p : Int) (hp : 0 ≤ p ∧ p < s_np σ) (hW : WF σ) (hG : grp (s_aj σ) (s_cu σ) (k_cs κ) 0 (s_nm σ)) (n : Nat) (s9 : ST) (hRn : RunP p n σ s9) : tm_Con γ (tm_h2 γ.2.1 γ.2.2.1 γ.2.2.2.1) M_X5_cutWhilePossible 11 (4 * n) (808 * n) [.ref (k_o κ), .ref (k_pa κ p)] Λ (fun v w' => ∃ κ', RC γ.2.2.1 w' κ' s9 ∧ grp (s_aj s9) (s_cu s9) (k_cs κ') 0 (s_nm s9) ∧ k_o κ' = k_o κ ∧ (∀ c, k_pa κ' c = k_pa κ c) ∧ k_or κ' = k_or κ ∧ v = some (.int (I (n : Int)))) := by
  refine tm_con hst (by decide) (Nat.le_of_ble_eq_true rfl) (fun x hB hR => ?_)
  have hg := hB.1
  subst hg
  have hC : tm_C x cX5_cutWhilePossible RX5 (some FieldType.int) := hB.2.2.2.1
  have hn := wf_n hw
  have hp9 := wf_p hw p hp
  show tm_V x (tm_H x Λ) (4 * n) (808 * n) 0 [(0, .ref (k_o κ)), (1, .ref (k_pa κ p))] []
  refine tm_iconst hC dX5_cutWhilePossible_0 ?_
  refine tm_istore_n [(2, .int (I (0))), (0, .ref (k_o κ)), (1, .ref (k_pa κ p))] hC dX5_cutWhilePossible_1 rfl (by rw [hB.2.1]; exact Nat.le_of_ble_eq_true rfl) rfl ?_
  refine tm_aload_n 2 hC dX5_cutWhilePossible_2 rfl rfl ?_
  have hx1 := rc_P hM p (by omega)
  refine tm_getf2 hC f_X5_159 hx1 rfl dX5_cutWhilePossible_3 ?_
  refine tm_istore_n [(3, .int (I (s_wa σ (4 * p + 3)))), (2, .int (I (0))), (0, .ref (k_o κ)), (1, .ref (k_pa κ p))] hC dX5_cutWhilePossible_6 rfl (by rw [hB.2.1]; exact Nat.le_of_ble_eq_true rfl) rfl ?_
  have hL_7 : ∀ (fu : Nat) (W : tmL) (κ1 : KP) (σ1 : ST) (m : Nat) (dn : Int) (rem : Int), (RC (tm_T x) W κ1 σ1 ∧ WF σ1 ∧ grp (s_aj σ1) (s_cu σ1) (k_cs κ1) 0 (s_nm σ1) ∧ k_o κ1 = k_o κ ∧ (∀ c, k_pa κ1 c = k_pa κ c) ∧ k_or κ1 = k_or κ ∧ s_np σ1 = s_np σ ∧ rem = s_wa σ1 (4 * p + 3) ∧ RunP p m σ1 s9 ∧ dn + m = n ∧ 0 ≤ dn) → (rem.toNat) < fu → tm_V x (tm_H x W) (4 * m) (808 * m) 7 [(0, .ref (k_o κ1)), (1, .ref (k_pa κ1 p)), (2, .int (I (dn))), (3, .int (I (rem)))] [] := by
    intro fu
    induction fu with
    | zero => intro W κ1 σ1 m dn rem hinv hm; exact absurd hm (Nat.not_lt_zero _)
    | succ fu ih_7 =>
      intro W κ1 σ1 m dn rem hinv_7 hm_7
      obtain ⟨hM1, hW1, hG1, hko1, hka1, hkr1, hnp1, hrem1, hR1, hdn1, hdn0⟩ := hinv_7
      have hw1 := hW1.1
      have hp1 : 0 ≤ p ∧ p < s_np σ1 := by omega
      have hp91 := wf_p hw1 p hp1
      have hn1 := wf_n hw1
      refine tm_iload_n 3 hC dX5_cutWhilePossible_7 rfl rfl ?_
      refine tm_if_le 52 hC dX5_cutWhilePossible_8 (by decide) (by omega) (fun c_8 => ?_) (fun c_8 => ?_)
      · have hnc9 : ¬ canP σ1 p := fun z => by have := z.2.1; omega
        refine tm_iload_n 2 hC dX5_cutWhilePossible_52 rfl rfl ?_
        obtain ⟨hm0, hss9⟩ := RunP_end hR1 hnc9
        subst hss9
        exact tm_iret hC hR dX5_cutWhilePossible_53 (⟨κ1, hM1, hG1, hko1, hka1, hkr1, by rw [show dn = (n : Int) by omega]⟩)
      · refine tm_aload_n 0 hC dX5_cutWhilePossible_11 rfl rfl ?_
        refine tm_aload_n 1 hC dX5_cutWhilePossible_12 rfl rfl ?_
        refine tm_less (b' := 0 + (4 * m)) (n' := 0 + (808 * m)) ⟨by omega, by omega⟩ ?_
        refine tm_callV (b := (4 * m)) (n := (808 * m)) (rest := []) hC (c_T_tight (tm_g x) hst W κ1 σ1 hM1 hw1 p hp1) k_X5_300 (by rw [hB.2.2.1]; exact ⟨Nat.le_of_ble_eq_true rfl, Nat.le_of_ble_eq_true rfl⟩) rfl (tm_rec2 hC (rc_o hM1) rfl) rfl (by decide) dX5_cutWhilePossible_13 (fun v_13 w_13 hp_13 => ?_)
        obtain ⟨rfl, htb⟩ := hp_13
        rcases htb with ⟨rfl, htn⟩ | ⟨b9, l9, rfl, hb9, hon9⟩
        · show tm_V x (tm_H x W) (4 * m) (808 * m) 16 [(0, .ref (k_o κ1)), (1, .ref (k_pa κ1 p)), (2, .int (I (dn))), (3, .int (I (rem)))] [.null]
          have hnc9 : ¬ canP σ1 p := tight_no htn
          refine tm_astoreN [(4, .null), (0, .ref (k_o κ1)), (1, .ref (k_pa κ1 p)), (2, .int (I (dn))), (3, .int (I (rem)))] hC dX5_cutWhilePossible_16 (by rw [hB.2.1]; exact Nat.le_of_ble_eq_true rfl) rfl ?_
          refine tm_aloadN 0 hC dX5_cutWhilePossible_18 rfl ?_
          refine tm_ifnonnullN hC dX5_cutWhilePossible_20 ?_
          refine tm_goto 52 hC dX5_cutWhilePossible_23 (by decide) ?_
          refine tm_iload_n 3 hC dX5_cutWhilePossible_52 rfl rfl ?_
          obtain ⟨hm0, hss9⟩ := RunP_end hR1 hnc9
          subst hss9
          exact tm_iret hC hR dX5_cutWhilePossible_53 (⟨κ1, hM1, hG1, hko1, hka1, hkr1, by rw [show dn = (n : Int) by omega]⟩)
        · show tm_V x (tm_H x W) (4 * m) (808 * m) 16 [(0, .ref (k_o κ1)), (1, .ref (k_pa κ1 p)), (2, .int (I (dn))), (3, .int (I (rem)))] [.ref (k_bo κ1 b9)]
          obtain ⟨hc9, pl9, hbe9, hbb9⟩ := tight_yes hp1 (by omega) hb9 hon9
          refine tm_astore [(4, .ref (k_bo κ1 b9)), (0, .ref (k_o κ1)), (1, .ref (k_pa κ1 p)), (2, .int (I (dn))), (3, .int (I (rem)))] hC dX5_cutWhilePossible_16 (by rw [hB.2.1]; exact Nat.le_of_ble_eq_true rfl) rfl ?_
          refine tm_aload 0 hC dX5_cutWhilePossible_18 rfl ?_
          refine tm_ifnonnull 26 hC dX5_cutWhilePossible_20 (by decide) ?_
          refine tm_aload_n 1 hC dX5_cutWhilePossible_26 rfl rfl ?_
          refine tm_aload_n 2 hC dX5_cutWhilePossible_27 rfl rfl ?_
          refine tm_aload 0 hC dX5_cutWhilePossible_28 rfl ?_
          refine tm_aload 0 hC dX5_cutWhilePossible_30 rfl ?_
          refine tm_aload_n 2 hC dX5_cutWhilePossible_32 rfl rfl ?_
          refine tm_aload_n 1 hC dX5_cutWhilePossible_33 rfl rfl ?_
          have hx2 := rc_o hM1
          refine tm_getf2 hC f_X5_33 hx2 rfl dX5_cutWhilePossible_34 ?_
          refine tm_less (b' := 0 + (4 * m)) (n' := 0 + (808 * m)) ⟨by omega, by omega⟩ ?_
          refine tm_callVN (b := (4 * m)) (n := (808 * m)) (rest := [.ref (k_bo κ1 b9), .ref (k_pa κ1 p), .ref (k_o κ1)]) hC (c_B_earliest (tm_g x) hst W κ1 σ1 hM1 hw1 b9 (by omega) p (by omega)) k_X5_155 (by rw [hB.2.2.1]; exact ⟨Nat.le_of_ble_eq_true rfl, Nat.le_of_ble_eq_true rfl⟩) rfl (tm_rec2 hC (rc_B hM1 b9 (by omega)) rfl) rfl (by simp [Value.category]) dX5_cutWhilePossible_37 (fun v_37 w_37 hp_37 => ?_)
          obtain ⟨rfl, r_37, rfl, he_37, heb_37, hex_37⟩ := hp_37
          show tm_V x (tm_H x W) (4 * m) (808 * m) 40 [(4, .ref (k_bo κ1 b9)), (0, .ref (k_o κ1)), (1, .ref (k_pa κ1 p)), (2, .int (I (dn))), (3, .int (I (rem)))] [.int (I (r_37)), .ref (k_bo κ1 b9), .ref (k_pa κ1 p), .ref (k_o κ1)]
          clear hex_37
          have hbB9 : bestB σ1 p b9 r_37 := by rw [isEarl_u he_37 hbe9]; exact hbb9
          obtain ⟨m9, hm9, hR9⟩ := RunP_go hR1 hc9 hbB9
          have hrm9 := wf_room hW1 hp1 (by omega)
          have hcw9 := cutS_wf hW1 hp1 hb9 (by omega) (bestB_P hbB9).2.2
          have hwa9 : s_wa (cutS σ1 p b9 r_37) (4 * p + 3) = s_wa σ1 (4 * p + 3) - 1 := by show tm_ui _ _ _ _ = _; rw [tm_ui_s]; rfl
          refine tm_less (b' := 4 + (4 * m9)) (n' := 808 + (808 * m9)) ⟨by omega, by omega⟩ ?_
          refine tm_callV (b := (4 * m9)) (n := (808 * m9)) (rest := []) hC (c_T_cutS (tm_g x) hst _ κ1 σ1 hM1 hw1 p hp1 b9 hb9 r_37 (by omega) (bestB_P hbB9).2.2 (by omega) hG1) k_X5_166 (by rw [hB.2.2.1]; exact ⟨Nat.le_of_ble_eq_true rfl, Nat.le_of_ble_eq_true rfl⟩) rfl (tm_rec2 hC (rc_o hM1) rfl) rfl (by decide) dX5_cutWhilePossible_40 (fun v_40 w_40 hp_40 => ?_)
          obtain ⟨⟨κ9, hRC9, hG9, hko9, hka9, hkb9, hkr9⟩, rfl⟩ := hp_40
          rw [← hko9, ← hka9 p]
          show tm_V x (tm_H x w_40) (4 * m9) (808 * m9) 43 [(4, .ref (k_bo κ1 b9)), (0, .ref (k_o κ9)), (1, .ref (k_pa κ9 p)), (2, .int (I (dn))), (3, .int (I (rem)))] []
          refine tm_iinc 3 [(2, .int (I (dn + 1))), (4, .ref (k_bo κ1 b9)), (0, .ref (k_o κ9)), (1, .ref (k_pa κ9 p)), (3, .int (I (rem)))] hC dX5_cutWhilePossible_43 rfl (by rw [hB.2.1]; exact Nat.le_of_ble_eq_true rfl) rfl ?_
          refine tm_iinc 4 [(3, .int (I (rem + (-1)))), (2, .int (I (dn + 1))), (4, .ref (k_bo κ1 b9)), (0, .ref (k_o κ9)), (1, .ref (k_pa κ9 p))] hC dX5_cutWhilePossible_46 rfl (by rw [hB.2.1]; exact Nat.le_of_ble_eq_true rfl) rfl ?_
          refine tm_goto 7 hC dX5_cutWhilePossible_49 (by decide) ?_
          refine tm_sub (L' := [(0, .ref (k_o κ9)), (1, .ref (k_pa κ9 p)), (2, .int (I (dn + 1))), (3, .int (I (rem + (-1))))]) [3, 4, 1, 0] rfl ?_
          exact ih_7  w_40 κ9 (cutS σ1 p b9 r_37) m9 (dn + 1) (rem + (-1)) (⟨hRC9, hcw9.1, hG9, hko9.trans hko1, fun c => (hka9 c).trans (hka1 c), hkr9.trans hkr1, hnp1, by omega, hR9, by omega, by omega⟩) (by omega)
  refine tm_sub (L' := [(0, .ref (k_o κ)), (1, .ref (k_pa κ p)), (2, .int (I (0))), (3, .int (I (s_wa σ (4 * p + 3))))]) [2, 3, 1, 0] rfl ?_
  exact hL_7 _ Λ κ σ n 0 (s_wa σ (4 * p + 3)) (⟨hM, hW, hG, rfl, fun c => rfl, rfl, rfl, rfl, hRn, by omega, by omega⟩) (Nat.lt_succ_self _)

set_option maxHeartbeats 4000000 in
set_option maxRecDepth 100000 in
theorem c_T_plan (γ : tmG) (hst : γ.1.stackTraces = false) (Λ : tmL) (κ : KP) (σ : ST) (hM : RC γ.2.2.1 Λ κ σ) (hw : WF0 σ) (hW : WF σ) (hG : grp (s_aj σ) (s_cu σ) (k_cs κ) 0 (s_nm σ)) (N : Nat) (s0 : ST) (hN : PlanN N σ s0) : tm_Con γ (tm_h2 γ.2.1 γ.2.2.1 γ.2.2.2.1) M_X5_plan 12 (4 * N) (808 * N) [.ref (k_o κ)] Λ (fun v w' => ∃ κ', RC γ.2.2.1 w' κ' s0 ∧ grp (s_aj s0) (s_cu s0) (k_cs κ') 0 (s_nm s0) ∧ k_o κ' = k_o κ ∧ v = some (.int (I (N : Int)))) := by
  refine tm_con hst (by decide) (Nat.le_of_ble_eq_true rfl) (fun x hB hR => ?_)
  have hg := hB.1
  subst hg
  have hC : tm_C x cX5_plan RX5 (some FieldType.int) := hB.2.2.2.1
  have hn := wf_n hw
  show tm_V x (tm_H x Λ) (4 * N) (808 * N) 0 [(0, .ref (k_o κ))] []
  refine tm_iconst hC dX5_plan_0 ?_
  refine tm_istore_n [(1, .int (I (0))), (0, .ref (k_o κ))] hC dX5_plan_1 rfl (by rw [hB.2.1]; exact Nat.le_of_ble_eq_true rfl) rfl ?_
  refine tm_iconst hC dX5_plan_2 ?_
  refine tm_istore_n [(2, .int (I (0))), (1, .int (I (0))), (0, .ref (k_o κ))] hC dX5_plan_3 rfl (by rw [hB.2.1]; exact Nat.le_of_ble_eq_true rfl) rfl ?_
  have hL_4 : ∀ (fu : Nat) (W : tmL) (κ1 : KP) (σ1 : ST) (m : Nat) (dn : Int) (i : Nat), (RC (tm_T x) W κ1 σ1 ∧ WF σ1 ∧ grp (s_aj σ1) (s_cu σ1) (k_cs κ1) 0 (s_nm σ1) ∧ k_o κ1 = k_o κ ∧ k_or κ1 = k_or κ ∧ s_np σ1 = s_np σ ∧ PlanN m σ1 s0 ∧ dn + m = N ∧ 0 ≤ dn ∧ i ≤ (k_or κ).length ∧ upto (k_or κ) i (fun q => ¬ canP σ1 q)) → ((((k_or κ).length : Int) - i).toNat) < fu → tm_V x (tm_H x W) (4 * m) (808 * m) 4 [(0, .ref (k_o κ1)), (1, .int (I (dn))), (2, .int (I ((i : Int))))] [] := by
    intro fu
    induction fu with
    | zero => intro W κ1 σ1 m dn i hinv hm; exact absurd hm (Nat.not_lt_zero _)
    | succ fu ih_4 =>
      intro W κ1 σ1 m dn i hinv_4 hm_4
      obtain ⟨hM1, hW1, hG1, hko1, hkr1, hnp1, hN1, hdn1, hdn0, hi1, hu1⟩ := hinv_4
      have hw1 := hW1.1
      have hn1 := wf_n hw1
      have hkl1 : ((k_or κ1).length : Int) = ((k_or κ).length : Int) := by rw [hkr1]
      have hkl2 := (rc_or hM1).2.1
      refine tm_iload_n 2 hC dX5_plan_4 rfl rfl ?_
      refine tm_aload_n 0 hC dX5_plan_5 rfl rfl ?_
      have hx1 := rc_o hM1
      refine tm_getf2 hC f_X5_19 hx1 rfl dX5_plan_6 ?_
      refine tm_less (b' := 0 + (4 * m)) (n' := 0 + (808 * m)) ⟨by omega, by omega⟩ ?_
      refine tm_callV (b := (4 * m)) (n := (808 * m)) (rest := [.int (I ((i : Int)))]) hC (c_Lsz (tm_g x) hst _ _ _ (((k_or κ1).length : Int)) (rc_lo hM1) (len_m _ _)) k_X5_54 (by rw [hB.2.2.1]; exact ⟨Nat.le_of_ble_eq_true rfl, Nat.le_of_ble_eq_true rfl⟩) rfl (tm_recL hC (rc_lo hM1)) rfl (by simp [Value.category]) dX5_plan_9 (fun v_9 w_9 hp_9 => ?_)
      obtain ⟨rfl, rfl⟩ := hp_9
      show tm_V x (tm_H x W) (4 * m) (808 * m) 12 [(0, .ref (k_o κ1)), (1, .int (I (dn))), (2, .int (I ((i : Int))))] [.int (I (((k_or κ1).length : Int))), .int (I ((i : Int)))]
      refine tm_icmp_ge 39 hC dX5_plan_12 (by decide) (by omega) (fun c_12 => ?_) (fun c_12 => ?_)
      · refine tm_iload_n 1 hC dX5_plan_39 rfl rfl ?_
        have hno9 : ∀ q, ¬ canP σ1 q := fun q z => upto_a hu1 (by omega) q (by rw [← hkr1]; exact ((rc_or hM1).1 q).mpr z.1) z
        obtain ⟨hm0, hss9⟩ := PlanN_end hN1 hno9
        subst hss9
        exact tm_iret hC hR dX5_plan_40 (⟨κ1, hM1, hG1, hko1, by rw [show dn = (N : Int) by omega]⟩)
      · refine tm_iload_n 1 hC dX5_plan_15 rfl rfl ?_
        refine tm_aload_n 0 hC dX5_plan_16 rfl rfl ?_
        refine tm_aload_n 0 hC dX5_plan_17 rfl rfl ?_
        refine tm_getf2 hC f_X5_19 hx1 rfl dX5_plan_18 ?_
        refine tm_iload_n 2 hC dX5_plan_21 rfl rfl ?_
        obtain ⟨p_22, hga_22, hgb_22, hgc_22⟩ := rc_oat hM1 i (by omega)
        have hg9_22 := wf_p hw1 p_22 hgc_22
        refine tm_less (b' := 0 + (4 * m)) (n' := 0 + (808 * m)) ⟨by omega, by omega⟩ ?_
        refine tm_callV (b := (4 * m)) (n := (808 * m)) (rest := [.ref (k_o κ1), .int (I (dn))]) hC (c_Lget (tm_g x) hst _ _ _ (i : Int) (k_pa κ1 p_22) (rc_lo hM1) (by omega) (hga_22)) k_X5_230 (by rw [hB.2.2.1]; exact ⟨Nat.le_of_ble_eq_true rfl, Nat.le_of_ble_eq_true rfl⟩) rfl (tm_recL hC (rc_lo hM1)) rfl (by simp [Value.category]) dX5_plan_22 (fun v_22 w_22 hp_22 => ?_)
        obtain ⟨rfl, rfl⟩ := hp_22
        show tm_V x (tm_H x W) (4 * m) (808 * m) 25 [(0, .ref (k_o κ1)), (1, .int (I (dn))), (2, .int (I ((i : Int))))] [.ref (k_pa κ1 p_22), .ref (k_o κ1), .int (I (dn))]
        have hx2 := rc_P hM1 p_22 (by omega)
        refine tm_cast2 hC hx2 rfl w_X5_99 dX5_plan_25 ?_
        obtain ⟨n9, s9, hR9⟩ := RunP_ex (p := p_22) 108 hW1 (tl_le hW1)
        have hB9 : Bst σ1 p_22 := Bst_of (rc_or hM1) (by rw [hkr1]; exact hu1) hgb_22
        obtain ⟨m9, hm9, hN9, hW9, hc9, hpr9, hnp9⟩ := RunP_N n9 m hW1 hB9 hR9 hN1
        refine tm_less (b' := (4 * n9) + (4 * m9)) (n' := (808 * n9) + (808 * m9)) ⟨by omega, by omega⟩ ?_
        refine tm_callV (b := (4 * m9)) (n := (808 * m9)) (rest := [.int (I (dn))]) hC (c_T_cutW (tm_g x) hst _ κ1 σ1 hM1 hw1 p_22 hgc_22 hW1 hG1 n9 s9 hR9) k_X5_233 (by rw [hB.2.2.1]; exact ⟨Nat.le_of_ble_eq_true rfl, Nat.le_of_ble_eq_true rfl⟩) rfl (tm_rec2 hC (rc_o hM1) rfl) rfl (by simp [Value.category]) dX5_plan_28 (fun v_28 w_28 hp_28 => ?_)
        obtain ⟨κ9, hRC9, hG9, hko9, hka9, hkr9, rfl⟩ := hp_28
        rw [← hko9]
        show tm_V x (tm_H x w_28) (4 * m9) (808 * m9) 31 [(0, .ref (k_o κ9)), (1, .int (I (dn))), (2, .int (I ((i : Int))))] [.int (I ((n9 : Int))), .int (I (dn))]
        refine tm_iadd hC dX5_plan_31 ?_
        refine tm_istore_n [(1, .int (I (dn + (n9 : Int)))), (0, .ref (k_o κ9)), (2, .int (I ((i : Int))))] hC dX5_plan_32 rfl (by rw [hB.2.1]; exact Nat.le_of_ble_eq_true rfl) rfl ?_
        refine tm_iinc 2 [(2, .int (I ((i : Int) + 1))), (1, .int (I (dn + (n9 : Int)))), (0, .ref (k_o κ9))] hC dX5_plan_33 rfl (by rw [hB.2.1]; exact Nat.le_of_ble_eq_true rfl) rfl ?_
        refine tm_goto 4 hC dX5_plan_36 (by decide) ?_
        refine tm_sub (L' := [(0, .ref (k_o κ9)), (1, .int (I (dn + (n9 : Int)))), (2, .int (I ((i : Int) + 1)))]) [2, 1, 0] rfl ?_
        exact ih_4  w_28 κ9 s9 m9 (dn + (n9 : Int)) (i + 1) (⟨hRC9, hW9, hG9, hko9.trans hko1, hkr9.trans hkr1, hnp9.trans hnp1, hN9, by omega, by omega, by omega, upto_s (upto_m hu1 (fun q h z => h (hc9 q z))) (by rw [← hkr1]; exact hgb_22) (RunP_no n9 hR9)⟩) (by omega)
  refine tm_sub (L' := [(0, .ref (k_o κ)), (1, .int (I (0))), (2, .int (I (0)))]) [2, 1, 0] rfl ?_
  exact hL_4 _ Λ κ σ N 0 0 (⟨hM, hW, hG, rfl, rfl, rfl, hN, by omega, by omega, by omega, upto_0⟩) (Nat.lt_succ_self _)
