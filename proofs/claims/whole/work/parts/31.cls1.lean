theorem rc_kai {T : ClassId × ClassId × ClassId × ClassId} {Λ : tmL} {κ : KP} {σ : ST} (h : RC T Λ κ σ) (hw : WF0 σ) (b : Int) (hb : 0 ≤ b ∧ b < s_nb σ) (i : Int) (hi : 0 ≤ i ∧ i < ((k_ks κ b).length : Int)) : ∃ k, ((k_ks κ b).map (k_pc κ))[i.toNat]? = some (k_pc κ k) ∧ (k_ks κ b)[i.toNat]? = some k ∧ (0 ≤ k ∧ k < s_nm σ) ∧ s_cu σ (4 * k) = b := by
  obtain ⟨k, h1, h2⟩ := rc_kat h hw b hb i.toNat (by omega)
  exact ⟨k, by rw [show ((i.toNat : Nat) : Int) = i by omega] at h1; exact h1, h2⟩
def grE (σ : ST) (b pl w : Int) : Prop := (w = s_wo σ (3 * b + 2) ∨ ∃ d, (0 ≤ d ∧ d < s_nd σ) ∧ s_fl σ (4 * d) = b ∧ s_fl σ (4 * d + 1) ≤ pl ∧ pl < s_fl σ (4 * d + 2) ∧ s_fl σ (4 * d + 3) = w)
/-- the first place from a place on whose grade is greater; the length -/
def isFW (σ : ST) (b g pl r : Int) : Prop := pl ≤ r ∧ r ≤ s_wo σ (3 * b) ∧ (∀ q, pl ≤ q → q < r → gdP σ b g q) ∧ (r < s_wo σ (3 * b) → ¬ gdP σ b g r)
def isFG (σ : ST) (b g pl r : Int) : Prop := pl ≤ r ∧ r ≤ s_wo σ (3 * b) ∧ (∀ q, pl ≤ q → q < r → ¬ gdP σ b g q) ∧ (r < s_wo σ (3 * b) → gdP σ b g r)
theorem fw_bad {σ : ST} {b g pl : Int} (hl : pl ≤ s_wo σ (3 * b)) (h : g < s_wo σ (3 * b + 2)) : isFW σ b g pl pl := ⟨Int.le_refl _, hl, fun q q1 q2 => by omega, fun _ z => by have := z.1; omega⟩
theorem ds_of {σ : ST} {b : Int} {ds : List Int} (h : Dsr σ b ds) {d : Int} (hd : 0 ≤ d ∧ d < s_nd σ) (e : s_fl σ (4 * d) = b) : ∃ j : Nat, ds[j]? = some d := List.getElem?_of_mem ((h.1 d).mpr ⟨hd, e⟩)
theorem fw_hit {σ : ST} {b g pl d : Int} {ds : List Int} {i : Nat} (hw : WF0 σ) (hs : Dsr σ b ds) (hp : pl ≤ s_wo σ (3 * b)) (hg : s_wo σ (3 * b + 2) ≤ g) (hu : upto ds i (fun d => g < s_fl σ (4 * d + 3) → s_fl σ (4 * d + 2) ≤ pl)) (hd : ds[i]? = some d) (hk : 0 ≤ d ∧ d < s_nd σ) (hb : s_fl σ (4 * d) = b) (h1 : g < s_fl σ (4 * d + 3)) (h2 : pl < s_fl σ (4 * d + 2)) : isFW σ b g pl (max (s_fl σ (4 * d + 1)) pl) := by
  have h9 := wf_d hw d hk
  rw [hb] at h9
  refine ⟨by omega, by omega, fun q q1 q2 => ⟨hg, fun e he e1 e2 e3 => ?_⟩, fun _ z => ?_⟩
  · apply Int.le_of_not_gt
    intro hbad
    obtain ⟨j, hj⟩ := ds_of hs he e1
    rcases Nat.lt_trichotomy j i with z | z | z
    · have := hu j e z hj hbad; omega
    · subst z; rw [hd] at hj; cases hj; omega
    · have := hs.2.2 i j d e z hd hj; omega
  · have := z.2 d hk hb (by omega) (by omega)
    omega
theorem fw_none {σ : ST} {b g pl : Int} {ds : List Int} {i : Nat} (hs : Dsr σ b ds) (hp : pl ≤ s_wo σ (3 * b)) (hg : s_wo σ (3 * b + 2) ≤ g) (hu : upto ds i (fun d => g < s_fl σ (4 * d + 3) → s_fl σ (4 * d + 2) ≤ pl)) (hl : (ds.length : Int) ≤ i) : isFW σ b g pl (s_wo σ (3 * b)) := by
  refine ⟨hp, Int.le_refl _, fun q q1 q2 => ⟨hg, fun e he e1 e2 e3 => ?_⟩, fun z => absurd z (Int.lt_irrefl _)⟩
  apply Int.le_of_not_gt
  intro hbad
  have := upto_a hu hl e ((hs.1 e).mpr ⟨he, e1⟩) hbad
  omega
theorem fg_bad {σ : ST} {b g pl : Int} (hl : pl ≤ s_wo σ (3 * b)) (h : g < s_wo σ (3 * b + 2)) : isFG σ b g pl (s_wo σ (3 * b)) := ⟨hl, Int.le_refl _, fun q q1 q2 z => by have := z.1; omega, fun z => absurd z (Int.lt_irrefl _)⟩
theorem fg_move {σ : ST} {b g gd d : Int} {ds : List Int} {i : Nat} (hs : Dsr σ b ds) (hu : upto ds i (fun d => g < s_fl σ (4 * d + 3) → s_fl σ (4 * d + 2) ≤ gd ∨ gd < s_fl σ (4 * d + 1))) (hd : ds[i]? = some d) (h2 : s_fl σ (4 * d + 1) ≤ gd) (h3 : gd < s_fl σ (4 * d + 2)) : upto ds (i + 1) (fun e => g < s_fl σ (4 * e + 3) → s_fl σ (4 * e + 2) ≤ s_fl σ (4 * d + 2) ∨ s_fl σ (4 * d + 2) < s_fl σ (4 * e + 1)) := by
  refine upto_s (fun j e hj he hbad => ?_) hd (fun _ => Or.inl (Int.le_refl _))
  have h4 := hs.2.2 j i e d hj he hd
  have h5 := hu j e hj he hbad
  omega
theorem fg_bads {σ : ST} {b g pl gd d : Int} (hn : ∀ q, pl ≤ q → q < gd → ¬ gdP σ b g q) (hk : 0 ≤ d ∧ d < s_nd σ) (hb : s_fl σ (4 * d) = b) (h1 : g < s_fl σ (4 * d + 3)) (h2 : s_fl σ (4 * d + 1) ≤ gd) : ∀ q, pl ≤ q → q < s_fl σ (4 * d + 2) → ¬ gdP σ b g q := by
  intro q q1 q2 z
  by_cases e : q < gd
  · exact hn q q1 e z
  · have := z.2 d hk hb (by omega) q2; omega
theorem fg_end {σ : ST} {b g pl gd : Int} {ds : List Int} {i : Nat} (hs : Dsr σ b ds) (hg : s_wo σ (3 * b + 2) ≤ g) (hp : pl ≤ gd ∧ gd ≤ s_wo σ (3 * b)) (hn : ∀ q, pl ≤ q → q < gd → ¬ gdP σ b g q) (hu : upto ds i (fun d => g < s_fl σ (4 * d + 3) → s_fl σ (4 * d + 2) ≤ gd ∨ gd < s_fl σ (4 * d + 1))) (hl : (ds.length : Int) ≤ i) : isFG σ b g pl gd := by
  refine ⟨hp.1, hp.2, hn, fun _ => ⟨hg, fun e he e1 e2 e3 => ?_⟩⟩
  apply Int.le_of_not_gt
  intro hbad
  have := upto_a hu hl e ((hs.1 e).mpr ⟨he, e1⟩) hbad
  omega
/-- the room ahead of the piece with a number -/
def rmS (σ : ST) (ks : List Int) (i : Nat) : Int := if i = 0 then 0 else match ks[i - 1]? with | none => 0 | some k => s_cu σ (4 * k + 2) + s_sw σ
def rmE (σ : ST) (b : Int) (ks : List Int) (i : Nat) : Int := match ks[i]? with | none => s_wo σ (3 * b) | some k => s_cu σ (4 * k + 1) - s_sw σ
theorem rmS_0 {σ : ST} {ks : List Int} : rmS σ ks 0 = 0 := if_pos rfl
theorem rmS_s {σ : ST} {ks : List Int} {i : Nat} {k : Int} (h : ks[i]? = some k) : rmS σ ks (i + 1) = s_cu σ (4 * k + 2) + s_sw σ := by
  unfold rmS
  rw [if_neg (by omega), show i + 1 - 1 = i from rfl, h]
theorem rmE_k {σ : ST} {b : Int} {ks : List Int} {i : Nat} {k : Int} (h : ks[i]? = some k) : rmE σ b ks i = s_cu σ (4 * k + 1) - s_sw σ := by
  unfold rmE; rw [h]
theorem rmE_n {σ : ST} {b : Int} {ks : List Int} {i : Nat} (h : ks.length ≤ i) : rmE σ b ks i = s_wo σ (3 * b) := by
  unfold rmE; rw [List.getElem?_eq_none h]

set_option maxHeartbeats 4000000 in
set_option maxRecDepth 100000 in
theorem c_K_isClearOf (γ : tmG) (hst : γ.1.stackTraces = false) (Λ : tmL) (a u v : Nat) (f t j : Int) (ha : Λ a = some (.inl (.inr (5, [.ref u, .ref v, .int (I f), .int (I t), .int (I j)])))) (s e w : Int) (hr : (-20000 ≤ f ∧ f ≤ 20000) ∧ (-20000 ≤ t ∧ t ≤ 20000) ∧ (-20000 ≤ s ∧ s ≤ 20000) ∧ (-20000 ≤ e ∧ e ≤ 20000) ∧ 0 ≤ w ∧ w ≤ 10) : tm_Con γ (tm_h2 γ.2.1 γ.2.2.1 γ.2.2.2.1) M_X4_isClearOf 1 0 0 [.ref (a), .int (I (s)), .int (I (e)), .int (I (w))] Λ (fun r w' => Λ = w' ∧ r = some (.int (I (bi (e + w ≤ f ∨ t + w ≤ s))))) := by
  refine tm_con hst (by decide) (Nat.le_of_ble_eq_true rfl) (fun x hB hR => ?_)
  have hg := hB.1
  subst hg
  have hC : tm_C x cX4_isClearOf RX4 (some FieldType.boolean) := hB.2.2.2.1
  have hr9 := hr
  show tm_V x (tm_H x Λ) 0 0 0 [(0, .ref (a)), (1, .int (I (s))), (2, .int (I (e))), (3, .int (I (w)))] []
  refine tm_iload_n 2 hC dX4_isClearOf_0 rfl rfl ?_
  refine tm_iload_n 3 hC dX4_isClearOf_1 rfl rfl ?_
  refine tm_iadd hC dX4_isClearOf_2 ?_
  refine tm_aload_n 0 hC dX4_isClearOf_3 rfl rfl ?_
  refine tm_getf2 hC f_X4_17 ha rfl dX4_isClearOf_4 ?_
  refine tm_icmp_le 20 hC dX4_isClearOf_7 (by decide) (by omega) (fun c_7 => ?_) (fun c_7 => ?_)
  · refine tm_iconst hC dX4_isClearOf_20 ?_
    refine tm_goto 25 hC dX4_isClearOf_21 (by decide) ?_
    exact tm_zret hC hR dX4_isClearOf_25 (by omega) (⟨rfl, by rw [bi_t (by omega)]⟩)
  · refine tm_aload_n 0 hC dX4_isClearOf_10 rfl rfl ?_
    refine tm_getf2 hC f_X4_21 ha rfl dX4_isClearOf_11 ?_
    refine tm_iload_n 3 hC dX4_isClearOf_14 rfl rfl ?_
    refine tm_iadd hC dX4_isClearOf_15 ?_
    refine tm_iload_n 1 hC dX4_isClearOf_16 rfl rfl ?_
    refine tm_icmp_gt 24 hC dX4_isClearOf_17 (by decide) (by omega) (fun c_17 => ?_) (fun c_17 => ?_)
    · refine tm_iconst hC dX4_isClearOf_24 ?_
      exact tm_zret hC hR dX4_isClearOf_25 (by omega) (⟨rfl, by rw [bi_f (by omega)]⟩)
    · refine tm_iconst hC dX4_isClearOf_20 ?_
      refine tm_goto 25 hC dX4_isClearOf_21 (by decide) ?_
      exact tm_zret hC hR dX4_isClearOf_25 (by omega) (⟨rfl, by rw [bi_t (by omega)]⟩)

set_option maxHeartbeats 4000000 in
set_option maxRecDepth 100000 in
theorem c_P_ahead (γ : tmG) (hst : γ.1.stackTraces = false) (Λ : tmL) (κ : KP) (σ : ST) (hM : RC γ.2.2.1 Λ κ σ) (hw : WF0 σ) (p : Int) (hp : 0 ≤ p ∧ p < s_np σ) (q : Int) (hq : 0 ≤ q ∧ q < s_np σ) : tm_Con γ (tm_h2 γ.2.1 γ.2.2.1 γ.2.2.2.1) M_X3_isPlannedAhead 1 0 0 [.ref (k_pa κ p), .ref (k_pa κ q)] Λ (fun r w' => Λ = w' ∧ r = some (.int (I (bi (s_wa σ (4 * q + 0) < s_wa σ (4 * p + 0) ∨ (s_wa σ (4 * p + 0) = s_wa σ (4 * q + 0) ∧ s_wa σ (4 * p + 2) < s_wa σ (4 * q + 2))))))) := by
  refine tm_con hst (by decide) (Nat.le_of_ble_eq_true rfl) (fun x hB hR => ?_)
  have hg := hB.1
  subst hg
  have hC : tm_C x cX3_isPlannedAhead RX3 (some FieldType.boolean) := hB.2.2.2.1
  have hp9 := wf_p hw p hp
  have hq9 := wf_p hw q hq
  show tm_V x (tm_H x Λ) 0 0 0 [(0, .ref (k_pa κ p)), (1, .ref (k_pa κ q))] []
  refine tm_aload_n 0 hC dX3_isPlannedAhead_0 rfl rfl ?_
  have hx1 := rc_P hM p (by omega)
  refine tm_getf2 hC f_X3_13 hx1 rfl dX3_isPlannedAhead_1 ?_
  refine tm_aload_n 1 hC dX3_isPlannedAhead_4 rfl rfl ?_
  have hx2 := rc_P hM q (by omega)
  refine tm_getf2 hC f_X3_13 hx2 rfl dX3_isPlannedAhead_5 ?_
  refine tm_icmp_gt 33 hC dX3_isPlannedAhead_8 (by decide) (by omega) (fun c_8 => ?_) (fun c_8 => ?_)
  · refine tm_iconst hC dX3_isPlannedAhead_33 ?_
    refine tm_goto 38 hC dX3_isPlannedAhead_34 (by decide) ?_
    exact tm_zret hC hR dX3_isPlannedAhead_38 (by omega) (⟨rfl, by rw [bi_t (by omega)]⟩)
  · refine tm_aload_n 0 hC dX3_isPlannedAhead_11 rfl rfl ?_
    refine tm_getf2 hC f_X3_13 hx1 rfl dX3_isPlannedAhead_12 ?_
    refine tm_aload_n 1 hC dX3_isPlannedAhead_15 rfl rfl ?_
    refine tm_getf2 hC f_X3_13 hx2 rfl dX3_isPlannedAhead_16 ?_
    refine tm_icmp_ne 37 hC dX3_isPlannedAhead_19 (by decide) (by omega) (fun c_19 => ?_) (fun c_19 => ?_)
    · refine tm_iconst hC dX3_isPlannedAhead_37 ?_
      exact tm_zret hC hR dX3_isPlannedAhead_38 (by omega) (⟨rfl, by rw [bi_f (by omega)]⟩)
    · refine tm_aload_n 0 hC dX3_isPlannedAhead_22 rfl rfl ?_
      refine tm_getf2 hC f_X3_19 hx1 rfl dX3_isPlannedAhead_23 ?_
      refine tm_aload_n 1 hC dX3_isPlannedAhead_26 rfl rfl ?_
      refine tm_getf2 hC f_X3_19 hx2 rfl dX3_isPlannedAhead_27 ?_
      refine tm_icmp_ge 37 hC dX3_isPlannedAhead_30 (by decide) (by omega) (fun c_30 => ?_) (fun c_30 => ?_)
      · refine tm_iconst hC dX3_isPlannedAhead_37 ?_
        exact tm_zret hC hR dX3_isPlannedAhead_38 (by omega) (⟨rfl, by rw [bi_f (by omega)]⟩)
      · refine tm_iconst hC dX3_isPlannedAhead_33 ?_
        refine tm_goto 38 hC dX3_isPlannedAhead_34 (by decide) ?_
        exact tm_zret hC hR dX3_isPlannedAhead_38 (by omega) (⟨rfl, by rw [bi_t (by omega)]⟩)

set_option maxHeartbeats 4000000 in
set_option maxRecDepth 100000 in
theorem c_B_gradeAt (γ : tmG) (hst : γ.1.stackTraces = false) (Λ : tmL) (κ : KP) (σ : ST) (hM : RC γ.2.2.1 Λ κ σ) (hw : WF0 σ) (b : Int) (hb : 0 ≤ b ∧ b < s_nb σ) (pl : Int) (hpl : 0 ≤ pl ∧ pl ≤ 3000) : tm_Con γ (tm_h2 γ.2.1 γ.2.2.1 γ.2.2.2.1) M_X0_gradeAt 4 0 0 [.ref (k_bo κ b), .int (I (pl))] Λ (fun v w' => Λ = w' ∧ ∃ r, v = some (.int (I r)) ∧ isGr σ b pl r) := by
  refine tm_con hst (by decide) (Nat.le_of_ble_eq_true rfl) (fun x hB hR => ?_)
  have hg := hB.1
  subst hg
  have hC : tm_C x cX0_gradeAt RX0 (some FieldType.int) := hB.2.2.2.1
  have hn := wf_n hw
  have hb9 := wf_b hw b hb
  have hkl := rc_len hM hw b hb
  have hds := rc_dsr hM b hb
  show tm_V x (tm_H x Λ) 0 0 0 [(0, .ref (k_bo κ b)), (1, .int (I (pl)))] []
  refine tm_aload_n 0 hC dX0_gradeAt_0 rfl rfl ?_
  have hx1 := rc_B hM b (by omega)
  refine tm_getf2 hC f_X0_26 hx1 rfl dX0_gradeAt_1 ?_
  refine tm_istore_n [(2, .int (I (s_wo σ (3 * b + 2)))), (0, .ref (k_bo κ b)), (1, .int (I (pl)))] hC dX0_gradeAt_4 rfl (by rw [hB.2.1]; exact Nat.le_of_ble_eq_true rfl) rfl ?_
  refine tm_iconst hC dX0_gradeAt_5 ?_
  refine tm_istore_n [(3, .int (I (0))), (2, .int (I (s_wo σ (3 * b + 2)))), (0, .ref (k_bo κ b)), (1, .int (I (pl)))] hC dX0_gradeAt_6 rfl (by rw [hB.2.1]; exact Nat.le_of_ble_eq_true rfl) rfl ?_
  have hL_7 : ∀ (fu : Nat) (w : Int) (i : Nat), ((i : Int) ≤ ((k_ds κ b).length : Int) ∧ upto (k_ds κ b) i (fun d => s_fl σ (4 * d + 1) ≤ pl → pl < s_fl σ (4 * d + 2) → s_fl σ (4 * d + 3) ≤ w) ∧ (s_wo σ (3 * b + 2) ≤ w ∧ w ≤ 3) ∧ grE σ b pl w) → ((((k_ds κ b).length : Int) - i).toNat) < fu → tm_V x (tm_H x Λ) 0 0 7 [(0, .ref (k_bo κ b)), (1, .int (I (pl))), (2, .int (I (w))), (3, .int (I ((i : Int))))] [] := by
    intro fu
    induction fu with
    | zero => intro w i hinv hm; exact absurd hm (Nat.not_lt_zero _)
    | succ fu ih_7 =>
      intro w i hinv_7 hm_7
      obtain ⟨hi, hu, hwb, hwe⟩ := hinv_7
      refine tm_iload_n 3 hC dX0_gradeAt_7 rfl rfl ?_
      refine tm_aload_n 0 hC dX0_gradeAt_8 rfl rfl ?_
      refine tm_getf2 hC f_X0_10 hx1 rfl dX0_gradeAt_9 ?_
      refine tm_callV (b := 0) (n := 0) (rest := [.int (I ((i : Int)))]) hC (c_Lsz (tm_g x) hst _ _ _ (((k_ds κ b).length : Int)) (rc_bd hM b (by omega)) (len_m _ _)) k_X0_29 (by rw [hB.2.2.1]; exact ⟨Nat.le_of_ble_eq_true rfl, Nat.le_of_ble_eq_true rfl⟩) rfl (tm_recL hC (rc_bd hM b (by omega))) rfl (by simp [Value.category]) dX0_gradeAt_12 (fun v_12 w_12 hp_12 => ?_)
      obtain ⟨rfl, rfl⟩ := hp_12
      show tm_V x (tm_H x Λ) 0 0 15 [(0, .ref (k_bo κ b)), (1, .int (I (pl))), (2, .int (I (w))), (3, .int (I ((i : Int))))] [.int (I (((k_ds κ b).length : Int))), .int (I ((i : Int)))]
      refine tm_icmp_ge 65 hC dX0_gradeAt_15 (by decide) (by omega) (fun c_15 => ?_) (fun c_15 => ?_)
      · refine tm_iload_n 2 hC dX0_gradeAt_65 rfl rfl ?_
        exact tm_iret hC hR dX0_gradeAt_66 (⟨rfl, w, rfl, hwb.1, fun d hd e1 e2 e3 => upto_a hu (by omega) d ((hds.1 d).mpr ⟨hd, e1⟩) e2 e3, hwe⟩)
      · refine tm_aload_n 0 hC dX0_gradeAt_18 rfl rfl ?_
        refine tm_getf2 hC f_X0_10 hx1 rfl dX0_gradeAt_19 ?_
        refine tm_iload_n 3 hC dX0_gradeAt_22 rfl rfl ?_
        obtain ⟨d_23, hga_23, hgb_23, hgc_23, hgd_23⟩ := rc_dat hM b (by omega) i (by omega)
        have hg9_23 := wf_d hw d_23 hgc_23
        refine tm_callV (b := 0) (n := 0) (rest := []) hC (c_Lget (tm_g x) hst _ _ _ (i : Int) (k_df κ d_23) (rc_bd hM b (by omega)) (by omega) (hga_23)) k_X0_33 (by rw [hB.2.2.1]; exact ⟨Nat.le_of_ble_eq_true rfl, Nat.le_of_ble_eq_true rfl⟩) rfl (tm_recL hC (rc_bd hM b (by omega))) rfl (by decide) dX0_gradeAt_23 (fun v_23 w_23 hp_23 => ?_)
        obtain ⟨rfl, rfl⟩ := hp_23
        show tm_V x (tm_H x Λ) 0 0 26 [(0, .ref (k_bo κ b)), (1, .int (I (pl))), (2, .int (I (w))), (3, .int (I ((i : Int))))] [.ref (k_df κ d_23)]
        have hx2 := rc_D hM d_23 (by omega)
        refine tm_cast2 hC hx2 rfl w_X0_37 dX0_gradeAt_26 ?_
        refine tm_astore [(4, .ref (k_df κ d_23)), (0, .ref (k_bo κ b)), (1, .int (I (pl))), (2, .int (I (w))), (3, .int (I ((i : Int))))] hC dX0_gradeAt_29 (by rw [hB.2.1]; exact Nat.le_of_ble_eq_true rfl) rfl ?_
        refine tm_aload 0 hC dX0_gradeAt_31 rfl ?_
        refine tm_getf2 hC f_X0_39 hx2 rfl dX0_gradeAt_33 ?_
        refine tm_iload_n 2 hC dX0_gradeAt_36 rfl rfl ?_
        refine tm_icmp_gt 59 hC dX0_gradeAt_37 (by decide) (by omega) (fun c_37 => ?_) (fun c_37 => ?_)
        · refine tm_iinc 4 [(3, .int (I ((i : Int) + 1))), (4, .ref (k_df κ d_23)), (0, .ref (k_bo κ b)), (1, .int (I (pl))), (2, .int (I (w)))] hC dX0_gradeAt_59 rfl (by rw [hB.2.1]; exact Nat.le_of_ble_eq_true rfl) rfl ?_
          refine tm_goto 7 hC dX0_gradeAt_62 (by decide) ?_
          refine tm_sub (L' := [(0, .ref (k_bo κ b)), (1, .int (I (pl))), (2, .int (I (w))), (3, .int (I ((i : Int) + 1)))]) [2, 3, 4, 0] rfl ?_
          exact ih_7  w (i + 1) (⟨by omega, upto_s hu hgb_23 (fun z _ => by omega), hwb, hwe⟩) (by omega)
        · refine tm_iload_n 2 hC dX0_gradeAt_40 rfl rfl ?_
          refine tm_aload 0 hC dX0_gradeAt_41 rfl ?_
          refine tm_getf2 hC f_X0_62 hx2 rfl dX0_gradeAt_43 ?_
          refine tm_icmp_ge 59 hC dX0_gradeAt_46 (by decide) (by omega) (fun c_46 => ?_) (fun c_46 => ?_)
          · refine tm_iinc 4 [(3, .int (I ((i : Int) + 1))), (4, .ref (k_df κ d_23)), (0, .ref (k_bo κ b)), (1, .int (I (pl))), (2, .int (I (w)))] hC dX0_gradeAt_59 rfl (by rw [hB.2.1]; exact Nat.le_of_ble_eq_true rfl) rfl ?_
            refine tm_goto 7 hC dX0_gradeAt_62 (by decide) ?_
            refine tm_sub (L' := [(0, .ref (k_bo κ b)), (1, .int (I (pl))), (2, .int (I (w))), (3, .int (I ((i : Int) + 1)))]) [2, 3, 4, 0] rfl ?_
            exact ih_7  w (i + 1) (⟨by omega, upto_s hu hgb_23 (fun _ z => by omega), hwb, hwe⟩) (by omega)
          · refine tm_iload_n 3 hC dX0_gradeAt_49 rfl rfl ?_
            refine tm_aload 0 hC dX0_gradeAt_50 rfl ?_
            refine tm_getf2 hC f_X0_63 hx2 rfl dX0_gradeAt_52 ?_
            refine tm_mm hC true x_X0_64 (by omega) (by rw [hB.2.2.1]; exact ⟨Nat.le_of_ble_eq_true rfl, Nat.le_of_ble_eq_true rfl⟩) ((by decide)) dX0_gradeAt_55 ?_
            show tm_V x (tm_H x Λ) 0 0 58 [(4, .ref (k_df κ d_23)), (0, .ref (k_bo κ b)), (1, .int (I (pl))), (2, .int (I (w))), (3, .int (I ((i : Int))))] [.int (I (max w (s_fl σ (4 * d_23 + 3))))]
            refine tm_istore_n [(2, .int (I (max w (s_fl σ (4 * d_23 + 3))))), (4, .ref (k_df κ d_23)), (0, .ref (k_bo κ b)), (1, .int (I (pl))), (3, .int (I ((i : Int))))] hC dX0_gradeAt_58 rfl (by rw [hB.2.1]; exact Nat.le_of_ble_eq_true rfl) rfl ?_
            refine tm_iinc 4 [(3, .int (I ((i : Int) + 1))), (2, .int (I (max w (s_fl σ (4 * d_23 + 3))))), (4, .ref (k_df κ d_23)), (0, .ref (k_bo κ b)), (1, .int (I (pl)))] hC dX0_gradeAt_59 rfl (by rw [hB.2.1]; exact Nat.le_of_ble_eq_true rfl) rfl ?_
            refine tm_goto 7 hC dX0_gradeAt_62 (by decide) ?_
            refine tm_sub (L' := [(0, .ref (k_bo κ b)), (1, .int (I (pl))), (2, .int (I (max w (s_fl σ (4 * d_23 + 3))))), (3, .int (I ((i : Int) + 1)))]) [3, 4, 1, 0] rfl ?_
            exact ih_7  (max w (s_fl σ (4 * d_23 + 3))) (i + 1) (⟨by omega, upto_s (upto_m hu (fun d hd z1 z2 => by have := hd z1 z2; omega)) hgb_23 (fun _ _ => by omega), by omega, by (by_cases hmx : s_fl σ (4 * d_23 + 3) ≤ w); (rw [show max w (s_fl σ (4 * d_23 + 3)) = w by omega]; exact hwe); exact Or.inr ⟨d_23, hgc_23, hgd_23, by omega, by omega, by omega⟩⟩) (by omega)
  refine tm_sub (L' := [(0, .ref (k_bo κ b)), (1, .int (I (pl))), (2, .int (I (s_wo σ (3 * b + 2)))), (3, .int (I (0)))]) [2, 3, 1, 0] rfl ?_
  exact hL_7 _ (s_wo σ (3 * b + 2)) 0 (⟨by omega, upto_0, by omega, Or.inl rfl⟩) (Nat.lt_succ_self _)

set_option maxHeartbeats 4000000 in
set_option maxRecDepth 100000 in
theorem c_B_firstWorse (γ : tmG) (hst : γ.1.stackTraces = false) (Λ : tmL) (κ : KP) (σ : ST) (hM : RC γ.2.2.1 Λ κ σ) (hw : WF0 σ) (b : Int) (hb : 0 ≤ b ∧ b < s_nb σ) (pl g : Int) (hpl : (0 ≤ pl ∧ pl ≤ s_wo σ (3 * b)) ∧ 0 ≤ g ∧ g ≤ 3) : tm_Con γ (tm_h2 γ.2.1 γ.2.2.1 γ.2.2.2.1) M_X0_firstWorse 4 0 0 [.ref (k_bo κ b), .int (I (pl)), .int (I (g))] Λ (fun v w' => Λ = w' ∧ ∃ r, v = some (.int (I r)) ∧ isFW σ b g pl r) := by
  refine tm_con hst (by decide) (Nat.le_of_ble_eq_true rfl) (fun x hB hR => ?_)
  have hg := hB.1
  subst hg
  have hC : tm_C x cX0_firstWorse RX0 (some FieldType.int) := hB.2.2.2.1
  have hn := wf_n hw
  have hb9 := wf_b hw b hb
  have hkl := rc_len hM hw b hb
  have hds := rc_dsr hM b hb
  show tm_V x (tm_H x Λ) 0 0 0 [(0, .ref (k_bo κ b)), (1, .int (I (pl))), (2, .int (I (g)))] []
  refine tm_aload_n 0 hC dX0_firstWorse_0 rfl rfl ?_
  have hx1 := rc_B hM b (by omega)
  refine tm_getf2 hC f_X0_26 hx1 rfl dX0_firstWorse_1 ?_
  refine tm_iload_n 2 hC dX0_firstWorse_4 rfl rfl ?_
  refine tm_icmp_le 10 hC dX0_firstWorse_5 (by decide) (by omega) (fun c_5 => ?_) (fun c_5 => ?_)
  · refine tm_iconst hC dX0_firstWorse_10 ?_
    refine tm_istore_n [(3, .int (I (0))), (0, .ref (k_bo κ b)), (1, .int (I (pl))), (2, .int (I (g)))] hC dX0_firstWorse_11 rfl (by rw [hB.2.1]; exact Nat.le_of_ble_eq_true rfl) rfl ?_
    have hL_12 : ∀ (fu : Nat) (i : Nat), ((i : Int) ≤ ((k_ds κ b).length : Int) ∧ upto (k_ds κ b) i (fun d => g < s_fl σ (4 * d + 3) → s_fl σ (4 * d + 2) ≤ pl)) → ((((k_ds κ b).length : Int) - i).toNat) < fu → tm_V x (tm_H x Λ) 0 0 12 [(0, .ref (k_bo κ b)), (1, .int (I (pl))), (2, .int (I (g))), (3, .int (I ((i : Int))))] [] := by
      intro fu
      induction fu with
      | zero => intro i hinv hm; exact absurd hm (Nat.not_lt_zero _)
      | succ fu ih_12 =>
        intro i hinv_12 hm_12
        obtain ⟨hi, hu⟩ := hinv_12
        refine tm_iload_n 3 hC dX0_firstWorse_12 rfl rfl ?_
        refine tm_aload_n 0 hC dX0_firstWorse_13 rfl rfl ?_
        refine tm_getf2 hC f_X0_10 hx1 rfl dX0_firstWorse_14 ?_
        refine tm_callV (b := 0) (n := 0) (rest := [.int (I ((i : Int)))]) hC (c_Lsz (tm_g x) hst _ _ _ (((k_ds κ b).length : Int)) (rc_bd hM b (by omega)) (len_m _ _)) k_X0_29 (by rw [hB.2.2.1]; exact ⟨Nat.le_of_ble_eq_true rfl, Nat.le_of_ble_eq_true rfl⟩) rfl (tm_recL hC (rc_bd hM b (by omega))) rfl (by simp [Value.category]) dX0_firstWorse_17 (fun v_17 w_17 hp_17 => ?_)
        obtain ⟨rfl, rfl⟩ := hp_17
        show tm_V x (tm_H x Λ) 0 0 20 [(0, .ref (k_bo κ b)), (1, .int (I (pl))), (2, .int (I (g))), (3, .int (I ((i : Int))))] [.int (I (((k_ds κ b).length : Int))), .int (I ((i : Int)))]
        refine tm_icmp_ge 70 hC dX0_firstWorse_20 (by decide) (by omega) (fun c_20 => ?_) (fun c_20 => ?_)
        · refine tm_aload_n 0 hC dX0_firstWorse_70 rfl rfl ?_
          refine tm_getf2 hC f_X0_19 hx1 rfl dX0_firstWorse_71 ?_
          exact tm_iret hC hR dX0_firstWorse_74 (⟨rfl, _, rfl, fw_none hds hpl.1.2 (by omega) hu (by omega)⟩)
        · refine tm_aload_n 0 hC dX0_firstWorse_23 rfl rfl ?_
          refine tm_getf2 hC f_X0_10 hx1 rfl dX0_firstWorse_24 ?_
          refine tm_iload_n 3 hC dX0_firstWorse_27 rfl rfl ?_
          obtain ⟨d_28, hga_28, hgb_28, hgc_28, hgd_28⟩ := rc_dat hM b (by omega) i (by omega)
          have hg9_28 := wf_d hw d_28 hgc_28
          refine tm_callV (b := 0) (n := 0) (rest := []) hC (c_Lget (tm_g x) hst _ _ _ (i : Int) (k_df κ d_28) (rc_bd hM b (by omega)) (by omega) (hga_28)) k_X0_33 (by rw [hB.2.2.1]; exact ⟨Nat.le_of_ble_eq_true rfl, Nat.le_of_ble_eq_true rfl⟩) rfl (tm_recL hC (rc_bd hM b (by omega))) rfl (by decide) dX0_firstWorse_28 (fun v_28 w_28 hp_28 => ?_)
          obtain ⟨rfl, rfl⟩ := hp_28
          show tm_V x (tm_H x Λ) 0 0 31 [(0, .ref (k_bo κ b)), (1, .int (I (pl))), (2, .int (I (g))), (3, .int (I ((i : Int))))] [.ref (k_df κ d_28)]
          have hx2 := rc_D hM d_28 (by omega)
          refine tm_cast2 hC hx2 rfl w_X0_37 dX0_firstWorse_31 ?_
          refine tm_astore [(4, .ref (k_df κ d_28)), (0, .ref (k_bo κ b)), (1, .int (I (pl))), (2, .int (I (g))), (3, .int (I ((i : Int))))] hC dX0_firstWorse_34 (by rw [hB.2.1]; exact Nat.le_of_ble_eq_true rfl) rfl ?_
          refine tm_aload 0 hC dX0_firstWorse_36 rfl ?_
          refine tm_getf2 hC f_X0_63 hx2 rfl dX0_firstWorse_38 ?_
          refine tm_iload_n 3 hC dX0_firstWorse_41 rfl rfl ?_
          refine tm_icmp_le 64 hC dX0_firstWorse_42 (by decide) (by omega) (fun c_42 => ?_) (fun c_42 => ?_)
          · refine tm_iinc 4 [(3, .int (I ((i : Int) + 1))), (4, .ref (k_df κ d_28)), (0, .ref (k_bo κ b)), (1, .int (I (pl))), (2, .int (I (g)))] hC dX0_firstWorse_64 rfl (by rw [hB.2.1]; exact Nat.le_of_ble_eq_true rfl) rfl ?_
            refine tm_goto 12 hC dX0_firstWorse_67 (by decide) ?_
            refine tm_sub (L' := [(0, .ref (k_bo κ b)), (1, .int (I (pl))), (2, .int (I (g))), (3, .int (I ((i : Int) + 1)))]) [2, 3, 4, 0] rfl ?_
            exact ih_12  (i + 1) (⟨by omega, upto_s hu hgb_28 (fun z => by omega)⟩) (by omega)
          · refine tm_aload 0 hC dX0_firstWorse_45 rfl ?_
            refine tm_getf2 hC f_X0_62 hx2 rfl dX0_firstWorse_47 ?_
            refine tm_iload_n 2 hC dX0_firstWorse_50 rfl rfl ?_
            refine tm_icmp_le 64 hC dX0_firstWorse_51 (by decide) (by omega) (fun c_51 => ?_) (fun c_51 => ?_)
            · refine tm_iinc 4 [(3, .int (I ((i : Int) + 1))), (4, .ref (k_df κ d_28)), (0, .ref (k_bo κ b)), (1, .int (I (pl))), (2, .int (I (g)))] hC dX0_firstWorse_64 rfl (by rw [hB.2.1]; exact Nat.le_of_ble_eq_true rfl) rfl ?_
              refine tm_goto 12 hC dX0_firstWorse_67 (by decide) ?_
              refine tm_sub (L' := [(0, .ref (k_bo κ b)), (1, .int (I (pl))), (2, .int (I (g))), (3, .int (I ((i : Int) + 1)))]) [2, 3, 4, 0] rfl ?_
              exact ih_12  (i + 1) (⟨by omega, upto_s hu hgb_28 (fun z => by omega)⟩) (by omega)
            · refine tm_aload 0 hC dX0_firstWorse_54 rfl ?_
              refine tm_getf2 hC f_X0_39 hx2 rfl dX0_firstWorse_56 ?_
              refine tm_iload_n 2 hC dX0_firstWorse_59 rfl rfl ?_
              refine tm_mm hC true x_X0_64 (by omega) (by rw [hB.2.2.1]; exact ⟨Nat.le_of_ble_eq_true rfl, Nat.le_of_ble_eq_true rfl⟩) ((by decide)) dX0_firstWorse_60 ?_
              show tm_V x (tm_H x Λ) 0 0 63 [(4, .ref (k_df κ d_28)), (0, .ref (k_bo κ b)), (1, .int (I (pl))), (2, .int (I (g))), (3, .int (I ((i : Int))))] [.int (I (max (s_fl σ (4 * d_28 + 1)) pl))]
              exact tm_iret hC hR dX0_firstWorse_63 (⟨rfl, _, rfl, fw_hit hw hds hpl.1.2 (by omega) hu hgb_28 hgc_28 hgd_28 (by omega) (by omega)⟩)
    refine tm_sub (L' := [(0, .ref (k_bo κ b)), (1, .int (I (pl))), (2, .int (I (g))), (3, .int (I (0)))]) [1, 2, 3, 0] rfl ?_
    exact hL_12 _ 0 (⟨by omega, upto_0⟩) (Nat.lt_succ_self _)
  · refine tm_iload_n 1 hC dX0_firstWorse_8 rfl rfl ?_
    exact tm_iret hC hR dX0_firstWorse_9 (⟨rfl, pl, rfl, fw_bad hpl.1.2 (by omega)⟩)

set_option maxHeartbeats 4000000 in
set_option maxRecDepth 100000 in
theorem c_B_firstGood (γ : tmG) (hst : γ.1.stackTraces = false) (Λ : tmL) (κ : KP) (σ : ST) (hM : RC γ.2.2.1 Λ κ σ) (hw : WF0 σ) (b : Int) (hb : 0 ≤ b ∧ b < s_nb σ) (pl g : Int) (hpl : (0 ≤ pl ∧ pl ≤ s_wo σ (3 * b)) ∧ 0 ≤ g ∧ g ≤ 3) : tm_Con γ (tm_h2 γ.2.1 γ.2.2.1 γ.2.2.2.1) M_X0_firstGood 4 0 0 [.ref (k_bo κ b), .int (I (pl)), .int (I (g))] Λ (fun v w' => Λ = w' ∧ ∃ r, v = some (.int (I r)) ∧ isFG σ b g pl r) := by
  refine tm_con hst (by decide) (Nat.le_of_ble_eq_true rfl) (fun x hB hR => ?_)
  have hg := hB.1
  subst hg
  have hC : tm_C x cX0_firstGood RX0 (some FieldType.int) := hB.2.2.2.1
  have hn := wf_n hw
  have hb9 := wf_b hw b hb
  have hkl := rc_len hM hw b hb
  have hds := rc_dsr hM b hb
  show tm_V x (tm_H x Λ) 0 0 0 [(0, .ref (k_bo κ b)), (1, .int (I (pl))), (2, .int (I (g)))] []
  refine tm_aload_n 0 hC dX0_firstGood_0 rfl rfl ?_
  have hx1 := rc_B hM b (by omega)
  refine tm_getf2 hC f_X0_26 hx1 rfl dX0_firstGood_1 ?_
  refine tm_iload_n 2 hC dX0_firstGood_4 rfl rfl ?_
  refine tm_icmp_le 13 hC dX0_firstGood_5 (by decide) (by omega) (fun c_5 => ?_) (fun c_5 => ?_)
  · refine tm_iload_n 1 hC dX0_firstGood_13 rfl rfl ?_
    refine tm_istore_n [(3, .int (I (pl))), (0, .ref (k_bo κ b)), (1, .int (I (pl))), (2, .int (I (g)))] hC dX0_firstGood_14 rfl (by rw [hB.2.1]; exact Nat.le_of_ble_eq_true rfl) rfl ?_
    refine tm_iconst hC dX0_firstGood_15 ?_
    refine tm_istore [(4, .int (I (0))), (3, .int (I (pl))), (0, .ref (k_bo κ b)), (1, .int (I (pl))), (2, .int (I (g)))] hC dX0_firstGood_16 (by rw [hB.2.1]; exact Nat.le_of_ble_eq_true rfl) rfl ?_
    have hL_18 : ∀ (fu : Nat) (gd : Int) (i : Nat), ((i : Int) ≤ ((k_ds κ b).length : Int) ∧ (pl ≤ gd ∧ gd ≤ s_wo σ (3 * b)) ∧ (∀ q, pl ≤ q → q < gd → ¬ gdP σ b g q) ∧ upto (k_ds κ b) i (fun d => g < s_fl σ (4 * d + 3) → s_fl σ (4 * d + 2) ≤ gd ∨ gd < s_fl σ (4 * d + 1))) → ((((k_ds κ b).length : Int) - i).toNat) < fu → tm_V x (tm_H x Λ) 0 0 18 [(0, .ref (k_bo κ b)), (1, .int (I (pl))), (2, .int (I (g))), (3, .int (I (gd))), (4, .int (I ((i : Int))))] [] := by
      intro fu
      induction fu with
      | zero => intro gd i hinv hm; exact absurd hm (Nat.not_lt_zero _)
      | succ fu ih_18 =>
        intro gd i hinv_18 hm_18
        obtain ⟨hi, hgd, hno, hu⟩ := hinv_18
        refine tm_iload 4 hC dX0_firstGood_18 rfl ?_
        refine tm_aload_n 0 hC dX0_firstGood_20 rfl rfl ?_
        refine tm_getf2 hC f_X0_10 hx1 rfl dX0_firstGood_21 ?_
        refine tm_callV (b := 0) (n := 0) (rest := [.int (I ((i : Int)))]) hC (c_Lsz (tm_g x) hst _ _ _ (((k_ds κ b).length : Int)) (rc_bd hM b (by omega)) (len_m _ _)) k_X0_29 (by rw [hB.2.2.1]; exact ⟨Nat.le_of_ble_eq_true rfl, Nat.le_of_ble_eq_true rfl⟩) rfl (tm_recL hC (rc_bd hM b (by omega))) rfl (by simp [Value.category]) dX0_firstGood_24 (fun v_24 w_24 hp_24 => ?_)
        obtain ⟨rfl, rfl⟩ := hp_24
        show tm_V x (tm_H x Λ) 0 0 27 [(0, .ref (k_bo κ b)), (1, .int (I (pl))), (2, .int (I (g))), (3, .int (I (gd))), (4, .int (I ((i : Int))))] [.int (I (((k_ds κ b).length : Int))), .int (I ((i : Int)))]
        refine tm_icmp_ge 83 hC dX0_firstGood_27 (by decide) (by omega) (fun c_27 => ?_) (fun c_27 => ?_)
        · refine tm_iload_n 3 hC dX0_firstGood_83 rfl rfl ?_
          exact tm_iret hC hR dX0_firstGood_84 (⟨rfl, gd, rfl, fg_end hds (by omega) hgd hno hu (by omega)⟩)
        · refine tm_aload_n 0 hC dX0_firstGood_30 rfl rfl ?_
          refine tm_getf2 hC f_X0_10 hx1 rfl dX0_firstGood_31 ?_
          refine tm_iload 4 hC dX0_firstGood_34 rfl ?_
          obtain ⟨d_36, hga_36, hgb_36, hgc_36, hgd_36⟩ := rc_dat hM b (by omega) i (by omega)
          have hg9_36 := wf_d hw d_36 hgc_36
          refine tm_callV (b := 0) (n := 0) (rest := []) hC (c_Lget (tm_g x) hst _ _ _ (i : Int) (k_df κ d_36) (rc_bd hM b (by omega)) (by omega) (hga_36)) k_X0_33 (by rw [hB.2.2.1]; exact ⟨Nat.le_of_ble_eq_true rfl, Nat.le_of_ble_eq_true rfl⟩) rfl (tm_recL hC (rc_bd hM b (by omega))) rfl (by decide) dX0_firstGood_36 (fun v_36 w_36 hp_36 => ?_)
          obtain ⟨rfl, rfl⟩ := hp_36
          show tm_V x (tm_H x Λ) 0 0 39 [(0, .ref (k_bo κ b)), (1, .int (I (pl))), (2, .int (I (g))), (3, .int (I (gd))), (4, .int (I ((i : Int))))] [.ref (k_df κ d_36)]
          have hx2 := rc_D hM d_36 (by omega)
          refine tm_cast2 hC hx2 rfl w_X0_37 dX0_firstGood_39 ?_
          refine tm_astore [(5, .ref (k_df κ d_36)), (0, .ref (k_bo κ b)), (1, .int (I (pl))), (2, .int (I (g))), (3, .int (I (gd))), (4, .int (I ((i : Int))))] hC dX0_firstGood_42 (by rw [hB.2.1]; exact Nat.le_of_ble_eq_true rfl) rfl ?_
          refine tm_aload 0 hC dX0_firstGood_44 rfl ?_
          refine tm_getf2 hC f_X0_63 hx2 rfl dX0_firstGood_46 ?_
          refine tm_iload_n 3 hC dX0_firstGood_49 rfl rfl ?_
          refine tm_icmp_le 77 hC dX0_firstGood_50 (by decide) (by omega) (fun c_50 => ?_) (fun c_50 => ?_)
          · refine tm_iinc 5 [(4, .int (I ((i : Int) + 1))), (5, .ref (k_df κ d_36)), (0, .ref (k_bo κ b)), (1, .int (I (pl))), (2, .int (I (g))), (3, .int (I (gd)))] hC dX0_firstGood_77 rfl (by rw [hB.2.1]; exact Nat.le_of_ble_eq_true rfl) rfl ?_
            refine tm_goto 18 hC dX0_firstGood_80 (by decide) ?_
            refine tm_sub (L' := [(0, .ref (k_bo κ b)), (1, .int (I (pl))), (2, .int (I (g))), (3, .int (I (gd))), (4, .int (I ((i : Int) + 1)))]) [2, 3, 4, 5, 0] rfl ?_
            exact ih_18  gd (i + 1) (⟨by omega, by omega, hno, upto_s hu hgb_36 (fun z => by omega)⟩) (by omega)
          · refine tm_aload 0 hC dX0_firstGood_53 rfl ?_
            refine tm_getf2 hC f_X0_39 hx2 rfl dX0_firstGood_55 ?_
            refine tm_iload_n 4 hC dX0_firstGood_58 rfl rfl ?_
            refine tm_icmp_gt 77 hC dX0_firstGood_59 (by decide) (by omega) (fun c_59 => ?_) (fun c_59 => ?_)
            · refine tm_iinc 5 [(4, .int (I ((i : Int) + 1))), (5, .ref (k_df κ d_36)), (0, .ref (k_bo κ b)), (1, .int (I (pl))), (2, .int (I (g))), (3, .int (I (gd)))] hC dX0_firstGood_77 rfl (by rw [hB.2.1]; exact Nat.le_of_ble_eq_true rfl) rfl ?_
              refine tm_goto 18 hC dX0_firstGood_80 (by decide) ?_
              refine tm_sub (L' := [(0, .ref (k_bo κ b)), (1, .int (I (pl))), (2, .int (I (g))), (3, .int (I (gd))), (4, .int (I ((i : Int) + 1)))]) [2, 3, 4, 5, 0] rfl ?_
              exact ih_18  gd (i + 1) (⟨by omega, by omega, hno, upto_s hu hgb_36 (fun z => Or.inr (by omega))⟩) (by omega)
            · refine tm_iload_n 4 hC dX0_firstGood_62 rfl rfl ?_
              refine tm_aload 0 hC dX0_firstGood_63 rfl ?_
              refine tm_getf2 hC f_X0_62 hx2 rfl dX0_firstGood_65 ?_
              refine tm_icmp_ge 77 hC dX0_firstGood_68 (by decide) (by omega) (fun c_68 => ?_) (fun c_68 => ?_)
              · refine tm_iinc 5 [(4, .int (I ((i : Int) + 1))), (5, .ref (k_df κ d_36)), (0, .ref (k_bo κ b)), (1, .int (I (pl))), (2, .int (I (g))), (3, .int (I (gd)))] hC dX0_firstGood_77 rfl (by rw [hB.2.1]; exact Nat.le_of_ble_eq_true rfl) rfl ?_
                refine tm_goto 18 hC dX0_firstGood_80 (by decide) ?_
                refine tm_sub (L' := [(0, .ref (k_bo κ b)), (1, .int (I (pl))), (2, .int (I (g))), (3, .int (I (gd))), (4, .int (I ((i : Int) + 1)))]) [2, 3, 4, 5, 0] rfl ?_
                exact ih_18  gd (i + 1) (⟨by omega, by omega, hno, upto_s hu hgb_36 (fun z => Or.inl (by omega))⟩) (by omega)
              · refine tm_aload 0 hC dX0_firstGood_71 rfl ?_
                refine tm_getf2 hC f_X0_62 hx2 rfl dX0_firstGood_73 ?_
                refine tm_istore_n [(3, .int (I (s_fl σ (4 * d_36 + 2)))), (5, .ref (k_df κ d_36)), (0, .ref (k_bo κ b)), (1, .int (I (pl))), (2, .int (I (g))), (4, .int (I ((i : Int))))] hC dX0_firstGood_76 rfl (by rw [hB.2.1]; exact Nat.le_of_ble_eq_true rfl) rfl ?_
                refine tm_iinc 5 [(4, .int (I ((i : Int) + 1))), (3, .int (I (s_fl σ (4 * d_36 + 2)))), (5, .ref (k_df κ d_36)), (0, .ref (k_bo κ b)), (1, .int (I (pl))), (2, .int (I (g)))] hC dX0_firstGood_77 rfl (by rw [hB.2.1]; exact Nat.le_of_ble_eq_true rfl) rfl ?_
                refine tm_goto 18 hC dX0_firstGood_80 (by decide) ?_
                refine tm_sub (L' := [(0, .ref (k_bo κ b)), (1, .int (I (pl))), (2, .int (I (g))), (3, .int (I (s_fl σ (4 * d_36 + 2)))), (4, .int (I ((i : Int) + 1)))]) [3, 4, 5, 1, 0] rfl ?_
                exact ih_18  (s_fl σ (4 * d_36 + 2)) (i + 1) (⟨by omega, by rw [hgd_36] at hg9_36; omega, fg_bads hno hgc_36 hgd_36 (by omega) (by omega), fg_move hds hu hgb_36 (by omega) (by omega)⟩) (by omega)
    refine tm_sub (L' := [(0, .ref (k_bo κ b)), (1, .int (I (pl))), (2, .int (I (g))), (3, .int (I (pl))), (4, .int (I (0)))]) [2, 3, 4, 1, 0] rfl ?_
    exact hL_18 _ pl 0 (⟨by omega, by omega, fun q q1 q2 => by omega, upto_0⟩) (Nat.lt_succ_self _)
  · refine tm_aload_n 0 hC dX0_firstGood_8 rfl rfl ?_
    refine tm_getf2 hC f_X0_19 hx1 rfl dX0_firstGood_9 ?_
    exact tm_iret hC hR dX0_firstGood_12 (⟨rfl, _, rfl, fg_bad hpl.1.2 (by omega)⟩)

set_option maxHeartbeats 4000000 in
set_option maxRecDepth 100000 in
theorem c_B_next (γ : tmG) (hst : γ.1.stackTraces = false) (Λ : tmL) (κ : KP) (σ : ST) (hM : RC γ.2.2.1 Λ κ σ) (hw : WF0 σ) (b : Int) (hb : 0 ≤ b ∧ b < s_nb σ) (pl g : Int) (hpl : (0 ≤ pl ∧ pl ≤ s_wo σ (3 * b)) ∧ 0 ≤ g ∧ g ≤ 3) : tm_Con γ (tm_h2 γ.2.1 γ.2.2.1 γ.2.2.2.1) M_X0_nextStretchStart 5 0 0 [.ref (k_bo κ b), .int (I (pl)), .int (I (g))] Λ (fun v w' => Λ = w' ∧ ∃ r, v = some (.int (I r)) ∧ ∃ e, isFW σ b g pl e ∧ isFG σ b g e r) := by
  refine tm_con hst (by decide) (Nat.le_of_ble_eq_true rfl) (fun x hB hR => ?_)
  have hg := hB.1
  subst hg
  have hC : tm_C x cX0_nextStretchStart RX0 (some FieldType.int) := hB.2.2.2.1
  have hn := wf_n hw
  have hb9 := wf_b hw b hb
  have hkl := rc_len hM hw b hb
  show tm_V x (tm_H x Λ) 0 0 0 [(0, .ref (k_bo κ b)), (1, .int (I (pl))), (2, .int (I (g)))] []
  refine tm_aload_n 0 hC dX0_nextStretchStart_0 rfl rfl ?_
  refine tm_aload_n 0 hC dX0_nextStretchStart_1 rfl rfl ?_
  refine tm_iload_n 1 hC dX0_nextStretchStart_2 rfl rfl ?_
  refine tm_iload_n 2 hC dX0_nextStretchStart_3 rfl rfl ?_
  refine tm_callV (b := 0) (n := 0) (rest := [.ref (k_bo κ b)]) hC (c_B_firstWorse (tm_g x) hst Λ κ σ hM hw b (by omega) pl g (by omega)) k_X0_70 (by rw [hB.2.2.1]; exact ⟨Nat.le_of_ble_eq_true rfl, Nat.le_of_ble_eq_true rfl⟩) rfl (tm_rec2 hC (rc_B hM b (by omega)) rfl) rfl (by simp [Value.category]) dX0_nextStretchStart_4 (fun v_4 w_4 hp_4 => ?_)
  obtain ⟨rfl, fw_4, rfl, hfw_4⟩ := hp_4
  show tm_V x (tm_H x Λ) 0 0 7 [(0, .ref (k_bo κ b)), (1, .int (I (pl))), (2, .int (I (g)))] [.int (I (fw_4)), .ref (k_bo κ b)]
  have hfb_4 := hfw_4.1
  have hfc_4 := hfw_4.2.1
  refine tm_iload_n 2 hC dX0_nextStretchStart_7 rfl rfl ?_
  refine tm_callV (b := 0) (n := 0) (rest := []) hC (c_B_firstGood (tm_g x) hst Λ κ σ hM hw b (by omega) fw_4 g (by omega)) k_X0_73 (by rw [hB.2.2.1]; exact ⟨Nat.le_of_ble_eq_true rfl, Nat.le_of_ble_eq_true rfl⟩) rfl (tm_rec2 hC (rc_B hM b (by omega)) rfl) rfl (by decide) dX0_nextStretchStart_8 (fun v_8 w_8 hp_8 => ?_)
  obtain ⟨rfl, fg_8, rfl, hfg_8⟩ := hp_8
  show tm_V x (tm_H x Λ) 0 0 11 [(0, .ref (k_bo κ b)), (1, .int (I (pl))), (2, .int (I (g)))] [.int (I (fg_8))]
  exact tm_iret hC hR dX0_nextStretchStart_11 (⟨rfl, _, rfl, _, hfw_4, hfg_8⟩)

set_option maxHeartbeats 4000000 in
set_option maxRecDepth 100000 in
theorem c_B_clear (γ : tmG) (hst : γ.1.stackTraces = false) (Λ : tmL) (κ : KP) (σ : ST) (hM : RC γ.2.2.1 Λ κ σ) (hw : WF0 σ) (b : Int) (hb : 0 ≤ b ∧ b < s_nb σ) (s e : Int) (hr : (-20000 ≤ s ∧ s ≤ 20000) ∧ -20000 ≤ e ∧ e ≤ 20000) : tm_Con γ (tm_h2 γ.2.1 γ.2.2.1 γ.2.2.2.1) M_X0_isClearOfPieces 4 0 0 [.ref (k_bo κ b), .int (I (s)), .int (I (e)), .int (I (s_sw σ))] Λ (fun r w' => Λ = w' ∧ r = some (.int (I (bi (∀ k, 0 ≤ k ∧ k < s_nm σ → s_cu σ (4 * k) = b → e + s_sw σ ≤ s_cu σ (4 * k + 1) ∨ s_cu σ (4 * k + 2) + s_sw σ ≤ s))))) := by
  refine tm_con hst (by decide) (Nat.le_of_ble_eq_true rfl) (fun x hB hR => ?_)
  have hg := hB.1
  subst hg
  have hC : tm_C x cX0_isClearOfPieces RX0 (some FieldType.boolean) := hB.2.2.2.1
  have hn := wf_n hw
  have hb9 := wf_b hw b hb
  have hkl := rc_len hM hw b hb
  show tm_V x (tm_H x Λ) 0 0 0 [(0, .ref (k_bo κ b)), (1, .int (I (s))), (2, .int (I (e))), (3, .int (I (s_sw σ)))] []
  refine tm_iconst hC dX0_isClearOfPieces_0 ?_
  refine tm_istore [(4, .int (I (0))), (0, .ref (k_bo κ b)), (1, .int (I (s))), (2, .int (I (e))), (3, .int (I (s_sw σ)))] hC dX0_isClearOfPieces_1 (by rw [hB.2.1]; exact Nat.le_of_ble_eq_true rfl) rfl ?_
  have hL_3 : ∀ (fu : Nat) (i : Nat), ((i : Int) ≤ ((k_ks κ b).length : Int) ∧ upto (k_ks κ b) i (fun k => e + s_sw σ ≤ s_cu σ (4 * k + 1) ∨ s_cu σ (4 * k + 2) + s_sw σ ≤ s)) → ((((k_ks κ b).length : Int) - i).toNat) < fu → tm_V x (tm_H x Λ) 0 0 3 [(0, .ref (k_bo κ b)), (1, .int (I (s))), (2, .int (I (e))), (3, .int (I (s_sw σ))), (4, .int (I ((i : Int))))] [] := by
    intro fu
    induction fu with
    | zero => intro i hinv hm; exact absurd hm (Nat.not_lt_zero _)
    | succ fu ih_3 =>
      intro i hinv_3 hm_3
      obtain ⟨hi, hu⟩ := hinv_3
      refine tm_iload 4 hC dX0_isClearOfPieces_3 rfl ?_
      refine tm_aload_n 0 hC dX0_isClearOfPieces_5 rfl rfl ?_
      have hx1 := rc_B hM b (by omega)
      refine tm_getf2 hC f_X0_16 hx1 rfl dX0_isClearOfPieces_6 ?_
      refine tm_callV (b := 0) (n := 0) (rest := [.int (I ((i : Int)))]) hC (c_Lsz (tm_g x) hst _ _ _ (((k_ks κ b).length : Int)) (rc_bp hM b (by omega)) (len_m _ _)) k_X0_29 (by rw [hB.2.2.1]; exact ⟨Nat.le_of_ble_eq_true rfl, Nat.le_of_ble_eq_true rfl⟩) rfl (tm_recL hC (rc_bp hM b (by omega))) rfl (by simp [Value.category]) dX0_isClearOfPieces_9 (fun v_9 w_9 hp_9 => ?_)
      obtain ⟨rfl, rfl⟩ := hp_9
      show tm_V x (tm_H x Λ) 0 0 12 [(0, .ref (k_bo κ b)), (1, .int (I (s))), (2, .int (I (e))), (3, .int (I (s_sw σ))), (4, .int (I ((i : Int))))] [.int (I (((k_ks κ b).length : Int))), .int (I ((i : Int)))]
      refine tm_icmp_ge 44 hC dX0_isClearOfPieces_12 (by decide) (by omega) (fun c_12 => ?_) (fun c_12 => ?_)
      · refine tm_iconst hC dX0_isClearOfPieces_44 ?_
        exact tm_zret hC hR dX0_isClearOfPieces_45 (by omega) (⟨rfl, by rw [bi_t (fun k hk e1 => upto_a hu (by omega) k (srt_in hw (rc_srt hM b hb) hk e1))]⟩)
      · refine tm_aload_n 0 hC dX0_isClearOfPieces_15 rfl rfl ?_
        refine tm_getf2 hC f_X0_16 hx1 rfl dX0_isClearOfPieces_16 ?_
        refine tm_iload 4 hC dX0_isClearOfPieces_19 rfl ?_
        obtain ⟨k_21, hga_21, hgb_21, hgc_21, hgd_21⟩ := rc_kat hM hw b (by omega) i (by omega)
        have hg9_21 := wf_k hw k_21 hgc_21
        refine tm_callV (b := 0) (n := 0) (rest := []) hC (c_Lget (tm_g x) hst _ _ _ (i : Int) (k_pc κ k_21) (rc_bp hM b (by omega)) (by omega) (hga_21)) k_X0_33 (by rw [hB.2.2.1]; exact ⟨Nat.le_of_ble_eq_true rfl, Nat.le_of_ble_eq_true rfl⟩) rfl (tm_recL hC (rc_bp hM b (by omega))) rfl (by decide) dX0_isClearOfPieces_21 (fun v_21 w_21 hp_21 => ?_)
        obtain ⟨rfl, rfl⟩ := hp_21
        show tm_V x (tm_H x Λ) 0 0 24 [(0, .ref (k_bo κ b)), (1, .int (I (s))), (2, .int (I (e))), (3, .int (I (s_sw σ))), (4, .int (I ((i : Int))))] [.ref (k_pc κ k_21)]
        have hx2 := rc_K hM k_21 (by omega)
        refine tm_cast2 hC hx2 rfl w_X0_46 dX0_isClearOfPieces_24 ?_
        refine tm_iload_n 1 hC dX0_isClearOfPieces_27 rfl rfl ?_
        refine tm_iload_n 2 hC dX0_isClearOfPieces_28 rfl rfl ?_
        refine tm_iload_n 3 hC dX0_isClearOfPieces_29 rfl rfl ?_
        refine tm_callVN (b := 0) (n := 0) (rest := []) hC (c_K_isClearOf (tm_g x) hst _ _ _ _ _ _ _ (rc_K hM k_21 (by omega)) s e (s_sw σ) (by omega)) k_X0_84 (by rw [hB.2.2.1]; exact ⟨Nat.le_of_ble_eq_true rfl, Nat.le_of_ble_eq_true rfl⟩) rfl (tm_rec2 hC (rc_K hM k_21 (by omega)) rfl) rfl (by decide) dX0_isClearOfPieces_30 (fun v_30 w_30 hp_30 => ?_)
        obtain ⟨rfl, rfl⟩ := hp_30
        show tm_V x (tm_H x Λ) 0 0 33 [(0, .ref (k_bo κ b)), (1, .int (I (s))), (2, .int (I (e))), (3, .int (I (s_sw σ))), (4, .int (I ((i : Int))))] [.int (I (bi (e + (s_sw σ) ≤ s_cu σ (4 * k_21 + 1) ∨ s_cu σ (4 * k_21 + 2) + (s_sw σ) ≤ s)))]
        refine tm_ifb_ne 38 hC dX0_isClearOfPieces_33 (by decide) (fun c_33 => ?_) (fun c_33 => ?_)
        · refine tm_iinc 4 [(4, .int (I ((i : Int) + 1))), (0, .ref (k_bo κ b)), (1, .int (I (s))), (2, .int (I (e))), (3, .int (I (s_sw σ)))] hC dX0_isClearOfPieces_38 rfl (by rw [hB.2.1]; exact Nat.le_of_ble_eq_true rfl) rfl ?_
          refine tm_goto 3 hC dX0_isClearOfPieces_41 (by decide) ?_
          refine tm_sub (L' := [(0, .ref (k_bo κ b)), (1, .int (I (s))), (2, .int (I (e))), (3, .int (I (s_sw σ))), (4, .int (I ((i : Int) + 1)))]) [1, 2, 3, 4, 0] rfl ?_
          exact ih_3  (i + 1) (⟨by omega, upto_s hu hgb_21 c_33⟩) (by omega)
        · refine tm_iconst hC dX0_isClearOfPieces_36 ?_
          exact tm_zret hC hR dX0_isClearOfPieces_37 (by omega) (⟨rfl, by rw [bi_f (fun z => c_33 (z k_21 hgc_21 hgd_21))]⟩)
  refine tm_sub (L' := [(0, .ref (k_bo κ b)), (1, .int (I (s))), (2, .int (I (e))), (3, .int (I (s_sw σ))), (4, .int (I (0)))]) [1, 2, 3, 4, 0] rfl ?_
  exact hL_3 _ 0 (⟨by omega, upto_0⟩) (Nat.lt_succ_self _)

set_option maxHeartbeats 4000000 in
set_option maxRecDepth 100000 in
theorem c_B_spoil (γ : tmG) (hst : γ.1.stackTraces = false) (Λ : tmL) (κ : KP) (σ : ST) (hM : RC γ.2.2.1 Λ κ σ) (hw : WF0 σ) (b : Int) (hb : 0 ≤ b ∧ b < s_nb σ) (f t g : Int) (hr : (-20000 ≤ f ∧ f ≤ 20000) ∧ (-20000 ≤ t ∧ t ≤ 20000) ∧ 0 ≤ g ∧ g ≤ 3) : tm_Con γ (tm_h2 γ.2.1 γ.2.2.1 γ.2.2.2.1) M_X0_hasPieceSpoiledBy 4 0 0 [.ref (k_bo κ b), .int (I (f)), .int (I (t)), .int (I (g))] Λ (fun r w' => Λ = w' ∧ r = some (.int (I (bi (spoil σ b f t g (s_nm σ)))))) := by
  refine tm_con hst (by decide) (Nat.le_of_ble_eq_true rfl) (fun x hB hR => ?_)
  have hg := hB.1
  subst hg
  have hC : tm_C x cX0_hasPieceSpoiledBy RX0 (some FieldType.boolean) := hB.2.2.2.1
  have hn := wf_n hw
  have hb9 := wf_b hw b hb
  have hkl := rc_len hM hw b hb
  show tm_V x (tm_H x Λ) 0 0 0 [(0, .ref (k_bo κ b)), (1, .int (I (f))), (2, .int (I (t))), (3, .int (I (g)))] []
  refine tm_iconst hC dX0_hasPieceSpoiledBy_0 ?_
  refine tm_istore [(4, .int (I (0))), (0, .ref (k_bo κ b)), (1, .int (I (f))), (2, .int (I (t))), (3, .int (I (g)))] hC dX0_hasPieceSpoiledBy_1 (by rw [hB.2.1]; exact Nat.le_of_ble_eq_true rfl) rfl ?_
  have hL_3 : ∀ (fu : Nat) (i : Nat), ((i : Int) ≤ ((k_ks κ b).length : Int) ∧ upto (k_ks κ b) i (fun k => ¬ (s_cu σ (4 * k + 1) < t ∧ f < s_cu σ (4 * k + 2) ∧ s_wa σ (4 * s_cu σ (4 * k + 3) + 2) < g))) → ((((k_ks κ b).length : Int) - i).toNat) < fu → tm_V x (tm_H x Λ) 0 0 3 [(0, .ref (k_bo κ b)), (1, .int (I (f))), (2, .int (I (t))), (3, .int (I (g))), (4, .int (I ((i : Int))))] [] := by
    intro fu
    induction fu with
    | zero => intro i hinv hm; exact absurd hm (Nat.not_lt_zero _)
    | succ fu ih_3 =>
      intro i hinv_3 hm_3
      obtain ⟨hi, hu⟩ := hinv_3
      refine tm_iload 4 hC dX0_hasPieceSpoiledBy_3 rfl ?_
      refine tm_aload_n 0 hC dX0_hasPieceSpoiledBy_5 rfl rfl ?_
      have hx1 := rc_B hM b (by omega)
      refine tm_getf2 hC f_X0_16 hx1 rfl dX0_hasPieceSpoiledBy_6 ?_
      refine tm_callV (b := 0) (n := 0) (rest := [.int (I ((i : Int)))]) hC (c_Lsz (tm_g x) hst _ _ _ (((k_ks κ b).length : Int)) (rc_bp hM b (by omega)) (len_m _ _)) k_X0_29 (by rw [hB.2.2.1]; exact ⟨Nat.le_of_ble_eq_true rfl, Nat.le_of_ble_eq_true rfl⟩) rfl (tm_recL hC (rc_bp hM b (by omega))) rfl (by simp [Value.category]) dX0_hasPieceSpoiledBy_9 (fun v_9 w_9 hp_9 => ?_)
      obtain ⟨rfl, rfl⟩ := hp_9
      show tm_V x (tm_H x Λ) 0 0 12 [(0, .ref (k_bo κ b)), (1, .int (I (f))), (2, .int (I (t))), (3, .int (I (g))), (4, .int (I ((i : Int))))] [.int (I (((k_ks κ b).length : Int))), .int (I ((i : Int)))]
      refine tm_icmp_ge 67 hC dX0_hasPieceSpoiledBy_12 (by decide) (by omega) (fun c_12 => ?_) (fun c_12 => ?_)
      · refine tm_iconst hC dX0_hasPieceSpoiledBy_67 ?_
        exact tm_zret hC hR dX0_hasPieceSpoiledBy_68 (by omega) (⟨rfl, by rw [bi_f (fun z => by obtain ⟨k, hk, e1, e2⟩ := z; exact upto_a hu (by omega) k (srt_in hw (rc_srt hM b hb) hk e1) e2)]⟩)
      · refine tm_aload_n 0 hC dX0_hasPieceSpoiledBy_15 rfl rfl ?_
        refine tm_getf2 hC f_X0_16 hx1 rfl dX0_hasPieceSpoiledBy_16 ?_
        refine tm_iload 4 hC dX0_hasPieceSpoiledBy_19 rfl ?_
        obtain ⟨k_21, hga_21, hgb_21, hgc_21, hgd_21⟩ := rc_kat hM hw b (by omega) i (by omega)
        have hg9_21 := wf_k hw k_21 hgc_21
        refine tm_callV (b := 0) (n := 0) (rest := []) hC (c_Lget (tm_g x) hst _ _ _ (i : Int) (k_pc κ k_21) (rc_bp hM b (by omega)) (by omega) (hga_21)) k_X0_33 (by rw [hB.2.2.1]; exact ⟨Nat.le_of_ble_eq_true rfl, Nat.le_of_ble_eq_true rfl⟩) rfl (tm_recL hC (rc_bp hM b (by omega))) rfl (by decide) dX0_hasPieceSpoiledBy_21 (fun v_21 w_21 hp_21 => ?_)
        obtain ⟨rfl, rfl⟩ := hp_21
        show tm_V x (tm_H x Λ) 0 0 24 [(0, .ref (k_bo κ b)), (1, .int (I (f))), (2, .int (I (t))), (3, .int (I (g))), (4, .int (I ((i : Int))))] [.ref (k_pc κ k_21)]
        have hp9_21 := wf_p hw (s_cu σ (4 * k_21 + 3)) (by omega)
        have hx2 := rc_K hM k_21 (by omega)
        refine tm_cast2 hC hx2 rfl w_X0_46 dX0_hasPieceSpoiledBy_24 ?_
        refine tm_astore [(5, .ref (k_pc κ k_21)), (0, .ref (k_bo κ b)), (1, .int (I (f))), (2, .int (I (t))), (3, .int (I (g))), (4, .int (I ((i : Int))))] hC dX0_hasPieceSpoiledBy_27 (by rw [hB.2.1]; exact Nat.le_of_ble_eq_true rfl) rfl ?_
        refine tm_aload 0 hC dX0_hasPieceSpoiledBy_29 rfl ?_
        refine tm_getf2 hC f_X0_48 hx2 rfl dX0_hasPieceSpoiledBy_31 ?_
        refine tm_iload_n 3 hC dX0_hasPieceSpoiledBy_34 rfl rfl ?_
        refine tm_icmp_ge 61 hC dX0_hasPieceSpoiledBy_35 (by decide) (by omega) (fun c_35 => ?_) (fun c_35 => ?_)
        · refine tm_iinc 5 [(4, .int (I ((i : Int) + 1))), (5, .ref (k_pc κ k_21)), (0, .ref (k_bo κ b)), (1, .int (I (f))), (2, .int (I (t))), (3, .int (I (g)))] hC dX0_hasPieceSpoiledBy_61 rfl (by rw [hB.2.1]; exact Nat.le_of_ble_eq_true rfl) rfl ?_
          refine tm_goto 3 hC dX0_hasPieceSpoiledBy_64 (by decide) ?_
          refine tm_sub (L' := [(0, .ref (k_bo κ b)), (1, .int (I (f))), (2, .int (I (t))), (3, .int (I (g))), (4, .int (I ((i : Int) + 1)))]) [2, 3, 4, 5, 0] rfl ?_
          exact ih_3  (i + 1) (⟨by omega, upto_s hu hgb_21 (fun z => by omega)⟩) (by omega)
        · refine tm_iload_n 2 hC dX0_hasPieceSpoiledBy_38 rfl rfl ?_
          refine tm_aload 0 hC dX0_hasPieceSpoiledBy_39 rfl ?_
          refine tm_getf2 hC f_X0_52 hx2 rfl dX0_hasPieceSpoiledBy_41 ?_
          refine tm_icmp_ge 61 hC dX0_hasPieceSpoiledBy_44 (by decide) (by omega) (fun c_44 => ?_) (fun c_44 => ?_)
          · refine tm_iinc 5 [(4, .int (I ((i : Int) + 1))), (5, .ref (k_pc κ k_21)), (0, .ref (k_bo κ b)), (1, .int (I (f))), (2, .int (I (t))), (3, .int (I (g)))] hC dX0_hasPieceSpoiledBy_61 rfl (by rw [hB.2.1]; exact Nat.le_of_ble_eq_true rfl) rfl ?_
            refine tm_goto 3 hC dX0_hasPieceSpoiledBy_64 (by decide) ?_
            refine tm_sub (L' := [(0, .ref (k_bo κ b)), (1, .int (I (f))), (2, .int (I (t))), (3, .int (I (g))), (4, .int (I ((i : Int) + 1)))]) [2, 3, 4, 5, 0] rfl ?_
            exact ih_3  (i + 1) (⟨by omega, upto_s hu hgb_21 (fun z => by omega)⟩) (by omega)
          · refine tm_iload_n 4 hC dX0_hasPieceSpoiledBy_47 rfl rfl ?_
            refine tm_aload 0 hC dX0_hasPieceSpoiledBy_48 rfl ?_
            refine tm_getf2 hC f_X0_55 hx2 rfl dX0_hasPieceSpoiledBy_50 ?_
            have hx3 := rc_P hM (s_cu σ (4 * k_21 + 3)) (by omega)
            refine tm_getf2 hC f_X0_59 hx3 rfl dX0_hasPieceSpoiledBy_53 ?_
            refine tm_icmp_le 61 hC dX0_hasPieceSpoiledBy_56 (by decide) (by omega) (fun c_56 => ?_) (fun c_56 => ?_)
            · refine tm_iinc 5 [(4, .int (I ((i : Int) + 1))), (5, .ref (k_pc κ k_21)), (0, .ref (k_bo κ b)), (1, .int (I (f))), (2, .int (I (t))), (3, .int (I (g)))] hC dX0_hasPieceSpoiledBy_61 rfl (by rw [hB.2.1]; exact Nat.le_of_ble_eq_true rfl) rfl ?_
              refine tm_goto 3 hC dX0_hasPieceSpoiledBy_64 (by decide) ?_
              refine tm_sub (L' := [(0, .ref (k_bo κ b)), (1, .int (I (f))), (2, .int (I (t))), (3, .int (I (g))), (4, .int (I ((i : Int) + 1)))]) [2, 3, 4, 5, 0] rfl ?_
              exact ih_3  (i + 1) (⟨by omega, upto_s hu hgb_21 (fun z => by omega)⟩) (by omega)
            · refine tm_iconst hC dX0_hasPieceSpoiledBy_59 ?_
              exact tm_zret hC hR dX0_hasPieceSpoiledBy_60 (by omega) (⟨rfl, by rw [bi_t ⟨k_21, hgc_21, hgd_21, by omega, by omega, by omega⟩]⟩)
  refine tm_sub (L' := [(0, .ref (k_bo κ b)), (1, .int (I (f))), (2, .int (I (t))), (3, .int (I (g))), (4, .int (I (0)))]) [1, 2, 3, 4, 0] rfl ?_
  exact hL_3 _ 0 (⟨by omega, upto_0⟩) (Nat.lt_succ_self _)

theorem fw_pos {σ : ST} {b g pl ln r : Int} (hw : WF0 σ) (h : isFW σ b g pl r) (h1 : 1 ≤ ln) (h2 : pl + ln ≤ s_wo σ (3 * b)) : pl + ln ≤ r ↔ (s_wo σ (3 * b + 2) ≤ g ∧ ∀ d, 0 ≤ d ∧ d < s_nd σ → s_fl σ (4 * d) = b → g < s_fl σ (4 * d + 3) → s_fl σ (4 * d + 1) < pl + ln → s_fl σ (4 * d + 2) ≤ pl) := by
  obtain ⟨f1, f2, f3, f4⟩ := h
  constructor
  · intro hr
    refine ⟨(f3 pl (Int.le_refl _) (by omega)).1, fun d hd e1 e2 e3 => ?_⟩
    have hd9 := wf_d hw d hd
    apply Int.le_of_not_gt
    intro hz
    by_cases q : s_fl σ (4 * d + 1) ≤ pl
    · have := (f3 pl (Int.le_refl _) (by omega)).2 d hd e1 q hz; omega
    · have := (f3 (s_fl σ (4 * d + 1)) (by omega) (by omega)).2 d hd e1 (Int.le_refl _) (by omega); omega
  · rintro ⟨g1, g2⟩
    apply Int.le_of_not_gt
    intro hz
    refine f4 (by omega) ⟨g1, fun d hd e1 e2 e3 => ?_⟩
    apply Int.le_of_not_gt
    intro hbad
    have := g2 d hd e1 hbad (by omega)
    omega

set_option maxHeartbeats 4000000 in
set_option maxRecDepth 100000 in
theorem c_B_canGive (γ : tmG) (hst : γ.1.stackTraces = false) (Λ : tmL) (κ : KP) (σ : ST) (hM : RC γ.2.2.1 Λ κ σ) (hw : WF0 σ) (b : Int) (hb : 0 ≤ b ∧ b < s_nb σ) (p : Int) (hp : 0 ≤ p ∧ p < s_np σ) (pl ln : Int) (hr : (-2147483648 ≤ pl ∧ pl ≤ 2147483647) ∧ 1 ≤ ln ∧ ln ≤ 3050) : tm_Con γ (tm_h2 γ.2.1 γ.2.2.1 γ.2.2.2.1) M_X0_canGive 5 0 0 [.ref (k_bo κ b), .ref (k_pa κ p), .int (I (pl)), .int (I (ln)), .int (I (s_sw σ))] Λ (fun r w' => Λ = w' ∧ r = some (.int (I (bi (Poss σ p ln b pl))))) := by
  refine tm_con hst (by decide) (Nat.le_of_ble_eq_true rfl) (fun x hB hR => ?_)
  have hg := hB.1
  subst hg
  have hC : tm_C x cX0_canGive RX0 (some FieldType.boolean) := hB.2.2.2.1
  have hn := wf_n hw
  have hb9 := wf_b hw b hb
  have hkl := rc_len hM hw b hb
  have hp9 := wf_p hw p hp
  show tm_V x (tm_H x Λ) 0 0 0 [(0, .ref (k_bo κ b)), (1, .ref (k_pa κ p)), (2, .int (I (pl))), (3, .int (I (ln))), (4, .int (I (s_sw σ)))] []
  refine tm_iload_n 2 hC dX0_canGive_0 rfl rfl ?_
  refine tm_if_lt 57 hC dX0_canGive_1 (by decide) (by omega) (fun c_1 => ?_) (fun c_1 => ?_)
  · refine tm_iconst hC dX0_canGive_57 ?_
    exact tm_zret hC hR dX0_canGive_58 (by omega) (⟨rfl, by rw [bi_f (fun z => by have z1 := z.1; have z2 := z.2.1; have z3 := z.2.2.1; omega)]⟩)
  · refine tm_iload_n 2 hC dX0_canGive_4 rfl rfl ?_
    refine tm_aload_n 0 hC dX0_canGive_5 rfl rfl ?_
    have hx1 := rc_B hM b (by omega)
    refine tm_getf2 hC f_X0_19 hx1 rfl dX0_canGive_6 ?_
    refine tm_iload_n 3 hC dX0_canGive_9 rfl rfl ?_
    refine tm_isub hC dX0_canGive_10 ?_
    refine tm_icmp_gt 57 hC dX0_canGive_11 (by decide) (by omega) (fun c_11 => ?_) (fun c_11 => ?_)
    · refine tm_iconst hC dX0_canGive_57 ?_
      exact tm_zret hC hR dX0_canGive_58 (by omega) (⟨rfl, by rw [bi_f (fun z => by have z1 := z.1; have z2 := z.2.1; have z3 := z.2.2.1; omega)]⟩)
    · refine tm_aload_n 1 hC dX0_canGive_14 rfl rfl ?_
      have hx2 := rc_P hM p (by omega)
      refine tm_getf2 hC f_X0_79 hx2 rfl dX0_canGive_15 ?_
      refine tm_aload_n 0 hC dX0_canGive_18 rfl rfl ?_
      refine tm_getf2 hC f_X0_23 hx1 rfl dX0_canGive_19 ?_
      refine tm_icmp_gt 57 hC dX0_canGive_22 (by decide) (by omega) (fun c_22 => ?_) (fun c_22 => ?_)
      · refine tm_iconst hC dX0_canGive_57 ?_
        exact tm_zret hC hR dX0_canGive_58 (by omega) (⟨rfl, by rw [bi_f (fun z => by have z1 := z.1; have z2 := z.2.1; have z3 := z.2.2.1; omega)]⟩)
      · refine tm_aload_n 0 hC dX0_canGive_25 rfl rfl ?_
        refine tm_iload_n 2 hC dX0_canGive_26 rfl rfl ?_
        refine tm_aload_n 1 hC dX0_canGive_27 rfl rfl ?_
        refine tm_getf2 hC f_X0_59 hx2 rfl dX0_canGive_28 ?_
        refine tm_callV (b := 0) (n := 0) (rest := []) hC (c_B_firstWorse (tm_g x) hst Λ κ σ hM hw b (by omega) pl (s_wa σ (4 * p + 2)) (by omega)) k_X0_70 (by rw [hB.2.2.1]; exact ⟨Nat.le_of_ble_eq_true rfl, Nat.le_of_ble_eq_true rfl⟩) rfl (tm_rec2 hC (rc_B hM b (by omega)) rfl) rfl (by decide) dX0_canGive_31 (fun v_31 w_31 hp_31 => ?_)
        obtain ⟨rfl, fw_31, rfl, hfw_31⟩ := hp_31
        show tm_V x (tm_H x Λ) 0 0 34 [(0, .ref (k_bo κ b)), (1, .ref (k_pa κ p)), (2, .int (I (pl))), (3, .int (I (ln))), (4, .int (I (s_sw σ)))] [.int (I (fw_31))]
        have hfb_31 := hfw_31.1
        have hfc_31 := hfw_31.2.1
        refine tm_iload_n 2 hC dX0_canGive_34 rfl rfl ?_
        refine tm_iload_n 3 hC dX0_canGive_35 rfl rfl ?_
        refine tm_iadd hC dX0_canGive_36 ?_
        refine tm_icmp_lt 57 hC dX0_canGive_37 (by decide) (by omega) (fun c_37 => ?_) (fun c_37 => ?_)
        · refine tm_iconst hC dX0_canGive_57 ?_
          exact tm_zret hC hR dX0_canGive_58 (by omega) (⟨rfl, by rw [bi_f (fun z => by have := (fw_pos hw hfw_31 (by omega) (by omega)).mpr ⟨z.2.2.2.1, z.2.2.2.2.1⟩; omega)]⟩)
        · have hfp := (fw_pos hw hfw_31 hr.2.1 (by omega)).mp (by omega)
          refine tm_aload_n 0 hC dX0_canGive_40 rfl rfl ?_
          refine tm_iload_n 2 hC dX0_canGive_41 rfl rfl ?_
          refine tm_iload_n 2 hC dX0_canGive_42 rfl rfl ?_
          refine tm_iload_n 3 hC dX0_canGive_43 rfl rfl ?_
          refine tm_iadd hC dX0_canGive_44 ?_
          refine tm_iload 4 hC dX0_canGive_45 rfl ?_
          refine tm_callV (b := 0) (n := 0) (rest := []) hC (c_B_clear (tm_g x) hst Λ κ σ hM hw b (by omega) pl (pl + ln) (by omega)) k_X0_80 (by rw [hB.2.2.1]; exact ⟨Nat.le_of_ble_eq_true rfl, Nat.le_of_ble_eq_true rfl⟩) rfl (tm_rec2 hC (rc_B hM b (by omega)) rfl) rfl (by decide) dX0_canGive_47 (fun v_47 w_47 hp_47 => ?_)
          obtain ⟨rfl, rfl⟩ := hp_47
          show tm_V x (tm_H x Λ) 0 0 50 [(0, .ref (k_bo κ b)), (1, .ref (k_pa κ p)), (2, .int (I (pl))), (3, .int (I (ln))), (4, .int (I (s_sw σ)))] [.int (I (bi (∀ k, 0 ≤ k ∧ k < s_nm σ → s_cu σ (4 * k) = b → (pl + ln) + s_sw σ ≤ s_cu σ (4 * k + 1) ∨ s_cu σ (4 * k + 2) + s_sw σ ≤ pl)))]
          refine tm_ifb_eq 57 hC dX0_canGive_50 (by decide) (fun c_50 => ?_) (fun c_50 => ?_)
          · refine tm_iconst hC dX0_canGive_57 ?_
            exact tm_zret hC hR dX0_canGive_58 (by omega) (⟨rfl, by rw [bi_f (fun z => c_50 (fun k hk e1 => (by have := z.2.2.2.2.2 k hk e1; omega)))]⟩)
          · refine tm_iconst hC dX0_canGive_53 ?_
            refine tm_goto 58 hC dX0_canGive_54 (by decide) ?_
            exact tm_zret hC hR dX0_canGive_58 (by omega) (⟨rfl, by rw [bi_t ⟨by omega, by omega, by omega, hfp.1, hfp.2, fun k hk e1 e2 => (by have := c_50 k hk e1; omega)⟩]⟩)

set_option maxHeartbeats 4000000 in
set_option maxRecDepth 100000 in
theorem c_B_roomStart (γ : tmG) (hst : γ.1.stackTraces = false) (Λ : tmL) (κ : KP) (σ : ST) (hM : RC γ.2.2.1 Λ κ σ) (hw : WF0 σ) (b : Int) (hb : 0 ≤ b ∧ b < s_nb σ) (i : Nat) (hi : (i : Int) ≤ ((k_ks κ b).length : Int)) : tm_Con γ (tm_h2 γ.2.1 γ.2.2.1 γ.2.2.2.1) M_X0_roomStart 4 0 0 [.ref (k_bo κ b), .int (I ((i : Int))), .int (I (s_sw σ))] Λ (fun v w' => Λ = w' ∧ v = some (.int (I (rmS σ (k_ks κ b) i))) ∧ 0 ≤ rmS σ (k_ks κ b) i ∧ rmS σ (k_ks κ b) i ≤ 3010) := by
  refine tm_con hst (by decide) (Nat.le_of_ble_eq_true rfl) (fun x hB hR => ?_)
  have hg := hB.1
  subst hg
  have hC : tm_C x cX0_roomStart RX0 (some FieldType.int) := hB.2.2.2.1
  have hn := wf_n hw
  have hb9 := wf_b hw b hb
  have hkl := rc_len hM hw b hb
  show tm_V x (tm_H x Λ) 0 0 0 [(0, .ref (k_bo κ b)), (1, .int (I ((i : Int)))), (2, .int (I (s_sw σ)))] []
  refine tm_iload_n 1 hC dX0_roomStart_0 rfl rfl ?_
  refine tm_iconst hC dX0_roomStart_1 ?_
  refine tm_icmp_lt 16 hC dX0_roomStart_2 (by decide) (by omega) (fun c_2 => ?_) (fun c_2 => ?_)
  · have hi0 : i = 0 := by omega
    subst hi0
    refine tm_iconst hC dX0_roomStart_16 ?_
    refine tm_goto 38 hC dX0_roomStart_17 (by decide) ?_
    exact tm_iret hC hR dX0_roomStart_38 (⟨rfl, by rw [rmS_0], by rw [rmS_0]; omega⟩)
  · obtain ⟨i9, hi9⟩ : ∃ j, i = j + 1 := ⟨i - 1, by omega⟩
    refine tm_iload_n 1 hC dX0_roomStart_5 rfl rfl ?_
    refine tm_aload_n 0 hC dX0_roomStart_6 rfl rfl ?_
    have hx1 := rc_B hM b (by omega)
    refine tm_getf2 hC f_X0_16 hx1 rfl dX0_roomStart_7 ?_
    refine tm_callV (b := 0) (n := 0) (rest := [.int (I ((i : Int)))]) hC (c_Lsz (tm_g x) hst _ _ _ (((k_ks κ b).length : Int)) (rc_bp hM b (by omega)) (len_m _ _)) k_X0_29 (by rw [hB.2.2.1]; exact ⟨Nat.le_of_ble_eq_true rfl, Nat.le_of_ble_eq_true rfl⟩) rfl (tm_recL hC (rc_bp hM b (by omega))) rfl (by simp [Value.category]) dX0_roomStart_10 (fun v_10 w_10 hp_10 => ?_)
    obtain ⟨rfl, rfl⟩ := hp_10
    show tm_V x (tm_H x Λ) 0 0 13 [(0, .ref (k_bo κ b)), (1, .int (I ((i : Int)))), (2, .int (I (s_sw σ)))] [.int (I (((k_ks κ b).length : Int))), .int (I ((i : Int)))]
    refine tm_icmp_le 20 hC dX0_roomStart_13 (by decide) (by omega) (fun c_13 => ?_) (fun c_13 => ?_)
    · refine tm_aload_n 0 hC dX0_roomStart_20 rfl rfl ?_
      refine tm_getf2 hC f_X0_16 hx1 rfl dX0_roomStart_21 ?_
      refine tm_iload_n 1 hC dX0_roomStart_24 rfl rfl ?_
      refine tm_iconst hC dX0_roomStart_25 ?_
      refine tm_isub hC dX0_roomStart_26 ?_
      obtain ⟨k_27, hga_27, hgb_27, hgc_27, hgd_27⟩ := rc_kai hM hw b (by omega) ((i : Int) - 1) (by omega)
      have hg9_27 := wf_k hw k_27 hgc_27
      refine tm_callV (b := 0) (n := 0) (rest := []) hC (c_Lget (tm_g x) hst _ _ _ ((i : Int) - 1) (k_pc κ k_27) (rc_bp hM b (by omega)) (by omega) (hga_27)) k_X0_33 (by rw [hB.2.2.1]; exact ⟨Nat.le_of_ble_eq_true rfl, Nat.le_of_ble_eq_true rfl⟩) rfl (tm_recL hC (rc_bp hM b (by omega))) rfl (by decide) dX0_roomStart_27 (fun v_27 w_27 hp_27 => ?_)
      obtain ⟨rfl, rfl⟩ := hp_27
      show tm_V x (tm_H x Λ) 0 0 30 [(0, .ref (k_bo κ b)), (1, .int (I ((i : Int)))), (2, .int (I (s_sw σ)))] [.ref (k_pc κ k_27)]
      have hrs := rmS_s (σ := σ) (show (k_ks κ b)[i9]? = some k_27 from by rw [← hgb_27, show ((i : Int) - 1).toNat = i9 by omega])
      rw [← hi9] at hrs
      have hx2 := rc_K hM k_27 (by omega)
      refine tm_cast2 hC hx2 rfl w_X0_46 dX0_roomStart_30 ?_
      refine tm_getf2 hC f_X0_52 hx2 rfl dX0_roomStart_33 ?_
      refine tm_iload_n 2 hC dX0_roomStart_36 rfl rfl ?_
      refine tm_iadd hC dX0_roomStart_37 ?_
      exact tm_iret hC hR dX0_roomStart_38 (⟨rfl, by rw [hrs], by rw [hrs]; omega⟩)
    · exact ((by omega) : False).elim

set_option maxHeartbeats 4000000 in
set_option maxRecDepth 100000 in
theorem c_B_roomEnd (γ : tmG) (hst : γ.1.stackTraces = false) (Λ : tmL) (κ : KP) (σ : ST) (hM : RC γ.2.2.1 Λ κ σ) (hw : WF0 σ) (b : Int) (hb : 0 ≤ b ∧ b < s_nb σ) (i : Nat) (hi : (i : Int) ≤ ((k_ks κ b).length : Int)) : tm_Con γ (tm_h2 γ.2.1 γ.2.2.1 γ.2.2.2.1) M_X0_roomEnd 4 0 0 [.ref (k_bo κ b), .int (I ((i : Int))), .int (I (s_sw σ))] Λ (fun v w' => Λ = w' ∧ v = some (.int (I (rmE σ b (k_ks κ b) i))) ∧ -10 ≤ rmE σ b (k_ks κ b) i ∧ rmE σ b (k_ks κ b) i ≤ s_wo σ (3 * b)) := by
  refine tm_con hst (by decide) (Nat.le_of_ble_eq_true rfl) (fun x hB hR => ?_)
  have hg := hB.1
  subst hg
  have hC : tm_C x cX0_roomEnd RX0 (some FieldType.int) := hB.2.2.2.1
  have hn := wf_n hw
  have hb9 := wf_b hw b hb
  have hkl := rc_len hM hw b hb
  show tm_V x (tm_H x Λ) 0 0 0 [(0, .ref (k_bo κ b)), (1, .int (I ((i : Int)))), (2, .int (I (s_sw σ)))] []
  refine tm_iload_n 1 hC dX0_roomEnd_0 rfl rfl ?_
  refine tm_if_lt 15 hC dX0_roomEnd_1 (by decide) (by omega) (fun c_1 => ?_) (fun c_1 => ?_)
  · exact ((by omega) : False).elim
  · refine tm_iload_n 1 hC dX0_roomEnd_4 rfl rfl ?_
    refine tm_aload_n 0 hC dX0_roomEnd_5 rfl rfl ?_
    have hx1 := rc_B hM b (by omega)
    refine tm_getf2 hC f_X0_16 hx1 rfl dX0_roomEnd_6 ?_
    refine tm_callV (b := 0) (n := 0) (rest := [.int (I ((i : Int)))]) hC (c_Lsz (tm_g x) hst _ _ _ (((k_ks κ b).length : Int)) (rc_bp hM b (by omega)) (len_m _ _)) k_X0_29 (by rw [hB.2.2.1]; exact ⟨Nat.le_of_ble_eq_true rfl, Nat.le_of_ble_eq_true rfl⟩) rfl (tm_recL hC (rc_bp hM b (by omega))) rfl (by simp [Value.category]) dX0_roomEnd_9 (fun v_9 w_9 hp_9 => ?_)
    obtain ⟨rfl, rfl⟩ := hp_9
    show tm_V x (tm_H x Λ) 0 0 12 [(0, .ref (k_bo κ b)), (1, .int (I ((i : Int)))), (2, .int (I (s_sw σ)))] [.int (I (((k_ks κ b).length : Int))), .int (I ((i : Int)))]
    refine tm_icmp_lt 22 hC dX0_roomEnd_12 (by decide) (by omega) (fun c_12 => ?_) (fun c_12 => ?_)
    · refine tm_aload_n 0 hC dX0_roomEnd_22 rfl rfl ?_
      refine tm_getf2 hC f_X0_16 hx1 rfl dX0_roomEnd_23 ?_
      refine tm_iload_n 1 hC dX0_roomEnd_26 rfl rfl ?_
      obtain ⟨k_27, hga_27, hgb_27, hgc_27, hgd_27⟩ := rc_kat hM hw b (by omega) i (by omega)
      have hg9_27 := wf_k hw k_27 hgc_27
      refine tm_callV (b := 0) (n := 0) (rest := []) hC (c_Lget (tm_g x) hst _ _ _ (i : Int) (k_pc κ k_27) (rc_bp hM b (by omega)) (by omega) (hga_27)) k_X0_33 (by rw [hB.2.2.1]; exact ⟨Nat.le_of_ble_eq_true rfl, Nat.le_of_ble_eq_true rfl⟩) rfl (tm_recL hC (rc_bp hM b (by omega))) rfl (by decide) dX0_roomEnd_27 (fun v_27 w_27 hp_27 => ?_)
      obtain ⟨rfl, rfl⟩ := hp_27
      show tm_V x (tm_H x Λ) 0 0 30 [(0, .ref (k_bo κ b)), (1, .int (I ((i : Int)))), (2, .int (I (s_sw σ)))] [.ref (k_pc κ k_27)]
      have hrs := rmE_k (σ := σ) (b := b) hgb_27
      rw [hgd_27] at hg9_27
      have hx2 := rc_K hM k_27 (by omega)
      refine tm_cast2 hC hx2 rfl w_X0_46 dX0_roomEnd_30 ?_
      refine tm_getf2 hC f_X0_48 hx2 rfl dX0_roomEnd_33 ?_
      refine tm_iload_n 2 hC dX0_roomEnd_36 rfl rfl ?_
      refine tm_isub hC dX0_roomEnd_37 ?_
      exact tm_iret hC hR dX0_roomEnd_38 (⟨rfl, by rw [hrs], by rw [hrs]; omega⟩)
    · refine tm_aload_n 0 hC dX0_roomEnd_15 rfl rfl ?_
      refine tm_getf2 hC f_X0_19 hx1 rfl dX0_roomEnd_16 ?_
      refine tm_goto 38 hC dX0_roomEnd_19 (by decide) ?_
      exact tm_iret hC hR dX0_roomEnd_38 (⟨rfl, by rw [rmE_n (by omega)], by rw [rmE_n (by omega)]; omega⟩)
