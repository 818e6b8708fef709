def kSm (κ : KP) (f : Int → Int) : KP := (κ.1, κ.2.1, κ.2.2.1, κ.2.2.2.1, κ.2.2.2.2.1, κ.2.2.2.2.2.1, κ.2.2.2.2.2.2.1, κ.2.2.2.2.2.2.2.1, κ.2.2.2.2.2.2.2.2.1, κ.2.2.2.2.2.2.2.2.2.1, κ.2.2.2.2.2.2.2.2.2.2.1, κ.2.2.2.2.2.2.2.2.2.2.2.1, f)
theorem ai_ne {T : ClassId × ClassId × ClassId × ClassId} {n : Nat} {g : Int → Int} {c : Nat} {fs : List Value} : (.inl (.inr (c, fs)) : va_E ⊕ List Nat) ≠ .inl (tm_ai T n g) := by
  intro q
  unfold tm_ai at q
  cases q
theorem al_ne {e : va_E} {xs : List Nat} : (.inr xs : va_E ⊕ List Nat) ≠ .inl e := by intro q; cases q
theorem RC_sm {T : ClassId × ClassId × ClassId × ClassId} {Λ : tmL} {κ : KP} {σ : ST} {f g : Int → Int} (h : RC T Λ (kSm κ f) σ) : RC T (tm_u2 Λ (k_ar κ) (tm_ai T 3011 g)) (kSm κ g) σ := by
  have ne : ∀ (a : Nat) (e : va_E ⊕ List Nat), Λ a = some e → e ≠ .inl (tm_ai T 3011 f) → tm_u2 Λ (k_ar κ) (tm_ai T 3011 g) a = some e := by
    intro a e ha hne
    rw [tm_u2_n (fun z => hne (by
      have h1 : Λ (k_ar κ) = some (.inl (tm_ai T 3011 f)) := rc_ar h
      rw [← z, ha] at h1
      exact Option.some.inj h1))]
    exact ha
  obtain ⟨h1, ⟨h2, h3, h4, h5, h6⟩, h7, h8, h9, h10, h11, h12, h13⟩ := h
  refine ⟨ne _ _ h1 ai_ne, ⟨ne _ _ h2 al_ne, ne _ _ h3 al_ne, ne _ _ h4 al_ne, ne _ _ h5 al_ne, tm_u2_s⟩, fun b hb => ⟨ne _ _ (h7 b hb).1 ai_ne, ne _ _ (h7 b hb).2.1 al_ne, ne _ _ (h7 b hb).2.2.1 al_ne, (h7 b hb).2.2.2⟩, fun p hp => ne _ _ (h8 p hp) ai_ne, fun d hd => ne _ _ (h9 d hd) ai_ne, fun k hk => ne _ _ (h10 k hk) ai_ne, ⟨h11.1, h11.2.1, fun i j c hi hc => ne _ _ (h11.2.2 i j c hi hc) ai_ne⟩, h12, h13⟩
theorem kn_step {f g : Int → Int} {r t ln sp : Int} (h : ∀ j, 0 ≤ j ∧ j ≤ sp → f j = g j) (h0 : 0 ≤ r) (h1 : r ≤ sp) (h2 : 0 ≤ r - t) (h3 : r - t ≤ sp) : ∀ j, 0 ≤ j ∧ j ≤ sp → tm_ui f r (max (f r) (f (r - t) + ln)) j = tm_ui g r (max (g r) (g (r - t) + ln)) j := by
  intro j hj
  rw [h r ⟨h0, h1⟩, h (r - t) ⟨h2, h3⟩]
  by_cases e : j = r
  · subst e; rw [tm_ui_s, tm_ui_s]
  · rw [tm_ui_n e, tm_ui_n e]; exact h j hj

set_option maxHeartbeats 4000000 in
set_option maxRecDepth 100000 in
theorem c_T_clear (γ : tmG) (hst : γ.1.stackTraces = false) (Λ : tmL) (κ : KP) (σ : ST) (hM : RC γ.2.2.1 Λ κ σ) (hw : WF0 σ) : tm_Con γ (tm_h2 γ.2.1 γ.2.2.1 γ.2.2.2.1) M_X5_clearBestSums 1 0 0 [.ref (k_o κ)] Λ (fun v w' => ∃ f, RC γ.2.2.1 w' (kSm κ f) σ ∧ (∀ j : Int, 0 ≤ j ∧ j < 3011 → f j = 0) ∧ v = none) := by
  refine tm_con hst (by decide) (Nat.le_of_ble_eq_true rfl) (fun x hB hR => ?_)
  have hg := hB.1
  subst hg
  have hC : tm_C x cX5_clearBestSums RX5 (none) := hB.2.2.2.1
  have hn := wf_n hw
  have hAr0 := rc_ar hM
  show tm_V x (tm_H x Λ) 0 0 0 [(0, .ref (k_o κ))] []
  refine tm_iconst hC dX5_clearBestSums_0 ?_
  refine tm_istore_n [(1, .int (I (0))), (0, .ref (k_o κ))] hC dX5_clearBestSums_1 rfl (by rw [hB.2.1]; exact Nat.le_of_ble_eq_true rfl) rfl ?_
  have hL_2 : ∀ (fu : Nat) (W : tmL) (f1 : Int → Int) (i : Nat), (RC (tm_T x) W (kSm κ f1) σ ∧ (i : Int) ≤ 3011 ∧ ∀ j : Int, 0 ≤ j ∧ j < i → f1 j = 0) → (3011 - i) < fu → tm_V x (tm_H x W) 0 0 2 [(0, .ref (k_o κ)), (1, .int (I ((i : Int))))] [] := by
    intro fu
    induction fu with
    | zero => intro W f1 i hinv hm; exact absurd hm (Nat.not_lt_zero _)
    | succ fu ih_2 =>
      intro W f1 i hinv_2 hm_2
      obtain ⟨hM1, hi, hz⟩ := hinv_2
      have hAr_W : W (k_ar κ) = some (.inl (tm_ai (tm_T x) 3011 f1)) := rc_ar hM1
      skip
      refine tm_iload_n 1 hC dX5_clearBestSums_2 rfl rfl ?_
      refine tm_aload_n 0 hC dX5_clearBestSums_3 rfl rfl ?_
      have hx1 := rc_o hM1
      refine tm_getf2 hC f_X5_25 hx1 rfl dX5_clearBestSums_4 ?_
      refine tm_alen2 (t0 := 0) (ty := .int) hC hAr_W rfl dX5_clearBestSums_7 ?_
      refine tm_icmp_ge 24 hC dX5_clearBestSums_8 (by decide) (by omega) (fun c_8 => ?_) (fun c_8 => ?_)
      · exact tm_vret hC hR dX5_clearBestSums_24 (⟨f1, hM1, fun j hj => hz j (by omega), rfl⟩)
      · refine tm_aload_n 0 hC dX5_clearBestSums_11 rfl rfl ?_
        refine tm_getf2 hC f_X5_25 hx1 rfl dX5_clearBestSums_12 ?_
        refine tm_iload_n 1 hC dX5_clearBestSums_15 rfl rfl ?_
        refine tm_iconst hC dX5_clearBestSums_16 ?_
        refine tm_iast2 hC hAr_W (by omega) dX5_clearBestSums_17 ?_
        obtain ⟨w2, hw3⟩ : ∃ z, z = tm_u2 W (k_ar κ) (tm_ai (tm_T x) 3011 (tm_ui f1 ((i : Int)) (0))) := ⟨_, rfl⟩
        show tm_V x (tm_H x (tm_u2 W (k_ar κ) (tm_ai (tm_T x) 3011 (tm_ui f1 ((i : Int)) (0))))) 0 0 18 [(0, .ref (k_o κ)), (1, .int (I ((i : Int))))] []
        rw [← hw3]
        have hw2_k_ar_κ : w2 (k_ar κ) = some (.inl (tm_ai (tm_T x) 3011 (tm_ui f1 ((i : Int)) (0)))) := by rw [hw3]; first | done | exact tm_u2_s
        have hw2_k_o_κ := (show w2 (k_o κ) = _ by rw [hw3]; exact tm_u2_n (fun z => absurd (hAr_W.symm.trans (z ▸ hx1)) (by intro q; cases q))).trans hx1
        have hM_w2 : RC (tm_T x) w2 (kSm κ (tm_ui f1 ((i : Int)) (0))) σ := by rw [hw3]; exact RC_sm hM1
        refine tm_iinc 1 [(1, .int (I ((i : Int) + 1))), (0, .ref (k_o κ))] hC dX5_clearBestSums_18 rfl (by rw [hB.2.1]; exact Nat.le_of_ble_eq_true rfl) rfl ?_
        refine tm_goto 2 hC dX5_clearBestSums_21 (by decide) ?_
        refine tm_sub (L' := [(0, .ref (k_o κ)), (1, .int (I ((i : Int) + 1)))]) [1, 0] rfl ?_
        exact ih_2  w2 (tm_ui f1 ((i : Int)) (0)) (i + 1) (⟨hM_w2, by omega, fun j hj => (by by_cases e : j = i; subst e; exact tm_ui_s; rw [tm_ui_n e]; exact hz j (by omega))⟩) (by omega)
  refine tm_sub (L' := [(0, .ref (k_o κ)), (1, .int (I (0)))]) [1, 0] rfl ?_
  exact hL_2 _ Λ (k_sm κ) 0 (⟨hM, by omega, fun j hj => by omega⟩) (Nat.lt_succ_self _)

set_option maxHeartbeats 4000000 in
set_option maxRecDepth 100000 in
theorem c_T_addTo (γ : tmG) (hst : γ.1.stackTraces = false) (Λ : tmL) (κ : KP) (σ : ST) (hM : RC γ.2.2.1 Λ κ σ) (hw : WF0 σ) (p : Int) (hp : 0 ≤ p ∧ p < s_np σ) (sp : Int) (F : Int → Int) (hKB : knB F) (hsp : 0 ≤ sp ∧ sp ≤ 3010) (hF : ∀ j, 0 ≤ j ∧ j ≤ sp → k_sm κ j = F j) : tm_Con γ (tm_h2 γ.2.1 γ.2.2.1 γ.2.2.2.1) M_X5_addToBestSums 2 0 0 [.ref (k_o κ), .ref (k_pa κ p), .int (I (sp))] Λ (fun v w' => ∃ f, RC γ.2.2.1 w' (kSm κ f) σ ∧ (∀ j, 0 ≤ j ∧ j ≤ sp → f j = knI (s_wa σ (4 * p + 0) + s_sw σ) (s_wa σ (4 * p + 0)) sp F (s_wa σ (4 * p + 3)).toNat j) ∧ v = none) := by
  refine tm_con hst (by decide) (Nat.le_of_ble_eq_true rfl) (fun x hB hR => ?_)
  have hg := hB.1
  subst hg
  have hC : tm_C x cX5_addToBestSums RX5 (none) := hB.2.2.2.1
  have hn := wf_n hw
  have hAr0 := rc_ar hM
  have hp9 := wf_p hw p hp
  show tm_V x (tm_H x Λ) 0 0 0 [(0, .ref (k_o κ)), (1, .ref (k_pa κ p)), (2, .int (I (sp)))] []
  refine tm_aload_n 1 hC dX5_addToBestSums_0 rfl rfl ?_
  have hx1 := rc_P hM p (by omega)
  refine tm_getf2 hC f_X5_150 hx1 rfl dX5_addToBestSums_1 ?_
  refine tm_aload_n 0 hC dX5_addToBestSums_4 rfl rfl ?_
  have hx2 := rc_o hM
  refine tm_getf2 hC f_X5_33 hx2 rfl dX5_addToBestSums_5 ?_
  refine tm_iadd hC dX5_addToBestSums_8 ?_
  refine tm_istore_n [(3, .int (I ((s_wa σ (4 * p + 0)) + (s_sw σ)))), (0, .ref (k_o κ)), (1, .ref (k_pa κ p)), (2, .int (I (sp)))] hC dX5_addToBestSums_9 rfl (by rw [hB.2.1]; exact Nat.le_of_ble_eq_true rfl) rfl ?_
  refine tm_iconst hC dX5_addToBestSums_10 ?_
  refine tm_istore [(4, .int (I (0))), (3, .int (I ((s_wa σ (4 * p + 0)) + (s_sw σ)))), (0, .ref (k_o κ)), (1, .ref (k_pa κ p)), (2, .int (I (sp)))] hC dX5_addToBestSums_11 (by rw [hB.2.1]; exact Nat.le_of_ble_eq_true rfl) rfl ?_
  have hL_13 : ∀ (fu : Nat) (W1 : tmL) (f1 : Int → Int) (kn : Nat), (RC (tm_T x) W1 (kSm κ f1) σ ∧ (kn : Int) ≤ s_wa σ (4 * p + 3) ∧ ∀ j, 0 ≤ j ∧ j ≤ sp → f1 j = knI (s_wa σ (4 * p + 0) + s_sw σ) (s_wa σ (4 * p + 0)) sp F kn j) → ((s_wa σ (4 * p + 3) - kn).toNat) < fu → tm_V x (tm_H x W1) 0 0 13 [(0, .ref (k_o κ)), (1, .ref (k_pa κ p)), (2, .int (I (sp))), (3, .int (I ((s_wa σ (4 * p + 0)) + (s_sw σ)))), (4, .int (I ((kn : Int))))] [] := by
    intro fu
    induction fu with
    | zero => intro W1 f1 kn hinv hm; exact absurd hm (Nat.not_lt_zero _)
    | succ fu ih_13 =>
      intro W1 f1 kn hinv_13 hm_13
      obtain ⟨hM1, hkn, hf1⟩ := hinv_13
      have hB1 : knB (knI (s_wa σ (4 * p + 0) + s_sw σ) (s_wa σ (4 * p + 0)) sp F kn) := knI_b hKB (by omega) (by omega) kn
      have hAr_W1 : W1 (k_ar κ) = some (.inl (tm_ai (tm_T x) 3011 f1)) := rc_ar hM1
      skip
      refine tm_iload 4 hC dX5_addToBestSums_13 rfl ?_
      refine tm_aload_n 1 hC dX5_addToBestSums_15 rfl rfl ?_
      have hx3 := rc_P hM1 p (by omega)
      refine tm_getf2 hC f_X5_159 hx3 rfl dX5_addToBestSums_16 ?_
      refine tm_icmp_ge 74 hC dX5_addToBestSums_19 (by decide) (by omega) (fun c_19 => ?_) (fun c_19 => ?_)
      · exact tm_vret hC hR dX5_addToBestSums_74 (⟨f1, hM1, fun j hj => by rw [hf1 j hj, show (s_wa σ (4 * p + 3)).toNat = kn by omega], rfl⟩)
      · refine tm_iload_n 2 hC dX5_addToBestSums_22 rfl rfl ?_
        refine tm_istore [(5, .int (I (sp))), (0, .ref (k_o κ)), (1, .ref (k_pa κ p)), (2, .int (I (sp))), (3, .int (I ((s_wa σ (4 * p + 0)) + (s_sw σ)))), (4, .int (I ((kn : Int))))] hC dX5_addToBestSums_23 (by rw [hB.2.1]; exact Nat.le_of_ble_eq_true rfl) rfl ?_
        have hL_25 : ∀ (fu : Nat) (W2 : tmL) (f2 : Int → Int) (r : Int), (RC (tm_T x) W2 (kSm κ f2) σ ∧ (-1 ≤ r ∧ r ≤ sp) ∧ ∀ j, 0 ≤ j ∧ j ≤ sp → f2 j = knP (s_wa σ (4 * p + 0) + s_sw σ) (s_wa σ (4 * p + 0)) sp (knI (s_wa σ (4 * p + 0) + s_sw σ) (s_wa σ (4 * p + 0)) sp F kn) r j) → ((r + 1).toNat) < fu → tm_V x (tm_H x W2) 0 0 25 [(0, .ref (k_o κ)), (1, .ref (k_pa κ p)), (2, .int (I (sp))), (3, .int (I ((s_wa σ (4 * p + 0)) + (s_sw σ)))), (4, .int (I ((kn : Int)))), (5, .int (I (r)))] [] := by
          intro fu
          induction fu with
          | zero => intro W2 f2 r hinv hm; exact absurd hm (Nat.not_lt_zero _)
          | succ fu ih_25 =>
            intro W2 f2 r hinv_25 hm_25
            obtain ⟨hM2, hr9, hf2⟩ := hinv_25
            have hB2 : knB (knP (s_wa σ (4 * p + 0) + s_sw σ) (s_wa σ (4 * p + 0)) sp (knI (s_wa σ (4 * p + 0) + s_sw σ) (s_wa σ (4 * p + 0)) sp F kn) r) := knP_b hB1 (by omega) (by omega)
            have hAr_W2 : W2 (k_ar κ) = some (.inl (tm_ai (tm_T x) 3011 f2)) := rc_ar hM2
            skip
            refine tm_iload 5 hC dX5_addToBestSums_25 rfl ?_
            refine tm_iload_n 3 hC dX5_addToBestSums_27 rfl rfl ?_
            refine tm_icmp_lt 68 hC dX5_addToBestSums_28 (by decide) (by omega) (fun c_28 => ?_) (fun c_28 => ?_)
            · refine tm_iinc 4 [(4, .int (I ((kn : Int) + 1))), (0, .ref (k_o κ)), (1, .ref (k_pa κ p)), (2, .int (I (sp))), (3, .int (I ((s_wa σ (4 * p + 0)) + (s_sw σ)))), (5, .int (I (r)))] hC dX5_addToBestSums_68 rfl (by rw [hB.2.1]; exact Nat.le_of_ble_eq_true rfl) rfl ?_
              refine tm_goto 13 hC dX5_addToBestSums_71 (by decide) ?_
              refine tm_sub (L' := [(0, .ref (k_o κ)), (1, .ref (k_pa κ p)), (2, .int (I (sp))), (3, .int (I ((s_wa σ (4 * p + 0)) + (s_sw σ)))), (4, .int (I ((kn : Int) + 1)))]) [1, 2, 3, 4, 0] rfl ?_
              exact ih_13  W2 f2 (kn + 1) (⟨hM2, by omega, fun j hj => by rw [hf2 j hj, knP_e (by omega) (by omega) (by omega)]; rfl⟩) (by omega)
            · have hv1 := hB2 r (by omega)
              have hv2 := hB2 (r - (s_wa σ (4 * p + 0) + s_sw σ)) (by omega)
              rw [← hf2 r (by omega)] at hv1
              rw [← hf2 (r - (s_wa σ (4 * p + 0) + s_sw σ)) (by omega)] at hv2
              refine tm_aload_n 0 hC dX5_addToBestSums_31 rfl rfl ?_
              have hx4 := rc_o hM2
              refine tm_getf2 hC f_X5_25 hx4 rfl dX5_addToBestSums_32 ?_
              refine tm_iload 5 hC dX5_addToBestSums_35 rfl ?_
              refine tm_aload_n 0 hC dX5_addToBestSums_37 rfl rfl ?_
              refine tm_getf2 hC f_X5_25 hx4 rfl dX5_addToBestSums_38 ?_
              refine tm_iload 5 hC dX5_addToBestSums_41 rfl ?_
              refine tm_iald2 hC hAr_W2 (by omega) dX5_addToBestSums_43 ?_
              refine tm_aload_n 0 hC dX5_addToBestSums_44 rfl rfl ?_
              refine tm_getf2 hC f_X5_25 hx4 rfl dX5_addToBestSums_45 ?_
              refine tm_iload 5 hC dX5_addToBestSums_48 rfl ?_
              refine tm_iload_n 3 hC dX5_addToBestSums_50 rfl rfl ?_
              refine tm_isub hC dX5_addToBestSums_51 ?_
              refine tm_iald2 hC hAr_W2 (by omega) dX5_addToBestSums_52 ?_
              refine tm_aload_n 1 hC dX5_addToBestSums_53 rfl rfl ?_
              have hx5 := rc_P hM2 p (by omega)
              refine tm_getf2 hC f_X5_150 hx5 rfl dX5_addToBestSums_54 ?_
              refine tm_iadd hC dX5_addToBestSums_57 ?_
              refine tm_mm hC true x_X5_310 (by omega) (by rw [hB.2.2.1]; exact ⟨Nat.le_of_ble_eq_true rfl, Nat.le_of_ble_eq_true rfl⟩) ((by simp [Value.category])) dX5_addToBestSums_58 ?_
              show tm_V x (tm_H x W2) 0 0 61 [(0, .ref (k_o κ)), (1, .ref (k_pa κ p)), (2, .int (I (sp))), (3, .int (I ((s_wa σ (4 * p + 0)) + (s_sw σ)))), (4, .int (I ((kn : Int)))), (5, .int (I (r)))] [.int (I (max (f2 (r)) ((f2 (r - ((s_wa σ (4 * p + 0)) + (s_sw σ)))) + (s_wa σ (4 * p + 0))))), .int (I (r)), .ref (k_ar κ)]
              refine tm_iast2 hC hAr_W2 (by omega) dX5_addToBestSums_61 ?_
              obtain ⟨w6, hw7⟩ : ∃ z, z = tm_u2 W2 (k_ar κ) (tm_ai (tm_T x) 3011 (tm_ui f2 (r) (max (f2 (r)) ((f2 (r - ((s_wa σ (4 * p + 0)) + (s_sw σ)))) + (s_wa σ (4 * p + 0)))))) := ⟨_, rfl⟩
              show tm_V x (tm_H x (tm_u2 W2 (k_ar κ) (tm_ai (tm_T x) 3011 (tm_ui f2 (r) (max (f2 (r)) ((f2 (r - ((s_wa σ (4 * p + 0)) + (s_sw σ)))) + (s_wa σ (4 * p + 0)))))))) 0 0 62 [(0, .ref (k_o κ)), (1, .ref (k_pa κ p)), (2, .int (I (sp))), (3, .int (I ((s_wa σ (4 * p + 0)) + (s_sw σ)))), (4, .int (I ((kn : Int)))), (5, .int (I (r)))] []
              rw [← hw7]
              have hw6_k_ar_κ : w6 (k_ar κ) = some (.inl (tm_ai (tm_T x) 3011 (tm_ui f2 (r) (max (f2 (r)) ((f2 (r - ((s_wa σ (4 * p + 0)) + (s_sw σ)))) + (s_wa σ (4 * p + 0))))))) := by rw [hw7]; first | done | exact tm_u2_s
              have hw6_k_o_κ := (show w6 (k_o κ) = _ by rw [hw7]; exact tm_u2_n (fun z => absurd (hAr_W2.symm.trans (z ▸ hx4)) (by intro q; cases q))).trans hx4
              have hw6_k_pa_κ_p := (show w6 (k_pa κ p) = _ by rw [hw7]; exact tm_u2_n (fun z => absurd (hAr_W2.symm.trans (z ▸ hx5)) (by intro q; cases q))).trans hx5
              have hM_w6 : RC (tm_T x) w6 (kSm κ (tm_ui f2 (r) (max (f2 (r)) ((f2 (r - ((s_wa σ (4 * p + 0)) + (s_sw σ)))) + (s_wa σ (4 * p + 0)))))) σ := by rw [hw7]; exact RC_sm hM2
              refine tm_iinc 5 [(5, .int (I (r + (-1)))), (0, .ref (k_o κ)), (1, .ref (k_pa κ p)), (2, .int (I (sp))), (3, .int (I ((s_wa σ (4 * p + 0)) + (s_sw σ)))), (4, .int (I ((kn : Int))))] hC dX5_addToBestSums_62 rfl (by rw [hB.2.1]; exact Nat.le_of_ble_eq_true rfl) rfl ?_
              refine tm_goto 25 hC dX5_addToBestSums_65 (by decide) ?_
              refine tm_sub (L' := [(0, .ref (k_o κ)), (1, .ref (k_pa κ p)), (2, .int (I (sp))), (3, .int (I ((s_wa σ (4 * p + 0)) + (s_sw σ)))), (4, .int (I ((kn : Int)))), (5, .int (I (r + (-1))))]) [1, 2, 3, 4, 5, 0] rfl ?_
              exact ih_25  w6 (tm_ui f2 (r) (max (f2 (r)) ((f2 (r - ((s_wa σ (4 * p + 0)) + (s_sw σ)))) + (s_wa σ (4 * p + 0))))) (r + (-1)) (⟨hM_w6, by omega, fun j hj => (kn_step hf2 (by omega) (by omega) (by omega) (by omega) j hj).trans (by rw [knP_s (by omega) (by omega) (by omega)])⟩) (by omega)
        refine tm_sub (L' := [(0, .ref (k_o κ)), (1, .ref (k_pa κ p)), (2, .int (I (sp))), (3, .int (I ((s_wa σ (4 * p + 0)) + (s_sw σ)))), (4, .int (I ((kn : Int)))), (5, .int (I (sp)))]) [1, 2, 3, 4, 5, 0] rfl ?_
        exact hL_25 _ W1 f1 sp (⟨hM1, by omega, fun j hj => by rw [hf1 j hj, knP_0]⟩) (Nat.lt_succ_self _)
  refine tm_sub (L' := [(0, .ref (k_o κ)), (1, .ref (k_pa κ p)), (2, .int (I (sp))), (3, .int (I ((s_wa σ (4 * p + 0)) + (s_sw σ)))), (4, .int (I (0)))]) [2, 3, 4, 1, 0] rfl ?_
  exact hL_13 _ Λ (k_sm κ) 0 (⟨hM, by omega, hF⟩) (Nat.lt_succ_self _)

set_option maxHeartbeats 4000000 in
set_option maxRecDepth 100000 in
theorem c_T_best (γ : tmG) (hst : γ.1.stackTraces = false) (Λ : tmL) (κ : KP) (σ : ST) (hM : RC γ.2.2.1 Λ κ σ) (hw : WF0 σ) (b g l : Int) (hr : (-2147483648 ≤ b ∧ b ≤ 2147483647) ∧ (-2147483648 ≤ g ∧ g ≤ 2147483647) ∧ (-2147483648 ≤ l ∧ l ≤ 2147483647)) : tm_ConX γ (tm_h2 γ.2.1 γ.2.2.1 γ.2.2.2.1) M_X5_bestUse 7 3 18 [.ref (k_o κ), .int (I (b)), .int (I (g)), .int (I (l))] Λ (fun v w' => ∃ f r, RC γ.2.2.1 w' (kSm κ f) σ ∧ v = some (.int (I r)) ∧ Sp_best σ b g l 0 r) (fun E w' => Λ = w' ∧ ((E = "java/lang/IndexOutOfBoundsException" ∧ Sp_best σ b g l 1 0) ∨ (E = "java/lang/IllegalArgumentException" ∧ Sp_best σ b g l 2 0))) := by
  refine tm_conX hst (by decide) (Nat.le_of_ble_eq_true rfl) (fun x hB hR hnt => ?_)
  have hg := hB.1
  subst hg
  have hC : tm_C x cX5_bestUse RX5 (some FieldType.int) := hB.2.2.2.1
  have hn := wf_n hw
  have hAr0 := rc_ar hM
  show tm_V x (tm_H x Λ) 3 18 0 [(0, .ref (k_o κ)), (1, .int (I (b))), (2, .int (I (g))), (3, .int (I (l)))] []
  refine tm_aload_n 0 hC dX5_bestUse_0 rfl rfl ?_
  refine tm_iload_n 1 hC dX5_bestUse_1 rfl rfl ?_
  refine tm_less (b' := 1 + 2) (n' := 6 + 12) ⟨by omega, by omega⟩ ?_
  refine tm_callVX (b := 2) (n := 12) (rest := []) hC hR hnt (c_T_board (tm_g x) hst Λ κ σ hM hw b (by omega)) k_X5_72 (by rw [hB.2.2.1]; exact ⟨Nat.le_of_ble_eq_true rfl, Nat.le_of_ble_eq_true rfl⟩) rfl (tm_rec2 hC (rc_o hM) rfl) rfl (by decide) dX5_bestUse_2 (fun E9 w9 z9 => ⟨z9.1, Or.inl (⟨z9.2.1, Or.inl ⟨z9.2.2, rfl⟩⟩)⟩) (fun v_2 w_2 hp_2 => ?_)
  obtain ⟨rfl, rfl, hbb_2⟩ := hp_2
  have hbb9_2 := wf_b hw b hbb_2
  have hkl_2 := rc_len hM hw b hbb_2
  show tm_V x (tm_H x Λ) 2 12 5 [(0, .ref (k_o κ)), (1, .int (I (b))), (2, .int (I (g))), (3, .int (I (l)))] [.ref (k_bo κ b)]
  refine tm_astore [(4, .ref (k_bo κ b)), (0, .ref (k_o κ)), (1, .int (I (b))), (2, .int (I (g))), (3, .int (I (l)))] hC dX5_bestUse_5 (by rw [hB.2.1]; exact Nat.le_of_ble_eq_true rfl) rfl ?_
  refine tm_iload_n 3 hC dX5_bestUse_7 rfl rfl ?_
  refine tm_less (b' := 1 + 1) (n' := 6 + 6) ⟨by omega, by omega⟩ ?_
  refine tm_callSX (b := 1) (n := 6) (rest := []) hC hR hnt (c_T_check (tm_g x) hst Λ g (by omega)) k_X5_130 (by rw [hB.2.2.1]; exact ⟨Nat.le_of_ble_eq_true rfl, Nat.le_of_ble_eq_true rfl⟩) rfl rfl (by decide) dX5_bestUse_8 (fun E9 w9 z9 => ⟨z9.1, Or.inr (⟨z9.2.1, Or.inr (Or.inl ⟨by omega, fun q => z9.2.2 q.1, rfl⟩)⟩)⟩) (fun v_8 w_8 hp_8 => ?_)
  obtain ⟨rfl, rfl, hcg_8⟩ := hp_8
  show tm_V x (tm_H x Λ) 1 6 11 [(4, .ref (k_bo κ b)), (0, .ref (k_o κ)), (1, .int (I (b))), (2, .int (I (g))), (3, .int (I (l)))] []
  refine tm_iload_n 4 hC dX5_bestUse_11 rfl rfl ?_
  refine tm_iconst hC dX5_bestUse_12 ?_
  refine tm_sipush hC dX5_bestUse_13 rfl ?_
  refine tm_callS (b := 1) (n := 6) (rest := []) hC (c_T_within (tm_g x) hst _ l 0 3000 (by omega)) k_X5_39 (by rw [hB.2.2.1]; exact ⟨Nat.le_of_ble_eq_true rfl, Nat.le_of_ble_eq_true rfl⟩) rfl rfl (by decide) dX5_bestUse_16 (fun v_16 w_16 hp_16 => ?_)
  obtain ⟨rfl, rfl⟩ := hp_16
  show tm_V x (tm_H x Λ) 1 6 19 [(4, .ref (k_bo κ b)), (0, .ref (k_o κ)), (1, .int (I (b))), (2, .int (I (g))), (3, .int (I (l)))] [.int (I (bi (0 ≤ l ∧ l ≤ 3000)))]
  refine tm_ifb_ne 32 hC dX5_bestUse_19 (by decide) (fun c_19 => ?_) (fun c_19 => ?_)
  · refine tm_iload_n 4 hC dX5_bestUse_32 rfl rfl ?_
    refine tm_aload_n 1 hC dX5_bestUse_33 rfl rfl ?_
    have hx1 := rc_o hM
    refine tm_getf2 hC f_X5_33 hx1 rfl dX5_bestUse_34 ?_
    refine tm_iadd hC dX5_bestUse_37 ?_
    refine tm_aload_n 1 hC dX5_bestUse_38 rfl rfl ?_
    refine tm_getf2 hC f_X5_25 hx1 rfl dX5_bestUse_39 ?_
    refine tm_alen2 (t0 := 0) (ty := .int) hC hAr0 rfl dX5_bestUse_42 ?_
    refine tm_iconst hC dX5_bestUse_43 ?_
    refine tm_isub hC dX5_bestUse_44 ?_
    refine tm_mm hC false x_X5_255 (by omega) (by rw [hB.2.2.1]; exact ⟨Nat.le_of_ble_eq_true rfl, Nat.le_of_ble_eq_true rfl⟩) ((by decide)) dX5_bestUse_45 ?_
    show tm_V x (tm_H x Λ) 1 6 48 [(4, .ref (k_bo κ b)), (0, .ref (k_o κ)), (1, .int (I (b))), (2, .int (I (g))), (3, .int (I (l)))] [.int (I (min (l + (s_sw σ)) (((3011 : Nat) : Int) - 1)))]
    refine tm_istore [(5, .int (I (min (l + (s_sw σ)) (((3011 : Nat) : Int) - 1)))), (4, .ref (k_bo κ b)), (0, .ref (k_o κ)), (1, .int (I (b))), (2, .int (I (g))), (3, .int (I (l)))] hC dX5_bestUse_48 (by rw [hB.2.1]; exact Nat.le_of_ble_eq_true rfl) rfl ?_
    have hmn9 : min (l + (s_sw σ)) (((3011 : Nat) : Int) - 1) = l + s_sw σ := by omega
    rw [hmn9]
    refine tm_aload_n 2 hC dX5_bestUse_50 rfl rfl ?_
    refine tm_callV (b := 1) (n := 6) (rest := []) hC (c_T_clear (tm_g x) hst Λ κ σ hM hw) k_X5_260 (by rw [hB.2.2.1]; exact ⟨Nat.le_of_ble_eq_true rfl, Nat.le_of_ble_eq_true rfl⟩) rfl (tm_rec2 hC (rc_o hM) rfl) rfl (by decide) dX5_bestUse_51 (fun v_51 w_51 hp_51 => ?_)
    obtain ⟨fc, hMc, hfc, rfl⟩ := hp_51
    have hArc : w_51 (k_ar κ) = some (.inl (tm_ai (tm_T x) 3011 fc)) := rc_ar hMc
    show tm_V x (tm_H x w_51) 1 6 54 [(5, .int (I ((l + s_sw σ)))), (4, .ref (k_bo κ b)), (0, .ref (k_o κ)), (1, .int (I (b))), (2, .int (I (g))), (3, .int (I (l)))] []
    refine tm_iconst hC dX5_bestUse_54 ?_
    refine tm_istore [(6, .int (I (0))), (5, .int (I ((l + s_sw σ)))), (4, .ref (k_bo κ b)), (0, .ref (k_o κ)), (1, .int (I (b))), (2, .int (I (g))), (3, .int (I (l)))] hC dX5_bestUse_55 (by rw [hB.2.1]; exact Nat.le_of_ble_eq_true rfl) rfl ?_
    have hL_57 : ∀ (fu : Nat) (W : tmL) (f1 : Int → Int) (pn : Nat), (RC (tm_T x) W (kSm κ f1) σ ∧ (pn : Int) ≤ s_np σ ∧ ∀ j, 0 ≤ j ∧ j ≤ l + s_sw σ → f1 j = knN σ b g (l + s_sw σ) pn j) → ((s_np σ - pn).toNat) < fu → tm_V x (tm_H x W) 1 6 57 [(0, .ref (k_o κ)), (1, .int (I (b))), (2, .int (I (g))), (3, .int (I (l))), (4, .ref (k_bo κ b)), (5, .int (I ((l + s_sw σ)))), (6, .int (I ((pn : Int))))] [] := by
      intro fu
      induction fu with
      | zero => intro W f1 pn hinv hm; exact absurd hm (Nat.not_lt_zero _)
      | succ fu ih_57 =>
        intro W f1 pn hinv_57 hm_57
        obtain ⟨hM1, hpn, hf1⟩ := hinv_57
        have hAr_W : W (k_ar κ) = some (.inl (tm_ai (tm_T x) 3011 f1)) := rc_ar hM1
        skip
        refine tm_iload 6 hC dX5_bestUse_57 rfl ?_
        refine tm_aload_n 0 hC dX5_bestUse_59 rfl rfl ?_
        have hx2 := rc_o hM1
        refine tm_getf2 hC f_X5_16 hx2 rfl dX5_bestUse_60 ?_
        refine tm_callV (b := 1) (n := 6) (rest := [.int (I ((pn : Int)))]) hC (c_Lsz (tm_g x) hst _ _ _ (s_np σ) (rc_lp hM1) (len_p hw)) k_X5_54 (by rw [hB.2.2.1]; exact ⟨Nat.le_of_ble_eq_true rfl, Nat.le_of_ble_eq_true rfl⟩) rfl (tm_recL hC (rc_lp hM1)) rfl (by simp [Value.category]) dX5_bestUse_63 (fun v_63 w_63 hp_63 => ?_)
        obtain ⟨rfl, rfl⟩ := hp_63
        show tm_V x (tm_H x W) 1 6 66 [(0, .ref (k_o κ)), (1, .int (I (b))), (2, .int (I (g))), (3, .int (I (l))), (4, .ref (k_bo κ b)), (5, .int (I ((l + s_sw σ)))), (6, .int (I ((pn : Int))))] [.int (I (s_np σ)), .int (I ((pn : Int)))]
        refine tm_icmp_ge 119 hC dX5_bestUse_66 (by decide) (by omega) (fun c_66 => ?_) (fun c_66 => ?_)
        · refine tm_aload_n 0 hC dX5_bestUse_119 rfl rfl ?_
          refine tm_getf2 hC f_X5_25 hx2 rfl dX5_bestUse_120 ?_
          refine tm_iload 5 hC dX5_bestUse_123 rfl ?_
          refine tm_iald2 hC hAr_W (by omega) dX5_bestUse_125 ?_
          exact tm_iretX hC hR dX5_bestUse_126 (⟨f1, _, hM1, rfl, Or.inr (Or.inr ⟨by omega, by omega, rfl, by rw [hf1 _ (by omega), show (s_np σ).toNat = pn by omega]⟩)⟩)
        · have hp9 := wf_p hw pn (by omega)
          refine tm_aload_n 0 hC dX5_bestUse_69 rfl rfl ?_
          refine tm_getf2 hC f_X5_16 hx2 rfl dX5_bestUse_70 ?_
          refine tm_iload 6 hC dX5_bestUse_73 rfl ?_
          refine tm_callV (b := 1) (n := 6) (rest := []) hC (c_Lget (tm_g x) hst _ _ _ (pn : Int) (k_pa κ (pn : Int)) (rc_lp hM1) (by omega) (rc_pat (pn : Int) (by omega))) k_X5_230 (by rw [hB.2.2.1]; exact ⟨Nat.le_of_ble_eq_true rfl, Nat.le_of_ble_eq_true rfl⟩) rfl (tm_recL hC (rc_lp hM1)) rfl (by decide) dX5_bestUse_75 (fun v_75 w_75 hp_75 => ?_)
          obtain ⟨rfl, rfl⟩ := hp_75
          show tm_V x (tm_H x W) 1 6 78 [(0, .ref (k_o κ)), (1, .int (I (b))), (2, .int (I (g))), (3, .int (I (l))), (4, .ref (k_bo κ b)), (5, .int (I ((l + s_sw σ)))), (6, .int (I ((pn : Int))))] [.ref (k_pa κ (pn : Int))]
          have hx3 := rc_P hM1 (pn : Int) (by omega)
          refine tm_cast2 hC hx3 rfl w_X5_99 dX5_bestUse_78 ?_
          refine tm_astore [(7, .ref (k_pa κ (pn : Int))), (0, .ref (k_o κ)), (1, .int (I (b))), (2, .int (I (g))), (3, .int (I (l))), (4, .ref (k_bo κ b)), (5, .int (I ((l + s_sw σ)))), (6, .int (I ((pn : Int))))] hC dX5_bestUse_81 (by rw [hB.2.1]; exact Nat.le_of_ble_eq_true rfl) rfl ?_
          refine tm_aload 0 hC dX5_bestUse_83 rfl ?_
          refine tm_getf2 hC f_X5_263 hx3 rfl dX5_bestUse_85 ?_
          refine tm_aload 5 hC dX5_bestUse_88 rfl ?_
          have hx4 := rc_B hM1 b (by omega)
          refine tm_getf2 hC f_X5_266 hx4 rfl dX5_bestUse_90 ?_
          refine tm_icmp_gt 113 hC dX5_bestUse_93 (by decide) (by omega) (fun c_93 => ?_) (fun c_93 => ?_)
          · refine tm_iinc 7 [(6, .int (I ((pn : Int) + 1))), (7, .ref (k_pa κ (pn : Int))), (0, .ref (k_o κ)), (1, .int (I (b))), (2, .int (I (g))), (3, .int (I (l))), (4, .ref (k_bo κ b)), (5, .int (I ((l + s_sw σ))))] hC dX5_bestUse_113 rfl (by rw [hB.2.1]; exact Nat.le_of_ble_eq_true rfl) rfl ?_
            refine tm_goto 57 hC dX5_bestUse_116 (by decide) ?_
            refine tm_sub (L' := [(0, .ref (k_o κ)), (1, .int (I (b))), (2, .int (I (g))), (3, .int (I (l))), (4, .ref (k_bo κ b)), (5, .int (I ((l + s_sw σ)))), (6, .int (I ((pn : Int) + 1)))]) [2, 3, 4, 5, 6, 7, 0] rfl ?_
            exact ih_57  W f1 (pn + 1) (⟨hM1, by omega, fun j hj => by rw [hf1 j hj, knN_0 (fun z => by omega)]⟩) (by omega)
          · refine tm_aload 0 hC dX5_bestUse_96 rfl ?_
            refine tm_getf2 hC f_X5_267 hx3 rfl dX5_bestUse_98 ?_
            refine tm_iload_n 3 hC dX5_bestUse_101 rfl rfl ?_
            refine tm_icmp_lt 113 hC dX5_bestUse_102 (by decide) (by omega) (fun c_102 => ?_) (fun c_102 => ?_)
            · refine tm_iinc 7 [(6, .int (I ((pn : Int) + 1))), (7, .ref (k_pa κ (pn : Int))), (0, .ref (k_o κ)), (1, .int (I (b))), (2, .int (I (g))), (3, .int (I (l))), (4, .ref (k_bo κ b)), (5, .int (I ((l + s_sw σ))))] hC dX5_bestUse_113 rfl (by rw [hB.2.1]; exact Nat.le_of_ble_eq_true rfl) rfl ?_
              refine tm_goto 57 hC dX5_bestUse_116 (by decide) ?_
              refine tm_sub (L' := [(0, .ref (k_o κ)), (1, .int (I (b))), (2, .int (I (g))), (3, .int (I (l))), (4, .ref (k_bo κ b)), (5, .int (I ((l + s_sw σ)))), (6, .int (I ((pn : Int) + 1)))]) [2, 3, 4, 5, 6, 7, 0] rfl ?_
              exact ih_57  W f1 (pn + 1) (⟨hM1, by omega, fun j hj => by rw [hf1 j hj, knN_0 (fun z => by omega)]⟩) (by omega)
            · refine tm_aload_n 1 hC dX5_bestUse_105 rfl rfl ?_
              refine tm_aload 0 hC dX5_bestUse_106 rfl ?_
              refine tm_iload 6 hC dX5_bestUse_108 rfl ?_
              refine tm_callV (b := 1) (n := 6) (rest := []) hC (c_T_addTo (tm_g x) hst W (kSm κ f1) σ hM1 hw (pn : Int) (by omega) (l + s_sw σ) (knN σ b g (l + s_sw σ) pn) (knN_b hw pn hpn) (by omega) hf1) k_X5_270 (by rw [hB.2.2.1]; exact ⟨Nat.le_of_ble_eq_true rfl, Nat.le_of_ble_eq_true rfl⟩) rfl (tm_rec2 hC (rc_o hM1) rfl) rfl (by decide) dX5_bestUse_110 (fun v_110 w_110 hp_110 => ?_)
              obtain ⟨fd, hMd, hfd, rfl⟩ := hp_110
              have hArd : w_110 (k_ar κ) = some (.inl (tm_ai (tm_T x) 3011 fd)) := rc_ar hMd
              show tm_V x (tm_H x w_110) 1 6 113 [(7, .ref (k_pa κ (pn : Int))), (0, .ref (k_o κ)), (1, .int (I (b))), (2, .int (I (g))), (3, .int (I (l))), (4, .ref (k_bo κ b)), (5, .int (I ((l + s_sw σ)))), (6, .int (I ((pn : Int))))] []
              refine tm_iinc 7 [(6, .int (I ((pn : Int) + 1))), (7, .ref (k_pa κ (pn : Int))), (0, .ref (k_o κ)), (1, .int (I (b))), (2, .int (I (g))), (3, .int (I (l))), (4, .ref (k_bo κ b)), (5, .int (I ((l + s_sw σ))))] hC dX5_bestUse_113 rfl (by rw [hB.2.1]; exact Nat.le_of_ble_eq_true rfl) rfl ?_
              refine tm_goto 57 hC dX5_bestUse_116 (by decide) ?_
              refine tm_sub (L' := [(0, .ref (k_o κ)), (1, .int (I (b))), (2, .int (I (g))), (3, .int (I (l))), (4, .ref (k_bo κ b)), (5, .int (I ((l + s_sw σ)))), (6, .int (I ((pn : Int) + 1)))]) [2, 3, 4, 5, 6, 7, 0] rfl ?_
              exact ih_57  w_110 fd (pn + 1) (⟨hMd, by omega, fun j hj => by rw [hfd j hj, knN_1 ⟨by omega, by omega⟩]⟩) (by omega)
    refine tm_sub (L' := [(0, .ref (k_o κ)), (1, .int (I (b))), (2, .int (I (g))), (3, .int (I (l))), (4, .ref (k_bo κ b)), (5, .int (I ((l + s_sw σ)))), (6, .int (I (0)))]) [3, 4, 5, 6, 2, 1, 0] rfl ?_
    exact hL_57 _ w_51 fc 0 (⟨hMc, by omega, fun j hj => by rw [hfc j (by omega)]; rfl⟩) (Nat.lt_succ_self _)
  · refine tm_less (b' := 1 + 0) (n' := 6 + 0) ⟨by omega, by omega⟩ ?_
    exact tm_throw hC hR hnt tm_kp2 th_iae sr_253 (by rw [hB.2.2.1]; exact ⟨Nat.le_of_ble_eq_true rfl, Nat.le_of_ble_eq_true rfl⟩) (by decide) dX5_bestUse_22 dX5_bestUse_25 dX5_bestUse_26 dX5_bestUse_28 dX5_bestUse_31 (⟨rfl, Or.inr ⟨rfl, Or.inr (Or.inl ⟨by omega, by omega, rfl⟩)⟩⟩)
