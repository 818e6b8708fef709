/-! The law's loop, and its way there. -/
theorem law_loop {x : tmX} {sb l : Nat} {xs : Nat → Int32} (hL : LwC x sb l xs) {o ko : Nat} {ρ : Nat → Nat} (hE : ∀ (G : Heap → Prop) (b n : Nat) (L : List (Nat × Value)), tm_V x G b n 1648 L [.int (I 1)]) : ∀ (fu : Nat) (i : Int) (w : tmL) (σ : ST), 0 ≤ i ∧ i ≤ l → LwS x o ko ρ w σ → (l - i).toNat < fu → tm_V x (tm_H x w) (8 * (l - i).toNat + 4 * (s_tl σ).toNat) (1500 * (l - i).toNat + 808 * (s_tl σ).toNat) 23 [(0, .ref sb), (1, .ref ko), (2, .ref (ρ 0)), (3, .ref o), (4, .int (I i))] [] := by
  obtain ⟨⟨hC, hB⟩, hst, hNc, hX⟩ := id hL
  have hl9 := hX.2.2.2
  intro fu
  induction fu with
  | zero => intro i w σ _ _ hm; exact absurd hm (Nat.not_lt_zero _)
  | succ fu ih =>
    intro i w σ hi hS hm
    have hW := hS.1
    have ht0 := tl_nn hW
    refine tm_iload 4 hC dL_law_23 rfl ?_
    refine tm_aload_n 0 hC dL_law_25 rfl rfl ?_
    refine tm_slen hC hX dL_law_26 ?_
    refine tm_bipush hC dL_law_27 rfl ?_
    refine tm_isub hC dL_law_29 ?_
    refine tm_icmp_gt 1647 hC dL_law_30 (by decide) (by omega) (fun c_30 => ?_) (fun c_30 => ?_)
    · refine tm_iconst hC dL_law_1647 ?_
      exact hE _ _ _ _
    · have cont : ∀ (w' : tmL) (σ' : ST) (B N : Nat), LwS x o ko ρ w' σ' → 8 * (l - (i + 7)).toNat + 4 * (s_tl σ').toNat ≤ B → 1500 * (l - (i + 7)).toNat + 808 * (s_tl σ').toNat ≤ N → tm_V x (tm_H x w') B N 1641 [(0, .ref sb), (1, .ref ko), (2, .ref (ρ 0)), (3, .ref o), (4, .int (I i))] [] := by
        intro w' σ' B N hS' hb hn
        refine tm_less (b' := 8 * (l - (i + 7)).toNat + 4 * (s_tl σ').toNat) (n' := 1500 * (l - (i + 7)).toNat + 808 * (s_tl σ').toNat) ⟨hb, hn⟩ ?_
        refine tm_iinc 4 [(4, .int (I (i + 7))), (0, .ref sb), (1, .ref ko), (2, .ref (ρ 0)), (3, .ref o)] hC dL_law_1641 rfl (by rw [hB.2.1]; exact Nat.le_of_ble_eq_true rfl) rfl ?_
        refine tm_goto 23 hC dL_law_1644 (by decide) ?_
        refine tm_sub (L' := [(0, .ref sb), (1, .ref ko), (2, .ref (ρ 0)), (3, .ref o), (4, .int (I (i + 7)))]) [1, 2, 3, 4, 0] rfl ?_
        exact ih (i + 7) w' σ' (by omega) hS' (by omega)
      have hi7 : 0 ≤ i ∧ i + 7 ≤ l := by omega
      refine tm_aload_n 0 hC dL_law_33 rfl rfl ?_
      refine tm_iload 4 hC dL_law_34 rfl ?_
      refine tm_sld hC hX (by omega) dL_law_36 ?_
      refine tm_bipush hC dL_law_37 rfl ?_
      refine tm_land hC dL_law_39 (fun t ht => ?_)
      have ht9 : t = 0 ∨ t = 1 ∨ t = 2 ∨ t = 3 ∨ t = 4 ∨ t = 5 ∨ t = 6 ∨ t = 7 ∨ t = 8 ∨ t = 9 ∨ t = 10 ∨ t = 11 ∨ t = 12 ∨ t = 13 ∨ t = 14 ∨ t = 15 ∨ t = 16 ∨ t = 17 ∨ t = 18 ∨ t = 19 ∨ t = 20 ∨ t = 21 ∨ 22 ≤ t := by omega
      rcases ht9 with rfl | rfl | rfl | rfl | rfl | rfl | rfl | rfl | rfl | rfl | rfl | rfl | rfl | rfl | rfl | rfl | rfl | rfl | rfl | rfl | rfl | rfl | ht9
      · refine tm_tabIn 144 hC dL_law_40 (by omega) (by omega) rfl (by decide) ?_
        refine tm_less (b' := 4 + (8 * (l - (i + 7)).toNat + 4 * ((s_tl σ).toNat + 9))) (n' := 411 + (1500 * (l - (i + 7)).toNat + 808 * ((s_tl σ).toNat + 9))) ⟨by omega, by omega⟩ ?_
        exact L_addBoard hL hi7 hS (fun w' σ' hS' ht' => cont w' σ' _ _ hS' (by omega) (by omega))
      · refine tm_tabIn 224 hC dL_law_40 (by omega) (by omega) rfl (by decide) ?_
        refine tm_less (b' := 3 + (8 * (l - (i + 7)).toNat + 4 * ((s_tl σ).toNat + 9))) (n' := 409 + (1500 * (l - (i + 7)).toNat + 808 * ((s_tl σ).toNat + 9))) ⟨by omega, by omega⟩ ?_
        exact L_addDefect hL hi7 hS (fun w' σ' hS' ht' => cont w' σ' _ _ hS' (by omega) (by omega))
      · refine tm_tabIn 316 hC dL_law_40 (by omega) (by omega) rfl (by decide) ?_
        refine tm_less (b' := 3 + (8 * (l - (i + 7)).toNat + 4 * ((s_tl σ).toNat + 9))) (n' := 806 + (1500 * (l - (i + 7)).toNat + 808 * ((s_tl σ).toNat + 9))) ⟨by omega, by omega⟩ ?_
        exact L_addPart hL hi7 hS (fun w' σ' hS' ht' => cont w' σ' _ _ hS' (by omega) (by omega))
      · refine tm_tabIn 436 hC dL_law_40 (by omega) (by omega) rfl (by decide) ?_
        refine tm_less (b' := 2 + (8 * (l - (i + 7)).toNat + 4 * ((s_tl σ).toNat + 9))) (n' := 12 + (1500 * (l - (i + 7)).toNat + 808 * ((s_tl σ).toNat + 9))) ⟨by omega, by omega⟩ ?_
        exact L_setSaw hL hi7 hS (fun w' σ' hS' ht' => cont w' σ' _ _ hS' (by omega) (by omega))
      · refine tm_tabIn 492 hC dL_law_40 (by omega) (by omega) rfl (by decide) ?_
        refine tm_less (b' := 1 + (8 * (l - (i + 7)).toNat + 4 * ((s_tl σ).toNat + 9))) (n' := 6 + (1500 * (l - (i + 7)).toNat + 808 * ((s_tl σ).toNat + 9))) ⟨by omega, by omega⟩ ?_
        exact L_setJoint hL hi7 hS (fun w' σ' hS' ht' => cont w' σ' _ _ hS' (by omega) (by omega))
      · refine tm_tabIn 548 hC dL_law_40 (by omega) (by omega) rfl (by decide) ?_
        refine tm_less (b' := 2 + (8 * (l - (i + 7)).toNat + 4 * ((s_tl σ).toNat + 9))) (n' := 12 + (1500 * (l - (i + 7)).toNat + 808 * ((s_tl σ).toNat + 9))) ⟨by omega, by omega⟩ ?_
        exact L_grade hL hi7 hS (fun w' σ' hS' ht' => cont w' σ' _ _ hS' (by omega) (by omega))
      · refine tm_tabIn 616 hC dL_law_40 (by omega) (by omega) rfl (by decide) ?_
        refine tm_less (b' := 2 + (8 * (l - (i + 7)).toNat + 4 * ((s_tl σ).toNat + 9))) (n' := 12 + (1500 * (l - (i + 7)).toNat + 808 * ((s_tl σ).toNat + 9))) ⟨by omega, by omega⟩ ?_
        exact L_stretches hL hi7 hS (fun w' σ' hS' ht' => cont w' σ' _ _ hS' (by omega) (by omega))
      · refine tm_tabIn 684 hC dL_law_40 (by omega) (by omega) rfl (by decide) ?_
        refine tm_less (b' := 3 + (8 * (l - (i + 7)).toNat + 4 * ((s_tl σ).toNat + 9))) (n' := 18 + (1500 * (l - (i + 7)).toNat + 808 * ((s_tl σ).toNat + 9))) ⟨by omega, by omega⟩ ?_
        exact L_stretch hL hi7 hS (fun w' σ' hS' ht' => cont w' σ' _ _ hS' (by omega) (by omega))
      · refine tm_tabIn 792 hC dL_law_40 (by omega) (by omega) rfl (by decide) ?_
        refine tm_less (b' := 2 + (8 * (l - (i + 7)).toNat + 4 * ((s_tl σ).toNat + 9))) (n' := 12 + (1500 * (l - (i + 7)).toNat + 808 * ((s_tl σ).toNat + 9))) ⟨by omega, by omega⟩ ?_
        exact L_fits hL hi7 hS (fun w' σ' hS' ht' => cont w' σ' _ _ hS' (by omega) (by omega))
      · refine tm_tabIn 879 hC dL_law_40 (by omega) (by omega) rfl (by decide) ?_
        refine tm_less (b' := 2 + (8 * (l - (i + 7)).toNat + 4 * ((s_tl σ).toNat + 9))) (n' := 12 + (1500 * (l - (i + 7)).toNat + 808 * ((s_tl σ).toNat + 9))) ⟨by omega, by omega⟩ ?_
        exact L_earliest hL hi7 hS (fun w' σ' hS' ht' => cont w' σ' _ _ hS' (by omega) (by omega))
      · refine tm_tabIn 947 hC dL_law_40 (by omega) (by omega) rfl (by decide) ?_
        refine tm_less (b' := 8 + (8 * (l - (i + 7)).toNat + 4 * ((s_tl σ).toNat + 9))) (n' := 832 + (1500 * (l - (i + 7)).toNat + 808 * ((s_tl σ).toNat + 9))) ⟨by omega, by omega⟩ ?_
        exact L_cut hL hi7 hS (fun w' σ' hS' ht' => cont w' σ' _ _ hS' (by omega) (by omega))
      · refine tm_tabIn 1027 hC dL_law_40 (by omega) (by omega) rfl (by decide) ?_
        refine tm_less (b' := 9 + (8 * (l - (i + 7)).toNat + 4 * ((s_tl σ).toNat + 9))) (n' := 1231 + (1500 * (l - (i + 7)).toNat + 808 * ((s_tl σ).toNat + 9))) ⟨by omega, by omega⟩ ?_
        exact L_join hL hi7 hS (fun w' σ' hS' ht' => cont w' σ' _ _ hS' (by omega) (by omega))
      · refine tm_tabIn 1145 hC dL_law_40 (by omega) (by omega) rfl (by decide) ?_
        refine tm_less (b' := 1 + (8 * (l - (i + 7)).toNat + 4 * ((s_tl σ).toNat + 9))) (n' := 6 + (1500 * (l - (i + 7)).toNat + 808 * ((s_tl σ).toNat + 9))) ⟨by omega, by omega⟩ ?_
        exact L_undo hL hi7 hS (fun w' σ' hS' ht' => cont w' σ' _ _ hS' (by omega) (by omega))
      · refine tm_tabIn 1189 hC dL_law_40 (by omega) (by omega) rfl (by decide) ?_
        obtain ⟨N, s0, hN⟩ := PlanN_ex 108 hW (tl_le hW)
        have hN9 := PlanN_wf N hW hN
        have ht1 := tl_nn hN9.1
        refine tm_less (b' := 4 * N + (8 * (l - (i + 7)).toNat + 4 * (s_tl s0).toNat)) (n' := 808 * N + (1500 * (l - (i + 7)).toNat + 808 * (s_tl s0).toNat)) ⟨by omega, by omega⟩ ?_
        exact L_plan hL hi7 hS N s0 hN (fun w' hS' => cont w' s0 _ _ hS' (Nat.le_refl _) (Nat.le_refl _))
      · refine tm_tabIn 1202 hC dL_law_40 (by omega) (by omega) rfl (by decide) ?_
        refine tm_less (b' := 1 + (8 * (l - (i + 7)).toNat + 4 * ((s_tl σ).toNat + 9))) (n' := 6 + (1500 * (l - (i + 7)).toNat + 808 * ((s_tl σ).toNat + 9))) ⟨by omega, by omega⟩ ?_
        exact L_left hL hi7 hS (fun w' σ' hS' ht' => cont w' σ' _ _ hS' (by omega) (by omega))
      · refine tm_tabIn 1258 hC dL_law_40 (by omega) (by omega) rfl (by decide) ?_
        refine tm_less (b' := 1 + (8 * (l - (i + 7)).toNat + 4 * ((s_tl σ).toNat + 9))) (n' := 6 + (1500 * (l - (i + 7)).toNat + 808 * ((s_tl σ).toNat + 9))) ⟨by omega, by omega⟩ ?_
        exact L_pieces hL hi7 hS (fun w' σ' hS' ht' => cont w' σ' _ _ hS' (by omega) (by omega))
      · refine tm_tabIn 1314 hC dL_law_40 (by omega) (by omega) rfl (by decide) ?_
        refine tm_less (b' := 3 + (8 * (l - (i + 7)).toNat + 4 * ((s_tl σ).toNat + 9))) (n' := 18 + (1500 * (l - (i + 7)).toNat + 808 * ((s_tl σ).toNat + 9))) ⟨by omega, by omega⟩ ?_
        exact L_piece hL hi7 hS (fun w' σ' hS' ht' => cont w' σ' _ _ hS' (by omega) (by omega))
      · refine tm_tabIn 1394 hC dL_law_40 (by omega) (by omega) rfl (by decide) ?_
        refine tm_less (b' := 1 + (8 * (l - (i + 7)).toNat + 4 * ((s_tl σ).toNat + 9))) (n' := 6 + (1500 * (l - (i + 7)).toNat + 808 * ((s_tl σ).toNat + 9))) ⟨by omega, by omega⟩ ?_
        exact L_cuts hL hi7 hS (fun w' σ' hS' ht' => cont w' σ' _ _ hS' (by omega) (by omega))
      · refine tm_tabIn 1450 hC dL_law_40 (by omega) (by omega) rfl (by decide) ?_
        refine tm_less (b' := 1 + (8 * (l - (i + 7)).toNat + 4 * ((s_tl σ).toNat + 9))) (n' := 6 + (1500 * (l - (i + 7)).toNat + 808 * ((s_tl σ).toNat + 9))) ⟨by omega, by omega⟩ ?_
        exact L_longestRoom hL hi7 hS (fun w' σ' hS' ht' => cont w' σ' _ _ hS' (by omega) (by omega))
      · refine tm_tabIn 1506 hC dL_law_40 (by omega) (by omega) rfl (by decide) ?_
        refine tm_less (b' := 4 + (8 * (l - (i + 7)).toNat + 4 * ((s_tl σ).toNat + 9))) (n' := 3029 + (1500 * (l - (i + 7)).toNat + 808 * ((s_tl σ).toNat + 9))) ⟨by omega, by omega⟩ ?_
        exact L_bestUse hL hi7 hS (fun w' σ' hS' ht' => cont w' σ' _ _ hS' (by omega) (by omega))
      · refine tm_tabIn 1586 hC dL_law_40 (by omega) (by omega) rfl (by decide) ?_
        refine tm_less (b' := 0 + (8 * (l - (i + 7)).toNat + 4 * ((s_tl σ).toNat + 9))) (n' := 0 + (1500 * (l - (i + 7)).toNat + 808 * ((s_tl σ).toNat + 9))) ⟨by omega, by omega⟩ ?_
        exact L_used hL hi7 hS (fun w' hS' => cont w' σ _ _ hS' (by omega) (by omega))
      · refine tm_tabIn 1627 hC dL_law_40 (by omega) (by omega) rfl (by decide) ?_
        refine tm_less (b' := 0 + (8 * (l - (i + 7)).toNat + 4 * ((s_tl σ).toNat + 9))) (n' := 0 + (1500 * (l - (i + 7)).toNat + 808 * ((s_tl σ).toNat + 9))) ⟨by omega, by omega⟩ ?_
        exact L_digest hL hi7 hS (fun w' hS' => cont w' σ _ _ hS' (by omega) (by omega))
      · refine tm_tabOut 1641 hC dL_law_40 (by omega) (by omega) (by decide) ?_
        exact cont w σ _ _ hS (by omega) (by omega)
def eW : tmL := fun _ => none
theorem un_e {Λ : tmL} : un Λ eW = Λ := by
  funext a
  cases h : Λ a with
  | some e => rw [un_1 h]
  | none => rw [un_n h]; rfl
theorem un_e1 {Λ : tmL} : un eW Λ = Λ := by
  funext a
  exact un_n rfl
theorem okL_e : okL eW := fun a ys h => by cases h
theorem okL_1 {q : Nat} {e : va_E} : okL (tm_u2 eW q e) := by
  intro a ys ha
  by_cases h : a = q
  · subst h; rw [tm_u2_s] at ha; cases ha
  · rw [tm_u2_n h] at ha; cases ha
theorem dj_e {Λ : tmL} : dj Λ eW := fun _ => Or.inr rfl
theorem dj_1 {Λ : tmL} {q : Nat} {e : va_E} (h : Λ q = none) : dj (tm_u2 eW q e) Λ := by
  intro a
  by_cases e : a = q
  · subst e; exact Or.inr h
  · exact Or.inl (tm_u2_n e)
set_option maxHeartbeats 4000000 in
set_option maxRecDepth 100000 in
theorem law_all {x : tmX} {sb l : Nat} {xs : Nat → Int32} (hL : LwC x sb l xs) (hE : ∀ (G : Heap → Prop) (b n : Nat) (L : List (Nat × Value)), tm_V x G b n 1648 L [.int (I 1)]) : tm_V x (tm_H x eW) 30000 5400000 0 [(0, .ref sb)] [] := by
  obtain ⟨⟨hC, hB⟩, hst, hNc, hX⟩ := id hL
  have hl9 := hX.2.2.2
  refine tm_less (b' := 1 + 29000) (n' := 8 + 5399000) ⟨by omega, by omega⟩ ?_
  refine tm_new2 hC n_L_8 dL_law_0 (fun q1 hq1 => ?_)
  refine tm_dup hC dL_law_3 rfl ?_
  obtain ⟨Λa, hΛa⟩ : ∃ z, z = tm_u2 eW q1 (.inr (6, [.null, .null, .null, .null, .null, .int (I 0), .int (I 0), .int (I 0)])) := ⟨_, rfl⟩
  show tm_V x (tm_H x (tm_u2 eW q1 (.inr (6, [.null, .null, .null, .null, .null, .int (I 0), .int (I 0), .int (I 0)])))) 29000 5399000 4 [(0, .ref sb)] [.ref q1, .ref q1]
  rw [← hΛa, ← un_e (Λ := Λa)]
  have ha1 : Λa q1 = some (.inl (.inr (6, [.null, .null, .null, .null, .null, .int (I 0), .int (I 0), .int (I 0)]))) := by rw [hΛa]; exact tm_u2_s
  have hoa : okL Λa := by rw [hΛa]; exact okL_1
  refine tm_less (b' := 5 + 28990) (n' := 3023 + 5390000) ⟨by omega, by omega⟩ ?_
  refine tm_callI (b := 28990) (n := 5390000) (rest := [.ref q1]) hC (fr_con dj_e hoa okL_e (c_X5_init (tm_g x) hst Λa q1 ha1)) k_L_81 (by rw [hB.2.2.1]; exact ⟨Nat.le_of_ble_eq_true rfl, Nat.le_of_ble_eq_true rfl⟩) rfl rfl (by simp [Value.category]) dL_law_4 (fun v1 w1 z1 => ?_)
  obtain ⟨Λ1, ⟨κ, hM1, hG1, hk1, rfl⟩, hd1, ok1, hw1⟩ := z1
  rw [un_e] at hw1
  subst hw1
  show tm_V x (tm_H x Λ1) 28990 5390000 7 [(0, .ref sb)] [.ref q1]
  refine tm_astore_n [(1, .ref q1), (0, .ref sb)] hC dL_law_7 rfl (by rw [hB.2.1]; exact Nat.le_of_ble_eq_true rfl) rfl ?_
  refine tm_less (b' := 1 + 28980) (n' := 15 + 5389000) ⟨by omega, by omega⟩ ?_
  refine tm_new2 hC n_L_82 dL_law_8 (fun q2 hq2 => ?_)
  refine tm_dup hC dL_law_11 rfl ?_
  obtain ⟨Λb, hΛb⟩ : ∃ z, z = tm_u2 eW q2 (.inr (7, [.int (I 0), .int (I 0), .null, .int (I 0), .null, .int (I 0), .null, .null, .int (I 0), .int (I 0), .int (I 0), .null, .null, .int (I 0), .int (I 0)])) := ⟨_, rfl⟩
  have hb1 : Λb q2 = some (.inl (.inr (7, [.int (I 0), .int (I 0), .null, .int (I 0), .null, .int (I 0), .null, .null, .int (I 0), .int (I 0), .int (I 0), .null, .null, .int (I 0), .int (I 0)]))) := by rw [hΛb]; exact tm_u2_s
  have hob : okL Λb := by rw [hΛb]; exact okL_1
  have hdb : dj Λb Λ1 := by rw [hΛb]; exact dj_1 hq2
  have hE2 : tm_u2 Λ1 q2 (.inr (7, [.int (I 0), .int (I 0), .null, .int (I 0), .null, .int (I 0), .null, .null, .int (I 0), .int (I 0), .int (I 0), .null, .null, .int (I 0), .int (I 0)])) = un Λb Λ1 := by
    rw [un_comm hdb, hΛb, ← un_u2 hq2, un_e]
  show tm_V x (tm_H x (tm_u2 Λ1 q2 (.inr (7, [.int (I 0), .int (I 0), .null, .int (I 0), .null, .int (I 0), .null, .null, .int (I 0), .int (I 0), .int (I 0), .null, .null, .int (I 0), .int (I 0)])))) 28980 5389000 12 [(1, .ref q1), (0, .ref sb)] [.ref q2, .ref q2]
  rw [hE2]
  refine tm_less (b' := 6 + 28970) (n' := 1266 + 5386000) ⟨by omega, by omega⟩ ?_
  refine tm_callI (b := 28970) (n := 5386000) (rest := [.ref q2]) hC (fr_con hdb hob ok1 (c_M_init (tm_g x) hst Λb q2 hb1)) k_L_84 (by rw [hB.2.2.1]; exact ⟨Nat.le_of_ble_eq_true rfl, Nat.le_of_ble_eq_true rfl⟩) rfl rfl (by simp [Value.category]) dL_law_12 (fun v2 w2 z2 => ?_)
  obtain ⟨Λ2, ⟨ρ, hρ, hM2, rfl⟩, hd2, ok2, hw2⟩ := z2
  show tm_V x (tm_H x w2) 28970 5386000 15 [(1, .ref q1), (0, .ref sb)] [.ref q2]
  refine tm_astore_n [(2, .ref q2), (1, .ref q1), (0, .ref sb)] hC dL_law_15 rfl (by rw [hB.2.1]; exact Nat.le_of_ble_eq_true rfl) rfl ?_
  refine tm_iconst hC dL_law_16 ?_
  refine tm_less (b' := 1 + 28960) (n' := (1 : Int).toNat + 5385000) ⟨by omega, by omega⟩ ?_
  refine tm_newl2 hC (by omega) w_arr_long dL_law_17 (fun q3 hq3 => ?_)
  rw [← hw2] at hq3
  have h31 : Λ2 q3 = none := by
    cases h : Λ2 q3 with
    | none => rfl
    | some e => rw [un_1 h] at hq3; cases hq3
  have h32 : Λ1 q3 = none := by rw [un_n h31] at hq3; exact hq3
  have hLW : LW (tm_T x) q3 (tm_u2 w2 q3 (tm_al (tm_T x) (1 : Int).toNat (fun _ => 0))) Λ1 Λ2 (fun _ => 0) := by
    refine ⟨dj_s hd2, h32, h31, ok1, ok2, ?_⟩
    rw [← hw2, un_comm hd2]
    show tm_u2 (un Λ1 Λ2) q3 (tm_al (tm_T x) 1 (fun _ => 0)) = un Λ1 (un Λ2 (tm_u2 eW q3 (tm_al (tm_T x) 1 (fun _ => 0))))
    rw [← un_u2 h31, un_e, ← un_u2 h32]
  refine tm_astore_n [(3, .ref q3), (2, .ref q2), (1, .ref q1), (0, .ref sb)] hC dL_law_19 rfl (by rw [hB.2.1]; exact Nat.le_of_ble_eq_true rfl) rfl ?_
  refine tm_iconst hC dL_law_20 ?_
  refine tm_istore [(4, .int (I 0)), (3, .ref q3), (2, .ref q2), (1, .ref q1), (0, .ref sb)] hC dL_law_21 (by rw [hB.2.1]; exact Nat.le_of_ble_eq_true rfl) rfl ?_
  refine tm_sub (L' := [(0, .ref sb), (1, .ref q1), (2, .ref q2), (3, .ref q3), (4, .int (I 0))]) [4, 3, 2, 1, 0] rfl ?_
  have ht : s_tl σ0 = 0 := rfl
  have hlp := law_loop hL (o := q3) (ko := q1) (ρ := ρ) hE ((l - 0 : Int).toNat + 1) 0 _ σ0 (by omega) ⟨σ0_wf, Λ1, Λ2, _, κ, 0, 0, 0, hLW, ⟨hM1, hG1, hk1⟩, hM2⟩ (Nat.lt_succ_self _)
  rw [hρ] at hlp
  exact tm_less ⟨by rw [ht]; omega, by rw [ht]; omega⟩ hlp
