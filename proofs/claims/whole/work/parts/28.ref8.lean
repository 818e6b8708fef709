def z0 : Int → Int := fun _ => 0
def σ0 : ST := mkS 0 0 0 3 10 0 z0 z0 z0 z0 z0 z0
theorem σ0_wf0 : WF0 σ0 := by
  refine ⟨?_, fun b hb => ?_, fun b hb => ?_, fun b hb => ?_, fun b hb => ?_, fun i j h0 h1 h2 => ?_⟩
  · show (0 : Int) ≤ 0 ∧ (0 : Int) ≤ 10 ∧ (0 : Int) ≤ 0 ∧ (0 : Int) ≤ 24 ∧ (0 : Int) ≤ 0 ∧ (0 : Int) ≤ 12 ∧ (0 : Int) ≤ 3 ∧ (3 : Int) ≤ 10 ∧ (0 : Int) ≤ 10 ∧ (10 : Int) ≤ 50 ∧ (0 : Int) ≤ 0 ∧ (0 : Int) ≤ 216
    omega
  · have : 0 ≤ b ∧ b < 0 := hb; omega
  · have : 0 ≤ b ∧ b < 0 := hb; omega
  · have : 0 ≤ b ∧ b < 0 := hb; omega
  · have : 0 ≤ b ∧ b < 0 := hb; omega
  · have : j < 0 := h2; omega
theorem σ0_wf : WF σ0 := ⟨σ0_wf0, [], rfl, by show (0 : Int) + ((0 : Nat) : Int) ≤ 9 * 0; omega⟩
theorem rho_ne {l : List Nat} (h : l.Pairwise (fun u v => u ≠ v)) : ∀ i j, i < l.length → j < l.length → i ≠ j → l.getD i 0 ≠ l.getD j 0 := by
  intro i j hi hj hne
  rw [List.getD_eq_getElem?_getD, List.getD_eq_getElem?_getD, List.getElem?_eq_getElem hi, List.getElem?_eq_getElem hj]
  show l[i] ≠ l[j]
  rw [List.pairwise_iff_getElem] at h
  rcases Nat.lt_or_gt_of_ne hne with q | q
  · exact h i j hi hj q
  · exact fun z => h j i hj hi q z.symm

set_option maxHeartbeats 4000000 in
set_option maxRecDepth 100000 in
theorem c_M_init (γ : tmG) (hst : γ.1.stackTraces = false) (Λ : tmL) (a : Nat) (ha : Λ a = some (.inl (.inr (7, [.int (I 0), .int (I 0), .null, .int (I 0), .null, .int (I 0), .null, .null, .int (I 0), .int (I 0), .int (I 0), .null, .null, .int (I 0), .int (I 0)])))) : tm_Con γ (tm_h2 γ.2.1 γ.2.2.1 γ.2.2.2.1) M_X6_init 2 6 1266 [.ref (a)] Λ (fun v w' => ∃ ρ : Nat → Nat, ρ 0 = a ∧ RM γ.2.2.1 w' ρ 0 0 0 σ0 ∧ v = none) := by
  refine tm_con hst (by decide) (Nat.le_of_ble_eq_true rfl) (fun x hB hR => ?_)
  have hg := hB.1
  subst hg
  have hC : tm_C x cX6_init RX6 (none) := hB.2.2.2.1
  show tm_V x (tm_H x Λ) 6 1266 0 [(0, .ref (a))] []
  refine tm_aload_n 0 hC dX6_init_0 rfl rfl ?_
  refine tm_objInit hC x_X6_3 (by rw [hB.2.2.1]; exact ⟨Nat.le_of_ble_eq_true rfl, Nat.le_of_ble_eq_true rfl⟩) ((by decide)) dX6_init_1 ?_
  refine tm_aload_n 0 hC dX6_init_4 rfl rfl ?_
  refine tm_bipush hC dX6_init_5 rfl ?_
  refine tm_less (b' := 1 + 5) (n' := (30 : Int).toNat + 1236) ⟨by omega, by omega⟩ ?_
  refine tm_newi2 hC (by omega) w_arr_int dX6_init_7 (fun q1 hq2 => ?_)
  obtain ⟨w3, hw4⟩ : ∃ z, z = tm_u2 Λ q1 (tm_ai (tm_T x) ((30 : Int).toNat) (fun _ => 0)) := ⟨_, rfl⟩
  show tm_V x (tm_H x (tm_u2 Λ q1 (tm_ai (tm_T x) ((30 : Int).toNat) (fun _ => 0)))) 5 1236 9 [(0, .ref (a))] [.ref (q1), .ref (a)]
  rw [← hw4]
  have hw3_q1 : w3 q1 = some (.inl (tm_ai (tm_T x) ((30 : Int).toNat) (fun _ => 0))) := by rw [hw4]; first | done | exact tm_u2_s
  have ne_q1_a : a ≠ q1 := (fun z => by subst z; rw [ha] at hq2; cases hq2)
  have hw3_a := (show w3 a = _ by rw [hw4]; exact tm_u2_n (fun z => by subst z; rw [ha] at hq2; cases hq2)).trans ha
  refine tm_putfF2 hC hB.2.2.2.2 f_X6_9 hw3_a (tt_7_2 _) (Nat.le_of_ble_eq_true rfl) dX6_init_9 ⟨_, _, _, _, rfl, l_X6_9, rfl⟩ ?_
  obtain ⟨w5, hw6⟩ : ∃ z, z = tm_u2 w3 a (.inr (7, [.int (I (0)), .int (I (0)), .ref (q1), .int (I (0)), .null, .int (I (0)), .null, .null, .int (I (0)), .int (I (0)), .int (I (0)), .null, .null, .int (I (0)), .int (I (0))])) := ⟨_, rfl⟩
  show tm_V x (tm_H x (tm_u2 w3 a (.inr (7, [.int (I (0)), .int (I (0)), .ref (q1), .int (I (0)), .null, .int (I (0)), .null, .null, .int (I (0)), .int (I (0)), .int (I (0)), .null, .null, .int (I (0)), .int (I (0))])))) 5 1236 12 [(0, .ref (a))] []
  rw [← hw6]
  have hw5_a : w5 a = some (.inl (.inr (7, [.int (I (0)), .int (I (0)), .ref (q1), .int (I (0)), .null, .int (I (0)), .null, .null, .int (I (0)), .int (I (0)), .int (I (0)), .null, .null, .int (I (0)), .int (I (0))]))) := by rw [hw6]; first | done | exact tm_u2_s
  have hw5_q1 := (show w5 q1 = _ by rw [hw6]; exact tm_u2_n (fun z => absurd (hw3_a.symm.trans (z ▸ hw3_q1)) (by intro q; cases q))).trans hw3_q1
  refine tm_aload_n 0 hC dX6_init_12 rfl rfl ?_
  refine tm_bipush hC dX6_init_13 rfl ?_
  refine tm_less (b' := 1 + 4) (n' := (96 : Int).toNat + 1140) ⟨by omega, by omega⟩ ?_
  refine tm_newi2 hC (by omega) w_arr_int dX6_init_15 (fun q7 hq8 => ?_)
  obtain ⟨w9, hw10⟩ : ∃ z, z = tm_u2 w5 q7 (tm_ai (tm_T x) ((96 : Int).toNat) (fun _ => 0)) := ⟨_, rfl⟩
  show tm_V x (tm_H x (tm_u2 w5 q7 (tm_ai (tm_T x) ((96 : Int).toNat) (fun _ => 0)))) 4 1140 17 [(0, .ref (a))] [.ref (q7), .ref (a)]
  rw [← hw10]
  have hw9_q7 : w9 q7 = some (.inl (tm_ai (tm_T x) ((96 : Int).toNat) (fun _ => 0))) := by rw [hw10]; first | done | exact tm_u2_s
  have ne_q7_a : a ≠ q7 := (fun z => by subst z; rw [hw5_a] at hq8; cases hq8)
  have hw9_a := (show w9 a = _ by rw [hw10]; exact tm_u2_n (fun z => by subst z; rw [hw5_a] at hq8; cases hq8)).trans hw5_a
  have ne_q7_q1 : q1 ≠ q7 := (fun z => by subst z; rw [hw5_q1] at hq8; cases hq8)
  have hw9_q1 := (show w9 q1 = _ by rw [hw10]; exact tm_u2_n (fun z => by subst z; rw [hw5_q1] at hq8; cases hq8)).trans hw5_q1
  refine tm_putfF2 hC hB.2.2.2.2 f_X6_13 hw9_a (tt_7_4 _) (Nat.le_of_ble_eq_true rfl) dX6_init_17 ⟨_, _, _, _, rfl, l_X6_13, rfl⟩ ?_
  obtain ⟨w11, hw12⟩ : ∃ z, z = tm_u2 w9 a (.inr (7, [.int (I (0)), .int (I (0)), .ref (q1), .int (I (0)), .ref (q7), .int (I (0)), .null, .null, .int (I (0)), .int (I (0)), .int (I (0)), .null, .null, .int (I (0)), .int (I (0))])) := ⟨_, rfl⟩
  show tm_V x (tm_H x (tm_u2 w9 a (.inr (7, [.int (I (0)), .int (I (0)), .ref (q1), .int (I (0)), .ref (q7), .int (I (0)), .null, .null, .int (I (0)), .int (I (0)), .int (I (0)), .null, .null, .int (I (0)), .int (I (0))])))) 4 1140 20 [(0, .ref (a))] []
  rw [← hw12]
  have hw11_a : w11 a = some (.inl (.inr (7, [.int (I (0)), .int (I (0)), .ref (q1), .int (I (0)), .ref (q7), .int (I (0)), .null, .null, .int (I (0)), .int (I (0)), .int (I (0)), .null, .null, .int (I (0)), .int (I (0))]))) := by rw [hw12]; first | done | exact tm_u2_s
  have hw11_q1 := (show w11 q1 = _ by rw [hw12]; exact tm_u2_n (fun z => absurd (hw9_a.symm.trans (z ▸ hw9_q1)) (by intro q; cases q))).trans hw9_q1
  have hw11_q7 := (show w11 q7 = _ by rw [hw12]; exact tm_u2_n (fun z => absurd (hw9_a.symm.trans (z ▸ hw9_q7)) (by intro q; cases q))).trans hw9_q7
  refine tm_aload_n 0 hC dX6_init_20 rfl rfl ?_
  refine tm_bipush hC dX6_init_21 rfl ?_
  refine tm_less (b' := 1 + 3) (n' := (48 : Int).toNat + 1092) ⟨by omega, by omega⟩ ?_
  refine tm_newi2 hC (by omega) w_arr_int dX6_init_23 (fun q13 hq14 => ?_)
  obtain ⟨w15, hw16⟩ : ∃ z, z = tm_u2 w11 q13 (tm_ai (tm_T x) ((48 : Int).toNat) (fun _ => 0)) := ⟨_, rfl⟩
  show tm_V x (tm_H x (tm_u2 w11 q13 (tm_ai (tm_T x) ((48 : Int).toNat) (fun _ => 0)))) 3 1092 25 [(0, .ref (a))] [.ref (q13), .ref (a)]
  rw [← hw16]
  have hw15_q13 : w15 q13 = some (.inl (tm_ai (tm_T x) ((48 : Int).toNat) (fun _ => 0))) := by rw [hw16]; first | done | exact tm_u2_s
  have ne_q13_a : a ≠ q13 := (fun z => by subst z; rw [hw11_a] at hq14; cases hq14)
  have hw15_a := (show w15 a = _ by rw [hw16]; exact tm_u2_n (fun z => by subst z; rw [hw11_a] at hq14; cases hq14)).trans hw11_a
  have ne_q13_q1 : q1 ≠ q13 := (fun z => by subst z; rw [hw11_q1] at hq14; cases hq14)
  have hw15_q1 := (show w15 q1 = _ by rw [hw16]; exact tm_u2_n (fun z => by subst z; rw [hw11_q1] at hq14; cases hq14)).trans hw11_q1
  have ne_q13_q7 : q7 ≠ q13 := (fun z => by subst z; rw [hw11_q7] at hq14; cases hq14)
  have hw15_q7 := (show w15 q7 = _ by rw [hw16]; exact tm_u2_n (fun z => by subst z; rw [hw11_q7] at hq14; cases hq14)).trans hw11_q7
  refine tm_putfF2 hC hB.2.2.2.2 f_X6_16 hw15_a (tt_7_6 _) (Nat.le_of_ble_eq_true rfl) dX6_init_25 ⟨_, _, _, _, rfl, l_X6_16, rfl⟩ ?_
  obtain ⟨w17, hw18⟩ : ∃ z, z = tm_u2 w15 a (.inr (7, [.int (I (0)), .int (I (0)), .ref (q1), .int (I (0)), .ref (q7), .int (I (0)), .ref (q13), .null, .int (I (0)), .int (I (0)), .int (I (0)), .null, .null, .int (I (0)), .int (I (0))])) := ⟨_, rfl⟩
  show tm_V x (tm_H x (tm_u2 w15 a (.inr (7, [.int (I (0)), .int (I (0)), .ref (q1), .int (I (0)), .ref (q7), .int (I (0)), .ref (q13), .null, .int (I (0)), .int (I (0)), .int (I (0)), .null, .null, .int (I (0)), .int (I (0))])))) 3 1092 28 [(0, .ref (a))] []
  rw [← hw18]
  have hw17_a : w17 a = some (.inl (.inr (7, [.int (I (0)), .int (I (0)), .ref (q1), .int (I (0)), .ref (q7), .int (I (0)), .ref (q13), .null, .int (I (0)), .int (I (0)), .int (I (0)), .null, .null, .int (I (0)), .int (I (0))]))) := by rw [hw18]; first | done | exact tm_u2_s
  have hw17_q1 := (show w17 q1 = _ by rw [hw18]; exact tm_u2_n (fun z => absurd (hw15_a.symm.trans (z ▸ hw15_q1)) (by intro q; cases q))).trans hw15_q1
  have hw17_q7 := (show w17 q7 = _ by rw [hw18]; exact tm_u2_n (fun z => absurd (hw15_a.symm.trans (z ▸ hw15_q7)) (by intro q; cases q))).trans hw15_q7
  have hw17_q13 := (show w17 q13 = _ by rw [hw18]; exact tm_u2_n (fun z => absurd (hw15_a.symm.trans (z ▸ hw15_q13)) (by intro q; cases q))).trans hw15_q13
  refine tm_aload_n 0 hC dX6_init_28 rfl rfl ?_
  refine tm_bipush hC dX6_init_29 rfl ?_
  refine tm_less (b' := 1 + 2) (n' := (12 : Int).toNat + 1080) ⟨by omega, by omega⟩ ?_
  refine tm_newz2 hC (by omega) w_arr_boolean dX6_init_31 (fun q19 hq20 => ?_)
  obtain ⟨w21, hw22⟩ : ∃ z, z = tm_u2 w17 q19 (tm_az (tm_T x) ((12 : Int).toNat) (fun _ => 0)) := ⟨_, rfl⟩
  show tm_V x (tm_H x (tm_u2 w17 q19 (tm_az (tm_T x) ((12 : Int).toNat) (fun _ => 0)))) 2 1080 33 [(0, .ref (a))] [.ref (q19), .ref (a)]
  rw [← hw22]
  have hw21_q19 : w21 q19 = some (.inl (tm_az (tm_T x) ((12 : Int).toNat) (fun _ => 0))) := by rw [hw22]; first | done | exact tm_u2_s
  have ne_q19_a : a ≠ q19 := (fun z => by subst z; rw [hw17_a] at hq20; cases hq20)
  have hw21_a := (show w21 a = _ by rw [hw22]; exact tm_u2_n (fun z => by subst z; rw [hw17_a] at hq20; cases hq20)).trans hw17_a
  have ne_q19_q1 : q1 ≠ q19 := (fun z => by subst z; rw [hw17_q1] at hq20; cases hq20)
  have hw21_q1 := (show w21 q1 = _ by rw [hw22]; exact tm_u2_n (fun z => by subst z; rw [hw17_q1] at hq20; cases hq20)).trans hw17_q1
  have ne_q19_q7 : q7 ≠ q19 := (fun z => by subst z; rw [hw17_q7] at hq20; cases hq20)
  have hw21_q7 := (show w21 q7 = _ by rw [hw22]; exact tm_u2_n (fun z => by subst z; rw [hw17_q7] at hq20; cases hq20)).trans hw17_q7
  have ne_q19_q13 : q13 ≠ q19 := (fun z => by subst z; rw [hw17_q13] at hq20; cases hq20)
  have hw21_q13 := (show w21 q13 = _ by rw [hw22]; exact tm_u2_n (fun z => by subst z; rw [hw17_q13] at hq20; cases hq20)).trans hw17_q13
  refine tm_putfF2 hC hB.2.2.2.2 f_X6_19 hw21_a (tt_7_7 _) (Nat.le_of_ble_eq_true rfl) dX6_init_33 ⟨_, _, _, _, rfl, l_X6_19, rfl⟩ ?_
  obtain ⟨w23, hw24⟩ : ∃ z, z = tm_u2 w21 a (.inr (7, [.int (I (0)), .int (I (0)), .ref (q1), .int (I (0)), .ref (q7), .int (I (0)), .ref (q13), .ref (q19), .int (I (0)), .int (I (0)), .int (I (0)), .null, .null, .int (I (0)), .int (I (0))])) := ⟨_, rfl⟩
  show tm_V x (tm_H x (tm_u2 w21 a (.inr (7, [.int (I (0)), .int (I (0)), .ref (q1), .int (I (0)), .ref (q7), .int (I (0)), .ref (q13), .ref (q19), .int (I (0)), .int (I (0)), .int (I (0)), .null, .null, .int (I (0)), .int (I (0))])))) 2 1080 36 [(0, .ref (a))] []
  rw [← hw24]
  have hw23_a : w23 a = some (.inl (.inr (7, [.int (I (0)), .int (I (0)), .ref (q1), .int (I (0)), .ref (q7), .int (I (0)), .ref (q13), .ref (q19), .int (I (0)), .int (I (0)), .int (I (0)), .null, .null, .int (I (0)), .int (I (0))]))) := by rw [hw24]; first | done | exact tm_u2_s
  have hw23_q1 := (show w23 q1 = _ by rw [hw24]; exact tm_u2_n (fun z => absurd (hw21_a.symm.trans (z ▸ hw21_q1)) (by intro q; cases q))).trans hw21_q1
  have hw23_q7 := (show w23 q7 = _ by rw [hw24]; exact tm_u2_n (fun z => absurd (hw21_a.symm.trans (z ▸ hw21_q7)) (by intro q; cases q))).trans hw21_q7
  have hw23_q13 := (show w23 q13 = _ by rw [hw24]; exact tm_u2_n (fun z => absurd (hw21_a.symm.trans (z ▸ hw21_q13)) (by intro q; cases q))).trans hw21_q13
  have hw23_q19 := (show w23 q19 = _ by rw [hw24]; exact tm_u2_n (fun z => absurd (hw21_a.symm.trans (z ▸ hw21_q19)) (by intro q; cases q))).trans hw21_q19
  refine tm_aload_n 0 hC dX6_init_36 rfl rfl ?_
  refine tm_iconst hC dX6_init_37 ?_
  refine tm_putf2 hC f_X6_23 hw23_a (tt_7_8 _) (Nat.le_of_ble_eq_true rfl) dX6_init_38 ?_
  obtain ⟨w25, hw26⟩ : ∃ z, z = tm_u2 w23 a (.inr (7, [.int (I (0)), .int (I (0)), .ref (q1), .int (I (0)), .ref (q7), .int (I (0)), .ref (q13), .ref (q19), .int (I (3)), .int (I (0)), .int (I (0)), .null, .null, .int (I (0)), .int (I (0))])) := ⟨_, rfl⟩
  show tm_V x (tm_H x (tm_u2 w23 a (.inr (7, [.int (I (0)), .int (I (0)), .ref (q1), .int (I (0)), .ref (q7), .int (I (0)), .ref (q13), .ref (q19), .int (I (3)), .int (I (0)), .int (I (0)), .null, .null, .int (I (0)), .int (I (0))])))) 2 1080 41 [(0, .ref (a))] []
  rw [← hw26]
  have hw25_a : w25 a = some (.inl (.inr (7, [.int (I (0)), .int (I (0)), .ref (q1), .int (I (0)), .ref (q7), .int (I (0)), .ref (q13), .ref (q19), .int (I (3)), .int (I (0)), .int (I (0)), .null, .null, .int (I (0)), .int (I (0))]))) := by rw [hw26]; first | done | exact tm_u2_s
  have hw25_q1 := (show w25 q1 = _ by rw [hw26]; exact tm_u2_n (fun z => absurd (hw23_a.symm.trans (z ▸ hw23_q1)) (by intro q; cases q))).trans hw23_q1
  have hw25_q7 := (show w25 q7 = _ by rw [hw26]; exact tm_u2_n (fun z => absurd (hw23_a.symm.trans (z ▸ hw23_q7)) (by intro q; cases q))).trans hw23_q7
  have hw25_q13 := (show w25 q13 = _ by rw [hw26]; exact tm_u2_n (fun z => absurd (hw23_a.symm.trans (z ▸ hw23_q13)) (by intro q; cases q))).trans hw23_q13
  have hw25_q19 := (show w25 q19 = _ by rw [hw26]; exact tm_u2_n (fun z => absurd (hw23_a.symm.trans (z ▸ hw23_q19)) (by intro q; cases q))).trans hw23_q19
  refine tm_aload_n 0 hC dX6_init_41 rfl rfl ?_
  refine tm_bipush hC dX6_init_42 rfl ?_
  refine tm_putf2 hC f_X6_27 hw25_a (tt_7_9 _) (Nat.le_of_ble_eq_true rfl) dX6_init_44 ?_
  obtain ⟨w27, hw28⟩ : ∃ z, z = tm_u2 w25 a (.inr (7, [.int (I (0)), .int (I (0)), .ref (q1), .int (I (0)), .ref (q7), .int (I (0)), .ref (q13), .ref (q19), .int (I (3)), .int (I (10)), .int (I (0)), .null, .null, .int (I (0)), .int (I (0))])) := ⟨_, rfl⟩
  show tm_V x (tm_H x (tm_u2 w25 a (.inr (7, [.int (I (0)), .int (I (0)), .ref (q1), .int (I (0)), .ref (q7), .int (I (0)), .ref (q13), .ref (q19), .int (I (3)), .int (I (10)), .int (I (0)), .null, .null, .int (I (0)), .int (I (0))])))) 2 1080 47 [(0, .ref (a))] []
  rw [← hw28]
  have hw27_a : w27 a = some (.inl (.inr (7, [.int (I (0)), .int (I (0)), .ref (q1), .int (I (0)), .ref (q7), .int (I (0)), .ref (q13), .ref (q19), .int (I (3)), .int (I (10)), .int (I (0)), .null, .null, .int (I (0)), .int (I (0))]))) := by rw [hw28]; first | done | exact tm_u2_s
  have hw27_q1 := (show w27 q1 = _ by rw [hw28]; exact tm_u2_n (fun z => absurd (hw25_a.symm.trans (z ▸ hw25_q1)) (by intro q; cases q))).trans hw25_q1
  have hw27_q7 := (show w27 q7 = _ by rw [hw28]; exact tm_u2_n (fun z => absurd (hw25_a.symm.trans (z ▸ hw25_q7)) (by intro q; cases q))).trans hw25_q7
  have hw27_q13 := (show w27 q13 = _ by rw [hw28]; exact tm_u2_n (fun z => absurd (hw25_a.symm.trans (z ▸ hw25_q13)) (by intro q; cases q))).trans hw25_q13
  have hw27_q19 := (show w27 q19 = _ by rw [hw28]; exact tm_u2_n (fun z => absurd (hw25_a.symm.trans (z ▸ hw25_q19)) (by intro q; cases q))).trans hw25_q19
  refine tm_aload_n 0 hC dX6_init_47 rfl rfl ?_
  refine tm_sipush hC dX6_init_48 rfl ?_
  refine tm_less (b' := 1 + 1) (n' := (864 : Int).toNat + 216) ⟨by omega, by omega⟩ ?_
  refine tm_newi2 hC (by omega) w_arr_int dX6_init_51 (fun q29 hq30 => ?_)
  obtain ⟨w31, hw32⟩ : ∃ z, z = tm_u2 w27 q29 (tm_ai (tm_T x) ((864 : Int).toNat) (fun _ => 0)) := ⟨_, rfl⟩
  show tm_V x (tm_H x (tm_u2 w27 q29 (tm_ai (tm_T x) ((864 : Int).toNat) (fun _ => 0)))) 1 216 53 [(0, .ref (a))] [.ref (q29), .ref (a)]
  rw [← hw32]
  have hw31_q29 : w31 q29 = some (.inl (tm_ai (tm_T x) ((864 : Int).toNat) (fun _ => 0))) := by rw [hw32]; first | done | exact tm_u2_s
  have ne_q29_a : a ≠ q29 := (fun z => by subst z; rw [hw27_a] at hq30; cases hq30)
  have hw31_a := (show w31 a = _ by rw [hw32]; exact tm_u2_n (fun z => by subst z; rw [hw27_a] at hq30; cases hq30)).trans hw27_a
  have ne_q29_q1 : q1 ≠ q29 := (fun z => by subst z; rw [hw27_q1] at hq30; cases hq30)
  have hw31_q1 := (show w31 q1 = _ by rw [hw32]; exact tm_u2_n (fun z => by subst z; rw [hw27_q1] at hq30; cases hq30)).trans hw27_q1
  have ne_q29_q7 : q7 ≠ q29 := (fun z => by subst z; rw [hw27_q7] at hq30; cases hq30)
  have hw31_q7 := (show w31 q7 = _ by rw [hw32]; exact tm_u2_n (fun z => by subst z; rw [hw27_q7] at hq30; cases hq30)).trans hw27_q7
  have ne_q29_q13 : q13 ≠ q29 := (fun z => by subst z; rw [hw27_q13] at hq30; cases hq30)
  have hw31_q13 := (show w31 q13 = _ by rw [hw32]; exact tm_u2_n (fun z => by subst z; rw [hw27_q13] at hq30; cases hq30)).trans hw27_q13
  have ne_q29_q19 : q19 ≠ q29 := (fun z => by subst z; rw [hw27_q19] at hq30; cases hq30)
  have hw31_q19 := (show w31 q19 = _ by rw [hw32]; exact tm_u2_n (fun z => by subst z; rw [hw27_q19] at hq30; cases hq30)).trans hw27_q19
  refine tm_putfF2 hC hB.2.2.2.2 f_X6_30 hw31_a (tt_7_11 _) (Nat.le_of_ble_eq_true rfl) dX6_init_53 ⟨_, _, _, _, rfl, l_X6_30, rfl⟩ ?_
  obtain ⟨w33, hw34⟩ : ∃ z, z = tm_u2 w31 a (.inr (7, [.int (I (0)), .int (I (0)), .ref (q1), .int (I (0)), .ref (q7), .int (I (0)), .ref (q13), .ref (q19), .int (I (3)), .int (I (10)), .int (I (0)), .ref (q29), .null, .int (I (0)), .int (I (0))])) := ⟨_, rfl⟩
  show tm_V x (tm_H x (tm_u2 w31 a (.inr (7, [.int (I (0)), .int (I (0)), .ref (q1), .int (I (0)), .ref (q7), .int (I (0)), .ref (q13), .ref (q19), .int (I (3)), .int (I (10)), .int (I (0)), .ref (q29), .null, .int (I (0)), .int (I (0))])))) 1 216 56 [(0, .ref (a))] []
  rw [← hw34]
  have hw33_a : w33 a = some (.inl (.inr (7, [.int (I (0)), .int (I (0)), .ref (q1), .int (I (0)), .ref (q7), .int (I (0)), .ref (q13), .ref (q19), .int (I (3)), .int (I (10)), .int (I (0)), .ref (q29), .null, .int (I (0)), .int (I (0))]))) := by rw [hw34]; first | done | exact tm_u2_s
  have hw33_q1 := (show w33 q1 = _ by rw [hw34]; exact tm_u2_n (fun z => absurd (hw31_a.symm.trans (z ▸ hw31_q1)) (by intro q; cases q))).trans hw31_q1
  have hw33_q7 := (show w33 q7 = _ by rw [hw34]; exact tm_u2_n (fun z => absurd (hw31_a.symm.trans (z ▸ hw31_q7)) (by intro q; cases q))).trans hw31_q7
  have hw33_q13 := (show w33 q13 = _ by rw [hw34]; exact tm_u2_n (fun z => absurd (hw31_a.symm.trans (z ▸ hw31_q13)) (by intro q; cases q))).trans hw31_q13
  have hw33_q19 := (show w33 q19 = _ by rw [hw34]; exact tm_u2_n (fun z => absurd (hw31_a.symm.trans (z ▸ hw31_q19)) (by intro q; cases q))).trans hw31_q19
  have hw33_q29 := (show w33 q29 = _ by rw [hw34]; exact tm_u2_n (fun z => absurd (hw31_a.symm.trans (z ▸ hw31_q29)) (by intro q; cases q))).trans hw31_q29
  refine tm_aload_n 0 hC dX6_init_56 rfl rfl ?_
  refine tm_sipush hC dX6_init_57 rfl ?_
  refine tm_less (b' := 1 + 0) (n' := (216 : Int).toNat + 0) ⟨by omega, by omega⟩ ?_
  refine tm_newz2 hC (by omega) w_arr_boolean dX6_init_60 (fun q35 hq36 => ?_)
  obtain ⟨w37, hw38⟩ : ∃ z, z = tm_u2 w33 q35 (tm_az (tm_T x) ((216 : Int).toNat) (fun _ => 0)) := ⟨_, rfl⟩
  show tm_V x (tm_H x (tm_u2 w33 q35 (tm_az (tm_T x) ((216 : Int).toNat) (fun _ => 0)))) 0 0 62 [(0, .ref (a))] [.ref (q35), .ref (a)]
  rw [← hw38]
  have hw37_q35 : w37 q35 = some (.inl (tm_az (tm_T x) ((216 : Int).toNat) (fun _ => 0))) := by rw [hw38]; first | done | exact tm_u2_s
  have ne_q35_a : a ≠ q35 := (fun z => by subst z; rw [hw33_a] at hq36; cases hq36)
  have hw37_a := (show w37 a = _ by rw [hw38]; exact tm_u2_n (fun z => by subst z; rw [hw33_a] at hq36; cases hq36)).trans hw33_a
  have ne_q35_q1 : q1 ≠ q35 := (fun z => by subst z; rw [hw33_q1] at hq36; cases hq36)
  have hw37_q1 := (show w37 q1 = _ by rw [hw38]; exact tm_u2_n (fun z => by subst z; rw [hw33_q1] at hq36; cases hq36)).trans hw33_q1
  have ne_q35_q7 : q7 ≠ q35 := (fun z => by subst z; rw [hw33_q7] at hq36; cases hq36)
  have hw37_q7 := (show w37 q7 = _ by rw [hw38]; exact tm_u2_n (fun z => by subst z; rw [hw33_q7] at hq36; cases hq36)).trans hw33_q7
  have ne_q35_q13 : q13 ≠ q35 := (fun z => by subst z; rw [hw33_q13] at hq36; cases hq36)
  have hw37_q13 := (show w37 q13 = _ by rw [hw38]; exact tm_u2_n (fun z => by subst z; rw [hw33_q13] at hq36; cases hq36)).trans hw33_q13
  have ne_q35_q19 : q19 ≠ q35 := (fun z => by subst z; rw [hw33_q19] at hq36; cases hq36)
  have hw37_q19 := (show w37 q19 = _ by rw [hw38]; exact tm_u2_n (fun z => by subst z; rw [hw33_q19] at hq36; cases hq36)).trans hw33_q19
  have ne_q35_q29 : q29 ≠ q35 := (fun z => by subst z; rw [hw33_q29] at hq36; cases hq36)
  have hw37_q29 := (show w37 q29 = _ by rw [hw38]; exact tm_u2_n (fun z => by subst z; rw [hw33_q29] at hq36; cases hq36)).trans hw33_q29
  refine tm_putfF2 hC hB.2.2.2.2 f_X6_33 hw37_a (tt_7_12 _) (Nat.le_of_ble_eq_true rfl) dX6_init_62 ⟨_, _, _, _, rfl, l_X6_33, rfl⟩ ?_
  obtain ⟨w39, hw40⟩ : ∃ z, z = tm_u2 w37 a (.inr (7, [.int (I (0)), .int (I (0)), .ref (q1), .int (I (0)), .ref (q7), .int (I (0)), .ref (q13), .ref (q19), .int (I (3)), .int (I (10)), .int (I (0)), .ref (q29), .ref (q35), .int (I (0)), .int (I (0))])) := ⟨_, rfl⟩
  show tm_V x (tm_H x (tm_u2 w37 a (.inr (7, [.int (I (0)), .int (I (0)), .ref (q1), .int (I (0)), .ref (q7), .int (I (0)), .ref (q13), .ref (q19), .int (I (3)), .int (I (10)), .int (I (0)), .ref (q29), .ref (q35), .int (I (0)), .int (I (0))])))) 0 0 65 [(0, .ref (a))] []
  rw [← hw40]
  have hw39_a : w39 a = some (.inl (.inr (7, [.int (I (0)), .int (I (0)), .ref (q1), .int (I (0)), .ref (q7), .int (I (0)), .ref (q13), .ref (q19), .int (I (3)), .int (I (10)), .int (I (0)), .ref (q29), .ref (q35), .int (I (0)), .int (I (0))]))) := by rw [hw40]; first | done | exact tm_u2_s
  have hw39_q1 := (show w39 q1 = _ by rw [hw40]; exact tm_u2_n (fun z => absurd (hw37_a.symm.trans (z ▸ hw37_q1)) (by intro q; cases q))).trans hw37_q1
  have hw39_q7 := (show w39 q7 = _ by rw [hw40]; exact tm_u2_n (fun z => absurd (hw37_a.symm.trans (z ▸ hw37_q7)) (by intro q; cases q))).trans hw37_q7
  have hw39_q13 := (show w39 q13 = _ by rw [hw40]; exact tm_u2_n (fun z => absurd (hw37_a.symm.trans (z ▸ hw37_q13)) (by intro q; cases q))).trans hw37_q13
  have hw39_q19 := (show w39 q19 = _ by rw [hw40]; exact tm_u2_n (fun z => absurd (hw37_a.symm.trans (z ▸ hw37_q19)) (by intro q; cases q))).trans hw37_q19
  have hw39_q29 := (show w39 q29 = _ by rw [hw40]; exact tm_u2_n (fun z => absurd (hw37_a.symm.trans (z ▸ hw37_q29)) (by intro q; cases q))).trans hw37_q29
  have hw39_q35 := (show w39 q35 = _ by rw [hw40]; exact tm_u2_n (fun z => absurd (hw37_a.symm.trans (z ▸ hw37_q35)) (by intro q; cases q))).trans hw37_q35
  exact tm_vret hC hR dX6_init_65 (⟨fun i => ([a, q1, q7, q13, q19, q29, q35] : List Nat).getD i 0, rfl, ⟨hw39_a, hw39_q1, hw39_q7, hw39_q13, hw39_q19, hw39_q29, hw39_q35, rho_ne (l := [a, q1, q7, q13, q19, q29, q35]) (by simp [ne_q1_a, ne_q7_a, ne_q7_q1, ne_q13_a, ne_q13_q1, ne_q13_q7, ne_q19_a, ne_q19_q1, ne_q19_q7, ne_q19_q13, ne_q29_a, ne_q29_q1, ne_q29_q7, ne_q29_q13, ne_q29_q19, ne_q35_a, ne_q35_q1, ne_q35_q7, ne_q35_q13, ne_q35_q19, ne_q35_q29])⟩, rfl⟩)
