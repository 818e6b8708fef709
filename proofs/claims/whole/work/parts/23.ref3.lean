/-- a piece of a part, of a length, is possible from a place of a board on -/
def Poss (σ : ST) (p len b pl : Int) : Prop := 0 ≤ pl ∧ pl + len ≤ s_wo σ (3 * b) ∧ s_wa σ (4 * p + 1) ≤ s_wo σ (3 * b + 1) ∧ s_wo σ (3 * b + 2) ≤ s_wa σ (4 * p + 2) ∧ (∀ d, 0 ≤ d ∧ d < s_nd σ → s_fl σ (4 * d) = b → s_wa σ (4 * p + 2) < s_fl σ (4 * d + 3) → s_fl σ (4 * d + 1) < pl + len → s_fl σ (4 * d + 2) ≤ pl) ∧ (∀ k, 0 ≤ k ∧ k < s_nm σ → s_cu σ (4 * k) = b → s_cu σ (4 * k + 1) < pl + len + s_sw σ → s_cu σ (4 * k + 2) + s_sw σ ≤ pl)
def isEarl (σ : ST) (p b r : Int) : Prop := (r = -1 ∧ ∀ q, ¬ Poss σ p (s_wa σ (4 * p + 0)) b q) ∨ (Poss σ p (s_wa σ (4 * p + 0)) b r ∧ ∀ q, q < r → ¬ Poss σ p (s_wa σ (4 * p + 0)) b q)
theorem isEarl_u {σ : ST} {p b r r' : Int} (h : isEarl σ p b r) (h' : isEarl σ p b r') : r = r' := by
  rcases h with ⟨h1, h2⟩ | ⟨h1, h2⟩ <;> rcases h' with ⟨g1, g2⟩ | ⟨g1, g2⟩
  · omega
  · exact absurd g1 (h2 r')
  · exact absurd h1 (g2 r)
  · rcases Int.lt_trichotomy r r' with q | q | q
    · exact absurd h1 (g2 r q)
    · exact q
    · exact absurd g1 (h2 r' q)
def onwR (σ : ST) (p len b pl r : Int) : Prop := (r = pl ∧ Poss σ p len b pl) ∨ (pl < r ∧ ∀ q, pl ≤ q → q < r → ¬ Poss σ p len b q)

theorem onw_d {σ : ST} {p len b pl d : Int} (h : ∀ j, 0 ≤ j ∧ j < d → s_fl σ (4 * j) = b → s_wa σ (4 * p + 2) < s_fl σ (4 * j + 3) → s_fl σ (4 * j + 1) < pl + len → s_fl σ (4 * j + 2) ≤ pl) (hn : s_fl σ (4 * d) = b → s_wa σ (4 * p + 2) < s_fl σ (4 * d + 3) → s_fl σ (4 * d + 1) < pl + len → s_fl σ (4 * d + 2) ≤ pl) : ∀ j, 0 ≤ j ∧ j < d + 1 → s_fl σ (4 * j) = b → s_wa σ (4 * p + 2) < s_fl σ (4 * j + 3) → s_fl σ (4 * j + 1) < pl + len → s_fl σ (4 * j + 2) ≤ pl := by
  intro j hj
  by_cases e : j = d
  · subst e; exact hn
  · exact h j (by omega)
theorem onw_k {σ : ST} {len b pl k : Int} (h : ∀ j, 0 ≤ j ∧ j < k → s_cu σ (4 * j) = b → s_cu σ (4 * j + 1) < pl + len + s_sw σ → s_cu σ (4 * j + 2) + s_sw σ ≤ pl) (hn : s_cu σ (4 * k) = b → s_cu σ (4 * k + 1) < pl + len + s_sw σ → s_cu σ (4 * k + 2) + s_sw σ ≤ pl) : ∀ j, 0 ≤ j ∧ j < k + 1 → s_cu σ (4 * j) = b → s_cu σ (4 * j + 1) < pl + len + s_sw σ → s_cu σ (4 * j + 2) + s_sw σ ≤ pl := by
  intro j hj
  by_cases e : j = k
  · subst e; exact hn
  · exact h j (by omega)

set_option maxHeartbeats 4000000 in
set_option maxRecDepth 100000 in
theorem c_M_onward (γ : tmG) (hst : γ.1.stackTraces = false) (Λ : tmL) (ρ : Nat → Nat) (th sf se : Int) (σ : ST) (hM : RM γ.2.2.1 Λ ρ th sf se σ) (hw : WF0 σ) (p : Int) (hp : 0 ≤ p ∧ p < s_np σ) (len : Int) (b : Int) (hb : 0 ≤ b ∧ b < s_nb σ) (pl : Int) (hpl : (1 ≤ len ∧ len ≤ 3050) ∧ 0 ≤ pl ∧ pl < 3000) : tm_Con γ (tm_h2 γ.2.1 γ.2.2.1 γ.2.2.2.1) M_X6_onward 2 0 0 [.ref (ρ 0), .int (I (p)), .int (I (len)), .int (I (b)), .int (I (pl))] Λ (fun v w' => Λ = w' ∧ ∃ r, v = some (.int (I r)) ∧ onwR σ p len b pl r ∧ 0 ≤ r ∧ r ≤ 3010) := by
  refine tm_con hst (by decide) (Nat.le_of_ble_eq_true rfl) (fun x hB hR => ?_)
  have hg := hB.1
  subst hg
  have hC : tm_C x cX6_onward RX6 (some FieldType.int) := hB.2.2.2.1
  obtain ⟨hm0, hm1, hm2, hm3, hm4, hm5, hm6, hmd⟩ := id hM
  have hn := wf_n hw
  have hb9 := wf_b hw b hb
  have hp9 := wf_p hw p hp
  show tm_V x (tm_H x Λ) 0 0 0 [(0, .ref (ρ 0)), (1, .int (I (p))), (2, .int (I (len))), (3, .int (I (b))), (4, .int (I (pl)))] []
  refine tm_iload 4 hC dX6_onward_0 rfl ?_
  refine tm_if_lt 50 hC dX6_onward_2 (by decide) (by omega) (fun c_2 => ?_) (fun c_2 => ?_)
  · exact ((by omega) : False).elim
  · refine tm_iload 4 hC dX6_onward_5 rfl ?_
    refine tm_iload_n 2 hC dX6_onward_7 rfl rfl ?_
    refine tm_iadd hC dX6_onward_8 ?_
    refine tm_aload_n 0 hC dX6_onward_9 rfl rfl ?_
    refine tm_iload_n 3 hC dX6_onward_10 rfl rfl ?_
    refine tm_callV (b := 0) (n := 0) (rest := [.int (I (pl + len))]) hC (c_M_length (tm_g x) hst Λ ρ th sf se σ hM hw b (by omega) ) k_X6_57 (by rw [hB.2.2.1]; exact ⟨Nat.le_of_ble_eq_true rfl, Nat.le_of_ble_eq_true rfl⟩) rfl (tm_rec2 hC hm0 rfl) rfl (by simp [Value.category]) dX6_onward_11 (fun v_11 w_11 hp_11 => ?_)
    obtain ⟨rfl, rfl, hb_11⟩ := hp_11
    show tm_V x (tm_H x Λ) 0 0 14 [(0, .ref (ρ 0)), (1, .int (I (p))), (2, .int (I (len))), (3, .int (I (b))), (4, .int (I (pl)))] [.int (I (s_wo σ (3 * b))), .int (I (pl + len))]
    refine tm_icmp_gt 50 hC dX6_onward_14 (by decide) (by omega) (fun c_14 => ?_) (fun c_14 => ?_)
    · refine tm_sipush hC dX6_onward_50 rfl ?_
      exact tm_iret hC hR dX6_onward_53 (⟨rfl, _, rfl, Or.inr ⟨by omega, fun q q1 q2 z => by have := z.1; have := z.2.1; have := z.2.2.1; have := z.2.2.2.1; omega⟩, by omega⟩)
    · refine tm_aload_n 0 hC dX6_onward_17 rfl rfl ?_
      refine tm_iload_n 3 hC dX6_onward_18 rfl rfl ?_
      refine tm_callV (b := 0) (n := 0) (rest := []) hC (c_M_width (tm_g x) hst Λ ρ th sf se σ hM hw b (by omega) ) k_X6_107 (by rw [hB.2.2.1]; exact ⟨Nat.le_of_ble_eq_true rfl, Nat.le_of_ble_eq_true rfl⟩) rfl (tm_rec2 hC hm0 rfl) rfl (by decide) dX6_onward_19 (fun v_19 w_19 hp_19 => ?_)
      obtain ⟨rfl, rfl, hb_19⟩ := hp_19
      show tm_V x (tm_H x Λ) 0 0 22 [(0, .ref (ρ 0)), (1, .int (I (p))), (2, .int (I (len))), (3, .int (I (b))), (4, .int (I (pl)))] [.int (I (s_wo σ (3 * b + 1)))]
      refine tm_aload_n 0 hC dX6_onward_22 rfl rfl ?_
      refine tm_iload_n 1 hC dX6_onward_23 rfl rfl ?_
      refine tm_iconst hC dX6_onward_24 ?_
      refine tm_callV (b := 0) (n := 0) (rest := [.int (I (s_wo σ (3 * b + 1)))]) hC (c_M_want (tm_g x) hst Λ ρ th sf se σ hM hw p (by omega) 1 (by omega) ) k_X6_79 (by rw [hB.2.2.1]; exact ⟨Nat.le_of_ble_eq_true rfl, Nat.le_of_ble_eq_true rfl⟩) rfl (tm_rec2 hC hm0 rfl) rfl (by simp [Value.category]) dX6_onward_25 (fun v_25 w_25 hp_25 => ?_)
      obtain ⟨rfl, rfl, hb_25⟩ := hp_25
      show tm_V x (tm_H x Λ) 0 0 28 [(0, .ref (ρ 0)), (1, .int (I (p))), (2, .int (I (len))), (3, .int (I (b))), (4, .int (I (pl)))] [.int (I (s_wa σ (4 * p + 1))), .int (I (s_wo σ (3 * b + 1)))]
      refine tm_icmp_lt 50 hC dX6_onward_28 (by decide) (by omega) (fun c_28 => ?_) (fun c_28 => ?_)
      · refine tm_sipush hC dX6_onward_50 rfl ?_
        exact tm_iret hC hR dX6_onward_53 (⟨rfl, _, rfl, Or.inr ⟨by omega, fun q q1 q2 z => by have := z.1; have := z.2.1; have := z.2.2.1; have := z.2.2.2.1; omega⟩, by omega⟩)
      · refine tm_aload_n 0 hC dX6_onward_31 rfl rfl ?_
        refine tm_getf2 hC f_X6_9 hm0 rfl dX6_onward_32 ?_
        refine tm_iconst hC dX6_onward_35 ?_
        refine tm_iload_n 3 hC dX6_onward_36 rfl rfl ?_
        refine tm_imul hC dX6_onward_37 ?_
        refine tm_iconst hC dX6_onward_38 ?_
        refine tm_iadd hC dX6_onward_39 ?_
        refine tm_iald2 hC hm1 (by omega) dX6_onward_40 ?_
        refine tm_aload_n 0 hC dX6_onward_41 rfl rfl ?_
        refine tm_iload_n 1 hC dX6_onward_42 rfl rfl ?_
        refine tm_iconst hC dX6_onward_43 ?_
        refine tm_callV (b := 0) (n := 0) (rest := [.int (I ((s_wo σ) ((3 * b) + 2)))]) hC (c_M_want (tm_g x) hst Λ ρ th sf se σ hM hw p (by omega) 2 (by omega) ) k_X6_79 (by rw [hB.2.2.1]; exact ⟨Nat.le_of_ble_eq_true rfl, Nat.le_of_ble_eq_true rfl⟩) rfl (tm_rec2 hC hm0 rfl) rfl (by simp [Value.category]) dX6_onward_44 (fun v_44 w_44 hp_44 => ?_)
        obtain ⟨rfl, rfl, hb_44⟩ := hp_44
        show tm_V x (tm_H x Λ) 0 0 47 [(0, .ref (ρ 0)), (1, .int (I (p))), (2, .int (I (len))), (3, .int (I (b))), (4, .int (I (pl)))] [.int (I (s_wa σ (4 * p + 2))), .int (I ((s_wo σ) ((3 * b) + 2)))]
        refine tm_icmp_le 54 hC dX6_onward_47 (by decide) (by omega) (fun c_47 => ?_) (fun c_47 => ?_)
        · refine tm_iconst hC dX6_onward_54 ?_
          refine tm_istore [(5, .int (I (0))), (0, .ref (ρ 0)), (1, .int (I (p))), (2, .int (I (len))), (3, .int (I (b))), (4, .int (I (pl)))] hC dX6_onward_55 (by rw [hB.2.1]; exact Nat.le_of_ble_eq_true rfl) rfl ?_
          have hL_57 : ∀ (fu : Nat) (d : Int), ((0 ≤ d ∧ d ≤ s_nd σ) ∧ ∀ j, 0 ≤ j ∧ j < d → s_fl σ (4 * j) = b → s_wa σ (4 * p + 2) < s_fl σ (4 * j + 3) → s_fl σ (4 * j + 1) < pl + len → s_fl σ (4 * j + 2) ≤ pl) → ((s_nd σ - d).toNat) < fu → tm_V x (tm_H x Λ) 0 0 57 [(0, .ref (ρ 0)), (1, .int (I (p))), (2, .int (I (len))), (3, .int (I (b))), (4, .int (I (pl))), (5, .int (I (d)))] [] := by
            intro fu
            induction fu with
            | zero => intro d hinv hm; exact absurd hm (Nat.not_lt_zero _)
            | succ fu ih_57 =>
              intro d hinv_57 hm_57
              obtain ⟨hd, hg⟩ := hinv_57
              refine tm_iload 5 hC dX6_onward_57 rfl ?_
              refine tm_aload_n 0 hC dX6_onward_59 rfl rfl ?_
              refine tm_getf2 hC f_X6_60 hm0 rfl dX6_onward_60 ?_
              refine tm_icmp_ge 151 hC dX6_onward_63 (by decide) (by omega) (fun c_63 => ?_) (fun c_63 => ?_)
              · refine tm_iconst hC dX6_onward_151 ?_
                refine tm_istore [(5, .int (I (0))), (0, .ref (ρ 0)), (1, .int (I (p))), (2, .int (I (len))), (3, .int (I (b))), (4, .int (I (pl)))] hC dX6_onward_152 (by rw [hB.2.1]; exact Nat.le_of_ble_eq_true rfl) rfl ?_
                have hL_154 : ∀ (fu : Nat) (k : Int), ((0 ≤ k ∧ k ≤ s_nm σ) ∧ ∀ j, 0 ≤ j ∧ j < k → s_cu σ (4 * j) = b → s_cu σ (4 * j + 1) < pl + len + s_sw σ → s_cu σ (4 * j + 2) + s_sw σ ≤ pl) → ((s_nm σ - k).toNat) < fu → tm_V x (tm_H x Λ) 0 0 154 [(0, .ref (ρ 0)), (1, .int (I (p))), (2, .int (I (len))), (3, .int (I (b))), (4, .int (I (pl))), (5, .int (I (k)))] [] := by
                  intro fu
                  induction fu with
                  | zero => intro k hinv hm; exact absurd hm (Nat.not_lt_zero _)
                  | succ fu ih_154 =>
                    intro k hinv_154 hm_154
                    obtain ⟨hk, hgk⟩ := hinv_154
                    refine tm_iload 5 hC dX6_onward_154 rfl ?_
                    refine tm_aload_n 0 hC dX6_onward_156 rfl rfl ?_
                    refine tm_getf2 hC f_X6_63 hm0 rfl dX6_onward_157 ?_
                    refine tm_icmp_ge 225 hC dX6_onward_160 (by decide) (by omega) (fun c_160 => ?_) (fun c_160 => ?_)
                    · refine tm_iload 4 hC dX6_onward_225 rfl ?_
                      exact tm_iret hC hR dX6_onward_227 (⟨rfl, _, rfl, Or.inl ⟨rfl, by omega, by omega, by omega, by omega, fun j hj => hg j (by omega), fun j hj => hgk j (by omega)⟩, by omega⟩)
                    · have hk9 := wf_k hw k (by omega)
                      refine tm_aload_n 0 hC dX6_onward_163 rfl rfl ?_
                      refine tm_iload 5 hC dX6_onward_164 rfl ?_
                      refine tm_iload_n 3 hC dX6_onward_166 rfl rfl ?_
                      refine tm_callV (b := 0) (n := 0) (rest := []) hC (c_M_isOn (tm_g x) hst Λ ρ th sf se σ hM hw k (by omega) b (by omega) ) k_X6_66 (by rw [hB.2.2.1]; exact ⟨Nat.le_of_ble_eq_true rfl, Nat.le_of_ble_eq_true rfl⟩) rfl (tm_rec2 hC hm0 rfl) rfl (by decide) dX6_onward_167 (fun v_167 w_167 hp_167 => ?_)
                      obtain ⟨rfl, rfl, hb_167⟩ := hp_167
                      show tm_V x (tm_H x Λ) 0 0 170 [(0, .ref (ρ 0)), (1, .int (I (p))), (2, .int (I (len))), (3, .int (I (b))), (4, .int (I (pl))), (5, .int (I (k)))] [.int (I (bi (s_cu σ (4 * k) = b)))]
                      refine tm_ifb_eq 219 hC dX6_onward_170 (by decide) (fun c_170 => ?_) (fun c_170 => ?_)
                      · refine tm_iinc 5 [(5, .int (I (k + 1))), (0, .ref (ρ 0)), (1, .int (I (p))), (2, .int (I (len))), (3, .int (I (b))), (4, .int (I (pl)))] hC dX6_onward_219 rfl (by rw [hB.2.1]; exact Nat.le_of_ble_eq_true rfl) rfl ?_
                        refine tm_goto 154 hC dX6_onward_222 (by decide) ?_
                        refine tm_sub (L' := [(0, .ref (ρ 0)), (1, .int (I (p))), (2, .int (I (len))), (3, .int (I (b))), (4, .int (I (pl))), (5, .int (I (k + 1)))]) [1, 2, 3, 4, 5, 0] rfl ?_
                        exact ih_154  (k + 1) (⟨by omega, onw_k hgk (fun e1 e2 => absurd e1 c_170)⟩) (by omega)
                      · refine tm_aload_n 0 hC dX6_onward_173 rfl rfl ?_
                        refine tm_iload 5 hC dX6_onward_174 rfl ?_
                        refine tm_callV (b := 0) (n := 0) (rest := []) hC (c_M_from (tm_g x) hst Λ ρ th sf se σ hM hw k (by omega) ) k_X6_70 (by rw [hB.2.2.1]; exact ⟨Nat.le_of_ble_eq_true rfl, Nat.le_of_ble_eq_true rfl⟩) rfl (tm_rec2 hC hm0 rfl) rfl (by decide) dX6_onward_176 (fun v_176 w_176 hp_176 => ?_)
                        obtain ⟨rfl, rfl, hb_176⟩ := hp_176
                        show tm_V x (tm_H x Λ) 0 0 179 [(0, .ref (ρ 0)), (1, .int (I (p))), (2, .int (I (len))), (3, .int (I (b))), (4, .int (I (pl))), (5, .int (I (k)))] [.int (I (s_cu σ (4 * k + 1)))]
                        refine tm_iload 4 hC dX6_onward_179 rfl ?_
                        refine tm_iload_n 2 hC dX6_onward_181 rfl rfl ?_
                        refine tm_iadd hC dX6_onward_182 ?_
                        refine tm_aload_n 0 hC dX6_onward_183 rfl rfl ?_
                        refine tm_getf2 hC f_X6_23 hm0 rfl dX6_onward_184 ?_
                        refine tm_iadd hC dX6_onward_187 ?_
                        refine tm_icmp_ge 219 hC dX6_onward_188 (by decide) (by omega) (fun c_188 => ?_) (fun c_188 => ?_)
                        · refine tm_iinc 5 [(5, .int (I (k + 1))), (0, .ref (ρ 0)), (1, .int (I (p))), (2, .int (I (len))), (3, .int (I (b))), (4, .int (I (pl)))] hC dX6_onward_219 rfl (by rw [hB.2.1]; exact Nat.le_of_ble_eq_true rfl) rfl ?_
                          refine tm_goto 154 hC dX6_onward_222 (by decide) ?_
                          refine tm_sub (L' := [(0, .ref (ρ 0)), (1, .int (I (p))), (2, .int (I (len))), (3, .int (I (b))), (4, .int (I (pl))), (5, .int (I (k + 1)))]) [1, 2, 3, 4, 5, 0] rfl ?_
                          exact ih_154  (k + 1) (⟨by omega, onw_k hgk (fun e1 e2 => by omega)⟩) (by omega)
                        · refine tm_aload_n 0 hC dX6_onward_191 rfl rfl ?_
                          refine tm_iload 5 hC dX6_onward_192 rfl ?_
                          refine tm_callV (b := 0) (n := 0) (rest := []) hC (c_M_to (tm_g x) hst Λ ρ th sf se σ hM hw k (by omega) ) k_X6_73 (by rw [hB.2.2.1]; exact ⟨Nat.le_of_ble_eq_true rfl, Nat.le_of_ble_eq_true rfl⟩) rfl (tm_rec2 hC hm0 rfl) rfl (by decide) dX6_onward_194 (fun v_194 w_194 hp_194 => ?_)
                          obtain ⟨rfl, rfl, hb_194⟩ := hp_194
                          show tm_V x (tm_H x Λ) 0 0 197 [(0, .ref (ρ 0)), (1, .int (I (p))), (2, .int (I (len))), (3, .int (I (b))), (4, .int (I (pl))), (5, .int (I (k)))] [.int (I (s_cu σ (4 * k + 2)))]
                          refine tm_aload_n 0 hC dX6_onward_197 rfl rfl ?_
                          refine tm_getf2 hC f_X6_23 hm0 rfl dX6_onward_198 ?_
                          refine tm_iadd hC dX6_onward_201 ?_
                          refine tm_iload 4 hC dX6_onward_202 rfl ?_
                          refine tm_icmp_le 219 hC dX6_onward_204 (by decide) (by omega) (fun c_204 => ?_) (fun c_204 => ?_)
                          · refine tm_iinc 5 [(5, .int (I (k + 1))), (0, .ref (ρ 0)), (1, .int (I (p))), (2, .int (I (len))), (3, .int (I (b))), (4, .int (I (pl)))] hC dX6_onward_219 rfl (by rw [hB.2.1]; exact Nat.le_of_ble_eq_true rfl) rfl ?_
                            refine tm_goto 154 hC dX6_onward_222 (by decide) ?_
                            refine tm_sub (L' := [(0, .ref (ρ 0)), (1, .int (I (p))), (2, .int (I (len))), (3, .int (I (b))), (4, .int (I (pl))), (5, .int (I (k + 1)))]) [1, 2, 3, 4, 5, 0] rfl ?_
                            exact ih_154  (k + 1) (⟨by omega, onw_k hgk (fun e1 e2 => by omega)⟩) (by omega)
                          · refine tm_aload_n 0 hC dX6_onward_207 rfl rfl ?_
                            refine tm_iload 5 hC dX6_onward_208 rfl ?_
                            refine tm_callV (b := 0) (n := 0) (rest := []) hC (c_M_to (tm_g x) hst Λ ρ th sf se σ hM hw k (by omega) ) k_X6_73 (by rw [hB.2.2.1]; exact ⟨Nat.le_of_ble_eq_true rfl, Nat.le_of_ble_eq_true rfl⟩) rfl (tm_rec2 hC hm0 rfl) rfl (by decide) dX6_onward_210 (fun v_210 w_210 hp_210 => ?_)
                            obtain ⟨rfl, rfl, hb_210⟩ := hp_210
                            show tm_V x (tm_H x Λ) 0 0 213 [(0, .ref (ρ 0)), (1, .int (I (p))), (2, .int (I (len))), (3, .int (I (b))), (4, .int (I (pl))), (5, .int (I (k)))] [.int (I (s_cu σ (4 * k + 2)))]
                            refine tm_aload_n 0 hC dX6_onward_213 rfl rfl ?_
                            refine tm_getf2 hC f_X6_23 hm0 rfl dX6_onward_214 ?_
                            refine tm_iadd hC dX6_onward_217 ?_
                            exact tm_iret hC hR dX6_onward_218 (⟨rfl, _, rfl, Or.inr ⟨by omega, fun q q1 q2 z => by have := z.2.2.2.2.2 k (by omega) c_170 (by omega); omega⟩, by omega⟩)
                refine tm_sub (L' := [(0, .ref (ρ 0)), (1, .int (I (p))), (2, .int (I (len))), (3, .int (I (b))), (4, .int (I (pl))), (5, .int (I (0)))]) [1, 2, 3, 4, 5, 0] rfl ?_
                exact hL_154 _ 0 (⟨by omega, fun j hj => by omega⟩) (Nat.lt_succ_self _)
              · have hd9 := wf_d hw d (by omega)
                refine tm_aload_n 0 hC dX6_onward_66 rfl rfl ?_
                refine tm_getf2 hC f_X6_13 hm0 rfl dX6_onward_67 ?_
                refine tm_iconst hC dX6_onward_70 ?_
                refine tm_iload 5 hC dX6_onward_71 rfl ?_
                refine tm_imul hC dX6_onward_73 ?_
                refine tm_iald2 hC hm2 (by omega) dX6_onward_74 ?_
                refine tm_iload_n 3 hC dX6_onward_75 rfl rfl ?_
                refine tm_icmp_ne 145 hC dX6_onward_76 (by decide) (by omega) (fun c_76 => ?_) (fun c_76 => ?_)
                · refine tm_iinc 5 [(5, .int (I (d + 1))), (0, .ref (ρ 0)), (1, .int (I (p))), (2, .int (I (len))), (3, .int (I (b))), (4, .int (I (pl)))] hC dX6_onward_145 rfl (by rw [hB.2.1]; exact Nat.le_of_ble_eq_true rfl) rfl ?_
                  refine tm_goto 57 hC dX6_onward_148 (by decide) ?_
                  refine tm_sub (L' := [(0, .ref (ρ 0)), (1, .int (I (p))), (2, .int (I (len))), (3, .int (I (b))), (4, .int (I (pl))), (5, .int (I (d + 1)))]) [1, 2, 3, 4, 5, 0] rfl ?_
                  exact ih_57  (d + 1) (⟨by omega, onw_d hg (fun e1 e2 e3 => absurd e1 c_76)⟩) (by omega)
                · refine tm_aload_n 0 hC dX6_onward_79 rfl rfl ?_
                  refine tm_getf2 hC f_X6_13 hm0 rfl dX6_onward_80 ?_
                  refine tm_iconst hC dX6_onward_83 ?_
                  refine tm_iload 5 hC dX6_onward_84 rfl ?_
                  refine tm_imul hC dX6_onward_86 ?_
                  refine tm_iconst hC dX6_onward_87 ?_
                  refine tm_iadd hC dX6_onward_88 ?_
                  refine tm_iald2 hC hm2 (by omega) dX6_onward_89 ?_
                  refine tm_aload_n 0 hC dX6_onward_90 rfl rfl ?_
                  refine tm_iload_n 1 hC dX6_onward_91 rfl rfl ?_
                  refine tm_iconst hC dX6_onward_92 ?_
                  refine tm_callV (b := 0) (n := 0) (rest := [.int (I ((s_fl σ) ((4 * d) + 3)))]) hC (c_M_want (tm_g x) hst Λ ρ th sf se σ hM hw p (by omega) 2 (by omega) ) k_X6_79 (by rw [hB.2.2.1]; exact ⟨Nat.le_of_ble_eq_true rfl, Nat.le_of_ble_eq_true rfl⟩) rfl (tm_rec2 hC hm0 rfl) rfl (by simp [Value.category]) dX6_onward_93 (fun v_93 w_93 hp_93 => ?_)
                  obtain ⟨rfl, rfl, hb_93⟩ := hp_93
                  show tm_V x (tm_H x Λ) 0 0 96 [(0, .ref (ρ 0)), (1, .int (I (p))), (2, .int (I (len))), (3, .int (I (b))), (4, .int (I (pl))), (5, .int (I (d)))] [.int (I (s_wa σ (4 * p + 2))), .int (I ((s_fl σ) ((4 * d) + 3)))]
                  refine tm_icmp_le 145 hC dX6_onward_96 (by decide) (by omega) (fun c_96 => ?_) (fun c_96 => ?_)
                  · refine tm_iinc 5 [(5, .int (I (d + 1))), (0, .ref (ρ 0)), (1, .int (I (p))), (2, .int (I (len))), (3, .int (I (b))), (4, .int (I (pl)))] hC dX6_onward_145 rfl (by rw [hB.2.1]; exact Nat.le_of_ble_eq_true rfl) rfl ?_
                    refine tm_goto 57 hC dX6_onward_148 (by decide) ?_
                    refine tm_sub (L' := [(0, .ref (ρ 0)), (1, .int (I (p))), (2, .int (I (len))), (3, .int (I (b))), (4, .int (I (pl))), (5, .int (I (d + 1)))]) [1, 2, 3, 4, 5, 0] rfl ?_
                    exact ih_57  (d + 1) (⟨by omega, onw_d hg (fun e1 e2 e3 => by omega)⟩) (by omega)
                  · refine tm_aload_n 0 hC dX6_onward_99 rfl rfl ?_
                    refine tm_getf2 hC f_X6_13 hm0 rfl dX6_onward_100 ?_
                    refine tm_iconst hC dX6_onward_103 ?_
                    refine tm_iload 5 hC dX6_onward_104 rfl ?_
                    refine tm_imul hC dX6_onward_106 ?_
                    refine tm_iconst hC dX6_onward_107 ?_
                    refine tm_iadd hC dX6_onward_108 ?_
                    refine tm_iald2 hC hm2 (by omega) dX6_onward_109 ?_
                    refine tm_iload 4 hC dX6_onward_110 rfl ?_
                    refine tm_iload_n 2 hC dX6_onward_112 rfl rfl ?_
                    refine tm_iadd hC dX6_onward_113 ?_
                    refine tm_icmp_ge 145 hC dX6_onward_114 (by decide) (by omega) (fun c_114 => ?_) (fun c_114 => ?_)
                    · refine tm_iinc 5 [(5, .int (I (d + 1))), (0, .ref (ρ 0)), (1, .int (I (p))), (2, .int (I (len))), (3, .int (I (b))), (4, .int (I (pl)))] hC dX6_onward_145 rfl (by rw [hB.2.1]; exact Nat.le_of_ble_eq_true rfl) rfl ?_
                      refine tm_goto 57 hC dX6_onward_148 (by decide) ?_
                      refine tm_sub (L' := [(0, .ref (ρ 0)), (1, .int (I (p))), (2, .int (I (len))), (3, .int (I (b))), (4, .int (I (pl))), (5, .int (I (d + 1)))]) [1, 2, 3, 4, 5, 0] rfl ?_
                      exact ih_57  (d + 1) (⟨by omega, onw_d hg (fun e1 e2 e3 => by omega)⟩) (by omega)
                    · refine tm_aload_n 0 hC dX6_onward_117 rfl rfl ?_
                      refine tm_getf2 hC f_X6_13 hm0 rfl dX6_onward_118 ?_
                      refine tm_iconst hC dX6_onward_121 ?_
                      refine tm_iload 5 hC dX6_onward_122 rfl ?_
                      refine tm_imul hC dX6_onward_124 ?_
                      refine tm_iconst hC dX6_onward_125 ?_
                      refine tm_iadd hC dX6_onward_126 ?_
                      refine tm_iald2 hC hm2 (by omega) dX6_onward_127 ?_
                      refine tm_iload 4 hC dX6_onward_128 rfl ?_
                      refine tm_icmp_le 145 hC dX6_onward_130 (by decide) (by omega) (fun c_130 => ?_) (fun c_130 => ?_)
                      · refine tm_iinc 5 [(5, .int (I (d + 1))), (0, .ref (ρ 0)), (1, .int (I (p))), (2, .int (I (len))), (3, .int (I (b))), (4, .int (I (pl)))] hC dX6_onward_145 rfl (by rw [hB.2.1]; exact Nat.le_of_ble_eq_true rfl) rfl ?_
                        refine tm_goto 57 hC dX6_onward_148 (by decide) ?_
                        refine tm_sub (L' := [(0, .ref (ρ 0)), (1, .int (I (p))), (2, .int (I (len))), (3, .int (I (b))), (4, .int (I (pl))), (5, .int (I (d + 1)))]) [1, 2, 3, 4, 5, 0] rfl ?_
                        exact ih_57  (d + 1) (⟨by omega, onw_d hg (fun e1 e2 e3 => by omega)⟩) (by omega)
                      · refine tm_aload_n 0 hC dX6_onward_133 rfl rfl ?_
                        refine tm_getf2 hC f_X6_13 hm0 rfl dX6_onward_134 ?_
                        refine tm_iconst hC dX6_onward_137 ?_
                        refine tm_iload 5 hC dX6_onward_138 rfl ?_
                        refine tm_imul hC dX6_onward_140 ?_
                        refine tm_iconst hC dX6_onward_141 ?_
                        refine tm_iadd hC dX6_onward_142 ?_
                        refine tm_iald2 hC hm2 (by omega) dX6_onward_143 ?_
                        exact tm_iret hC hR dX6_onward_144 (⟨rfl, _, rfl, Or.inr ⟨by omega, fun q q1 q2 z => by have := z.2.2.2.2.1 d (by omega) (by omega) (by omega) (by omega); omega⟩, by omega⟩)
          refine tm_sub (L' := [(0, .ref (ρ 0)), (1, .int (I (p))), (2, .int (I (len))), (3, .int (I (b))), (4, .int (I (pl))), (5, .int (I (0)))]) [1, 2, 3, 4, 5, 0] rfl ?_
          exact hL_57 _ 0 (⟨by omega, fun j hj => by omega⟩) (Nat.lt_succ_self _)
        · refine tm_sipush hC dX6_onward_50 rfl ?_
          exact tm_iret hC hR dX6_onward_53 (⟨rfl, _, rfl, Or.inr ⟨by omega, fun q q1 q2 z => by have := z.1; have := z.2.1; have := z.2.2.1; have := z.2.2.2.1; omega⟩, by omega⟩)

set_option maxHeartbeats 4000000 in
set_option maxRecDepth 100000 in
theorem c_M_isPossible (γ : tmG) (hst : γ.1.stackTraces = false) (Λ : tmL) (ρ : Nat → Nat) (th sf se : Int) (σ : ST) (hM : RM γ.2.2.1 Λ ρ th sf se σ) (hw : WF0 σ) (p : Int) (hp : 0 ≤ p ∧ p < s_np σ) (len : Int) (b : Int) (hb : 0 ≤ b ∧ b < s_nb σ) (pl : Int) (hpl : (1 ≤ len ∧ len ≤ 3050) ∧ 0 ≤ pl ∧ pl ≤ 3000) : tm_Con γ (tm_h2 γ.2.1 γ.2.2.1 γ.2.2.2.1) M_X6_isPossible 3 0 0 [.ref (ρ 0), .int (I (p)), .int (I (len)), .int (I (b)), .int (I (pl))] Λ (fun v w' => Λ = w' ∧ v = some (.int (I (bi (Poss σ p len b pl))))) := by
  refine tm_con hst (by decide) (Nat.le_of_ble_eq_true rfl) (fun x hB hR => ?_)
  have hg := hB.1
  subst hg
  have hC : tm_C x cX6_isPossible RX6 (some FieldType.boolean) := hB.2.2.2.1
  obtain ⟨hm0, hm1, hm2, hm3, hm4, hm5, hm6, hmd⟩ := id hM
  have hn := wf_n hw
  have hb9 := wf_b hw b hb
  show tm_V x (tm_H x Λ) 0 0 0 [(0, .ref (ρ 0)), (1, .int (I (p))), (2, .int (I (len))), (3, .int (I (b))), (4, .int (I (pl)))] []
  refine tm_iload 4 hC dX6_isPossible_0 rfl ?_
  refine tm_sipush hC dX6_isPossible_2 rfl ?_
  refine tm_icmp_ge 26 hC dX6_isPossible_5 (by decide) (by omega) (fun c_5 => ?_) (fun c_5 => ?_)
  · refine tm_iconst hC dX6_isPossible_26 ?_
    exact tm_zret hC hR dX6_isPossible_27 (by omega) (⟨rfl, by rw [bi_f (by intro z; have := z.2.1; omega)]⟩)
  · refine tm_aload_n 0 hC dX6_isPossible_8 rfl rfl ?_
    refine tm_iload_n 1 hC dX6_isPossible_9 rfl rfl ?_
    refine tm_iload_n 2 hC dX6_isPossible_10 rfl rfl ?_
    refine tm_iload_n 3 hC dX6_isPossible_11 rfl rfl ?_
    refine tm_iload 4 hC dX6_isPossible_12 rfl ?_
    refine tm_callV (b := 0) (n := 0) (rest := []) hC (c_M_onward (tm_g x) hst Λ ρ th sf se σ hM hw p (by omega) len b (by omega) pl (by omega)) k_X6_110 (by rw [hB.2.2.1]; exact ⟨Nat.le_of_ble_eq_true rfl, Nat.le_of_ble_eq_true rfl⟩) rfl (tm_rec2 hC hm0 rfl) rfl (by decide) dX6_isPossible_14 (fun v_14 w_14 hp_14 => ?_)
    obtain ⟨rfl, r_14, rfl, ho_14, hob_14⟩ := hp_14
    show tm_V x (tm_H x Λ) 0 0 17 [(0, .ref (ρ 0)), (1, .int (I (p))), (2, .int (I (len))), (3, .int (I (b))), (4, .int (I (pl)))] [.int (I (r_14))]
    refine tm_iload 4 hC dX6_isPossible_17 rfl ?_
    refine tm_icmp_ne 26 hC dX6_isPossible_19 (by decide) (by omega) (fun c_19 => ?_) (fun c_19 => ?_)
    · refine tm_iconst hC dX6_isPossible_26 ?_
      exact tm_zret hC hR dX6_isPossible_27 (by omega) (⟨rfl, by rw [bi_f (by rcases ho_14 with h | h; omega; exact h.2 pl (by omega) (by omega))]⟩)
    · refine tm_iconst hC dX6_isPossible_22 ?_
      refine tm_goto 27 hC dX6_isPossible_23 (by decide) ?_
      exact tm_zret hC hR dX6_isPossible_27 (by omega) (⟨rfl, by rw [bi_t (by rcases ho_14 with h | h; exact h.2; omega)]⟩)

set_option maxHeartbeats 4000000 in
set_option maxRecDepth 100000 in
theorem c_M_earliestOn (γ : tmG) (hst : γ.1.stackTraces = false) (Λ : tmL) (ρ : Nat → Nat) (th sf se : Int) (σ : ST) (hM : RM γ.2.2.1 Λ ρ th sf se σ) (hw : WF0 σ) (p : Int) (hp : 0 ≤ p ∧ p < s_np σ) (b : Int) (hb : 0 ≤ b ∧ b < s_nb σ) : tm_Con γ (tm_h2 γ.2.1 γ.2.2.1 γ.2.2.2.1) M_X6_earliestOn 3 0 0 [.ref (ρ 0), .int (I (p)), .int (I (b))] Λ (fun v w' => Λ = w' ∧ ∃ r, v = some (.int (I r)) ∧ isEarl σ p b r ∧ -1 ≤ r ∧ r ≤ 3000) := by
  refine tm_con hst (by decide) (Nat.le_of_ble_eq_true rfl) (fun x hB hR => ?_)
  have hg := hB.1
  subst hg
  have hC : tm_C x cX6_earliestOn RX6 (some FieldType.int) := hB.2.2.2.1
  obtain ⟨hm0, hm1, hm2, hm3, hm4, hm5, hm6, hmd⟩ := id hM
  have hn := wf_n hw
  have hb9 := wf_b hw b hb
  have hp9 := wf_p hw p hp
  show tm_V x (tm_H x Λ) 0 0 0 [(0, .ref (ρ 0)), (1, .int (I (p))), (2, .int (I (b)))] []
  refine tm_iconst hC dX6_earliestOn_0 ?_
  refine tm_istore_n [(3, .int (I (0))), (0, .ref (ρ 0)), (1, .int (I (p))), (2, .int (I (b)))] hC dX6_earliestOn_1 rfl (by rw [hB.2.1]; exact Nat.le_of_ble_eq_true rfl) rfl ?_
  have hL_2 : ∀ (fu : Nat) (pl : Int), ((0 ≤ pl ∧ pl ≤ 3010) ∧ ∀ q, q < pl → ¬ Poss σ p (s_wa σ (4 * p + 0)) b q) → ((3010 - pl).toNat) < fu → tm_V x (tm_H x Λ) 0 0 2 [(0, .ref (ρ 0)), (1, .int (I (p))), (2, .int (I (b))), (3, .int (I (pl)))] [] := by
    intro fu
    induction fu with
    | zero => intro pl hinv hm; exact absurd hm (Nat.not_lt_zero _)
    | succ fu ih_2 =>
      intro pl hinv_2 hm_2
      obtain ⟨hpl, hno⟩ := hinv_2
      refine tm_iload_n 3 hC dX6_earliestOn_2 rfl rfl ?_
      refine tm_sipush hC dX6_earliestOn_3 rfl ?_
      refine tm_icmp_ge 38 hC dX6_earliestOn_6 (by decide) (by omega) (fun c_6 => ?_) (fun c_6 => ?_)
      · refine tm_iconst hC dX6_earliestOn_38 ?_
        exact tm_iret hC hR dX6_earliestOn_39 (⟨rfl, _, rfl, Or.inl ⟨rfl, fun q z => by have h1 := z.2.1; by_cases h9 : q < pl; exact hno q h9 z; omega⟩, by omega⟩)
      · refine tm_aload_n 0 hC dX6_earliestOn_9 rfl rfl ?_
        refine tm_iload_n 1 hC dX6_earliestOn_10 rfl rfl ?_
        refine tm_aload_n 0 hC dX6_earliestOn_11 rfl rfl ?_
        refine tm_iload_n 1 hC dX6_earliestOn_12 rfl rfl ?_
        refine tm_iconst hC dX6_earliestOn_13 ?_
        refine tm_callV (b := 0) (n := 0) (rest := [.int (I (p)), .ref (ρ 0)]) hC (c_M_want (tm_g x) hst Λ ρ th sf se σ hM hw p (by omega) 0 (by omega) ) k_X6_79 (by rw [hB.2.2.1]; exact ⟨Nat.le_of_ble_eq_true rfl, Nat.le_of_ble_eq_true rfl⟩) rfl (tm_rec2 hC hm0 rfl) rfl (by simp [Value.category]) dX6_earliestOn_14 (fun v_14 w_14 hp_14 => ?_)
        obtain ⟨rfl, rfl, hb_14⟩ := hp_14
        show tm_V x (tm_H x Λ) 0 0 17 [(0, .ref (ρ 0)), (1, .int (I (p))), (2, .int (I (b))), (3, .int (I (pl)))] [.int (I (s_wa σ (4 * p + 0))), .int (I (p)), .ref (ρ 0)]
        refine tm_iload_n 2 hC dX6_earliestOn_17 rfl rfl ?_
        refine tm_iload_n 3 hC dX6_earliestOn_18 rfl rfl ?_
        refine tm_callV (b := 0) (n := 0) (rest := []) hC (c_M_onward (tm_g x) hst Λ ρ th sf se σ hM hw p (by omega) (s_wa σ (4 * p + 0)) b (by omega) pl (by omega)) k_X6_110 (by rw [hB.2.2.1]; exact ⟨Nat.le_of_ble_eq_true rfl, Nat.le_of_ble_eq_true rfl⟩) rfl (tm_rec2 hC hm0 rfl) rfl (by decide) dX6_earliestOn_19 (fun v_19 w_19 hp_19 => ?_)
        obtain ⟨rfl, r_19, rfl, ho_19, hob_19⟩ := hp_19
        show tm_V x (tm_H x Λ) 0 0 22 [(0, .ref (ρ 0)), (1, .int (I (p))), (2, .int (I (b))), (3, .int (I (pl)))] [.int (I (r_19))]
        refine tm_istore [(4, .int (I (r_19))), (0, .ref (ρ 0)), (1, .int (I (p))), (2, .int (I (b))), (3, .int (I (pl)))] hC dX6_earliestOn_22 (by rw [hB.2.1]; exact Nat.le_of_ble_eq_true rfl) rfl ?_
        refine tm_iload 0 hC dX6_earliestOn_24 rfl ?_
        refine tm_iload_n 4 hC dX6_earliestOn_26 rfl rfl ?_
        refine tm_icmp_ne 32 hC dX6_earliestOn_27 (by decide) (by omega) (fun c_27 => ?_) (fun c_27 => ?_)
        · refine tm_iload 0 hC dX6_earliestOn_32 rfl ?_
          refine tm_istore_n [(3, .int (I (r_19))), (4, .int (I (r_19))), (0, .ref (ρ 0)), (1, .int (I (p))), (2, .int (I (b)))] hC dX6_earliestOn_34 rfl (by rw [hB.2.1]; exact Nat.le_of_ble_eq_true rfl) rfl ?_
          refine tm_goto 2 hC dX6_earliestOn_35 (by decide) ?_
          refine tm_sub (L' := [(0, .ref (ρ 0)), (1, .int (I (p))), (2, .int (I (b))), (3, .int (I (r_19)))]) [2, 3, 4, 0] rfl ?_
          exact ih_2  r_19 (⟨by omega, fun q hq => by rcases ho_19 with h | h; omega; by_cases h9 : q < pl; exact hno q h9; exact h.2 q (by omega) hq⟩) (by rcases ho_19 with h | h <;> omega)
        · refine tm_iload_n 4 hC dX6_earliestOn_30 rfl rfl ?_
          exact tm_iret hC hR dX6_earliestOn_31 (⟨rfl, _, rfl, Or.inr ⟨by rcases ho_19 with h | h; exact h.2; omega, hno⟩, by omega⟩)
  refine tm_sub (L' := [(0, .ref (ρ 0)), (1, .int (I (p))), (2, .int (I (b))), (3, .int (I (0)))]) [1, 2, 3, 0] rfl ?_
  exact hL_2 _ 0 (⟨by omega, fun q hq z => by have := z.1; omega⟩) (Nat.lt_succ_self _)

def okPB (σ : ST) (p b : Int) : Prop := (0 ≤ p ∧ p < s_np σ) ∧ 0 ≤ b ∧ b < s_nb σ
def Sp_fits (σ : ST) (p b pl k r : Int) : Prop := (¬ okPB σ p b ∧ k = 1) ∨ (okPB σ p b ∧ k = 0 ∧ r = bi (Poss σ p (s_wa σ (4 * p + 0)) b pl))
def Sp_earliest (σ : ST) (p b k r : Int) : Prop := (¬ okPB σ p b ∧ k = 1) ∨ (okPB σ p b ∧ k = 0 ∧ isEarl σ p b r)
theorem okPB_i {σ : ST} {p b : Int} : okPB σ p b ↔ ((0 ≤ p ∧ p < s_np σ) ∧ 0 ≤ b ∧ b < s_nb σ) := Iff.rfl

set_option maxHeartbeats 4000000 in
set_option maxRecDepth 100000 in
theorem c_M_fits (γ : tmG) (hst : γ.1.stackTraces = false) (Λ : tmL) (ρ : Nat → Nat) (th sf se : Int) (σ : ST) (hM : RM γ.2.2.1 Λ ρ th sf se σ) (hw : WF0 σ) (p b pl : Int) (hr : (-2147483648 ≤ p ∧ p ≤ 2147483647) ∧ (-2147483648 ≤ b ∧ b ≤ 2147483647) ∧ (-2147483648 ≤ pl ∧ pl ≤ 2147483647)) : tm_Con γ (tm_h2 γ.2.1 γ.2.2.1 γ.2.2.2.1) M_X6_fits 4 0 0 [.ref (ρ 0), .int (I (p)), .int (I (b)), .int (I (pl))] Λ (fun v w' => ∃ k sf' se' r, RM γ.2.2.1 w' ρ k sf' se' σ ∧ v = some (.int (I r)) ∧ Sp_fits σ p b pl k r) := by
  refine tm_con hst (by decide) (Nat.le_of_ble_eq_true rfl) (fun x hB hR => ?_)
  have hg := hB.1
  subst hg
  have hC : tm_C x cX6_fits RX6 (some FieldType.boolean) := hB.2.2.2.1
  obtain ⟨hm0, hm1, hm2, hm3, hm4, hm5, hm6, hmd⟩ := id hM
  have hn := wf_n hw
  show tm_V x (tm_H x Λ) 0 0 0 [(0, .ref (ρ 0)), (1, .int (I (p))), (2, .int (I (b))), (3, .int (I (pl)))] []
  refine tm_aload_n 0 hC dX6_fits_0 rfl rfl ?_
  refine tm_aload_n 0 hC dX6_fits_1 rfl rfl ?_
  refine tm_iload_n 1 hC dX6_fits_2 rfl rfl ?_
  refine tm_callV (b := 0) (n := 0) (rest := [.ref (ρ 0)]) hC (c_M_isPart (tm_g x) hst Λ ρ th sf se σ hM hw p (by omega) ) k_X6_114 (by rw [hB.2.2.1]; exact ⟨Nat.le_of_ble_eq_true rfl, Nat.le_of_ble_eq_true rfl⟩) rfl (tm_rec2 hC hm0 rfl) rfl (by simp [Value.category]) dX6_fits_3 (fun v_3 w_3 hp_3 => ?_)
  obtain ⟨rfl, rfl⟩ := hp_3
  show tm_V x (tm_H x Λ) 0 0 6 [(0, .ref (ρ 0)), (1, .int (I (p))), (2, .int (I (b))), (3, .int (I (pl)))] [.int (I (bi (0 ≤ p ∧ p ≤ s_np σ - 1))), .ref (ρ 0)]
  refine tm_ifb_eq 21 hC dX6_fits_6 (by decide) (fun c_6 => ?_) (fun c_6 => ?_)
  · refine tm_iconst hC dX6_fits_21 ?_
    refine tm_putf2 hC f_X6_36 hm0 (tt_7_0 _) (Nat.le_of_ble_eq_true rfl) dX6_fits_22 ?_
    obtain ⟨w1, hw2⟩ : ∃ z, z = tm_u2 Λ (ρ 0) (.inr (7, [.int (I (1)), .int (I (s_nb σ)), .ref (ρ 1), .int (I (s_nd σ)), .ref (ρ 2), .int (I (s_np σ)), .ref (ρ 3), .ref (ρ 4), .int (I (s_sw σ)), .int (I (s_jt σ)), .int (I (s_nm σ)), .ref (ρ 5), .ref (ρ 6), .int (I (sf)), .int (I (se))])) := ⟨_, rfl⟩
    show tm_V x (tm_H x (tm_u2 Λ (ρ 0) (.inr (7, [.int (I (1)), .int (I (s_nb σ)), .ref (ρ 1), .int (I (s_nd σ)), .ref (ρ 2), .int (I (s_np σ)), .ref (ρ 3), .ref (ρ 4), .int (I (s_sw σ)), .int (I (s_jt σ)), .int (I (s_nm σ)), .ref (ρ 5), .ref (ρ 6), .int (I (sf)), .int (I (se))])))) 0 0 25 [(0, .ref (ρ 0)), (1, .int (I (p))), (2, .int (I (b))), (3, .int (I (pl)))] []
    rw [← hw2]
    have hw1_ρ_0 : w1 (ρ 0) = some (.inl (.inr (7, [.int (I (1)), .int (I (s_nb σ)), .ref (ρ 1), .int (I (s_nd σ)), .ref (ρ 2), .int (I (s_np σ)), .ref (ρ 3), .ref (ρ 4), .int (I (s_sw σ)), .int (I (s_jt σ)), .int (I (s_nm σ)), .ref (ρ 5), .ref (ρ 6), .int (I (sf)), .int (I (se))]))) := by rw [hw2]; first | done | exact tm_u2_s
    have hw1_ρ_1 := (show w1 (ρ 1) = _ by rw [hw2]; exact tm_u2_n (fun z => absurd (hm0.symm.trans (z ▸ hm1)) (by intro q; cases q))).trans hm1
    have hw1_ρ_2 := (show w1 (ρ 2) = _ by rw [hw2]; exact tm_u2_n (fun z => absurd (hm0.symm.trans (z ▸ hm2)) (by intro q; cases q))).trans hm2
    have hw1_ρ_3 := (show w1 (ρ 3) = _ by rw [hw2]; exact tm_u2_n (fun z => absurd (hm0.symm.trans (z ▸ hm3)) (by intro q; cases q))).trans hm3
    have hw1_ρ_4 := (show w1 (ρ 4) = _ by rw [hw2]; exact tm_u2_n (fun z => absurd (hm0.symm.trans (z ▸ hm4)) (by intro q; cases q))).trans hm4
    have hw1_ρ_5 := (show w1 (ρ 5) = _ by rw [hw2]; exact tm_u2_n (fun z => absurd (hm0.symm.trans (z ▸ hm5)) (by intro q; cases q))).trans hm5
    have hw1_ρ_6 := (show w1 (ρ 6) = _ by rw [hw2]; exact tm_u2_n (fun z => absurd (hm0.symm.trans (z ▸ hm6)) (by intro q; cases q))).trans hm6
    have hM_w1 : RM (tm_T x) w1 ρ 1 sf se σ := ⟨hw1_ρ_0, hw1_ρ_1, hw1_ρ_2, hw1_ρ_3, hw1_ρ_4, hw1_ρ_5, hw1_ρ_6, hmd⟩
    refine tm_aload_n 0 hC dX6_fits_25 rfl rfl ?_
    refine tm_getf2 hC f_X6_36 hw1_ρ_0 rfl dX6_fits_26 ?_
    refine tm_if_ne 63 hC dX6_fits_29 (by decide) (by omega) (fun _ => ?_) (fun c => absurd c (by omega))
    refine tm_iconst hC dX6_fits_63 ?_
    exact tm_zret hC hR dX6_fits_64 (by omega) (⟨1, sf, se, 0, hM_w1, rfl, Or.inl ⟨by rw [okPB_i]; omega, rfl⟩⟩)
  · refine tm_aload_n 0 hC dX6_fits_9 rfl rfl ?_
    refine tm_iload_n 2 hC dX6_fits_10 rfl rfl ?_
    refine tm_callV (b := 0) (n := 0) (rest := [.ref (ρ 0)]) hC (c_M_isBoard (tm_g x) hst Λ ρ th sf se σ hM hw b (by omega) ) k_X6_53 (by rw [hB.2.2.1]; exact ⟨Nat.le_of_ble_eq_true rfl, Nat.le_of_ble_eq_true rfl⟩) rfl (tm_rec2 hC hm0 rfl) rfl (by simp [Value.category]) dX6_fits_11 (fun v_11 w_11 hp_11 => ?_)
    obtain ⟨rfl, rfl⟩ := hp_11
    show tm_V x (tm_H x Λ) 0 0 14 [(0, .ref (ρ 0)), (1, .int (I (p))), (2, .int (I (b))), (3, .int (I (pl)))] [.int (I (bi (0 ≤ b ∧ b ≤ s_nb σ - 1))), .ref (ρ 0)]
    refine tm_ifb_eq 21 hC dX6_fits_14 (by decide) (fun c_14 => ?_) (fun c_14 => ?_)
    · refine tm_iconst hC dX6_fits_21 ?_
      refine tm_putf2 hC f_X6_36 hm0 (tt_7_0 _) (Nat.le_of_ble_eq_true rfl) dX6_fits_22 ?_
      obtain ⟨w3, hw4⟩ : ∃ z, z = tm_u2 Λ (ρ 0) (.inr (7, [.int (I (1)), .int (I (s_nb σ)), .ref (ρ 1), .int (I (s_nd σ)), .ref (ρ 2), .int (I (s_np σ)), .ref (ρ 3), .ref (ρ 4), .int (I (s_sw σ)), .int (I (s_jt σ)), .int (I (s_nm σ)), .ref (ρ 5), .ref (ρ 6), .int (I (sf)), .int (I (se))])) := ⟨_, rfl⟩
      show tm_V x (tm_H x (tm_u2 Λ (ρ 0) (.inr (7, [.int (I (1)), .int (I (s_nb σ)), .ref (ρ 1), .int (I (s_nd σ)), .ref (ρ 2), .int (I (s_np σ)), .ref (ρ 3), .ref (ρ 4), .int (I (s_sw σ)), .int (I (s_jt σ)), .int (I (s_nm σ)), .ref (ρ 5), .ref (ρ 6), .int (I (sf)), .int (I (se))])))) 0 0 25 [(0, .ref (ρ 0)), (1, .int (I (p))), (2, .int (I (b))), (3, .int (I (pl)))] []
      rw [← hw4]
      have hw3_ρ_0 : w3 (ρ 0) = some (.inl (.inr (7, [.int (I (1)), .int (I (s_nb σ)), .ref (ρ 1), .int (I (s_nd σ)), .ref (ρ 2), .int (I (s_np σ)), .ref (ρ 3), .ref (ρ 4), .int (I (s_sw σ)), .int (I (s_jt σ)), .int (I (s_nm σ)), .ref (ρ 5), .ref (ρ 6), .int (I (sf)), .int (I (se))]))) := by rw [hw4]; first | done | exact tm_u2_s
      have hw3_ρ_1 := (show w3 (ρ 1) = _ by rw [hw4]; exact tm_u2_n (fun z => absurd (hm0.symm.trans (z ▸ hm1)) (by intro q; cases q))).trans hm1
      have hw3_ρ_2 := (show w3 (ρ 2) = _ by rw [hw4]; exact tm_u2_n (fun z => absurd (hm0.symm.trans (z ▸ hm2)) (by intro q; cases q))).trans hm2
      have hw3_ρ_3 := (show w3 (ρ 3) = _ by rw [hw4]; exact tm_u2_n (fun z => absurd (hm0.symm.trans (z ▸ hm3)) (by intro q; cases q))).trans hm3
      have hw3_ρ_4 := (show w3 (ρ 4) = _ by rw [hw4]; exact tm_u2_n (fun z => absurd (hm0.symm.trans (z ▸ hm4)) (by intro q; cases q))).trans hm4
      have hw3_ρ_5 := (show w3 (ρ 5) = _ by rw [hw4]; exact tm_u2_n (fun z => absurd (hm0.symm.trans (z ▸ hm5)) (by intro q; cases q))).trans hm5
      have hw3_ρ_6 := (show w3 (ρ 6) = _ by rw [hw4]; exact tm_u2_n (fun z => absurd (hm0.symm.trans (z ▸ hm6)) (by intro q; cases q))).trans hm6
      have hM_w3 : RM (tm_T x) w3 ρ 1 sf se σ := ⟨hw3_ρ_0, hw3_ρ_1, hw3_ρ_2, hw3_ρ_3, hw3_ρ_4, hw3_ρ_5, hw3_ρ_6, hmd⟩
      refine tm_aload_n 0 hC dX6_fits_25 rfl rfl ?_
      refine tm_getf2 hC f_X6_36 hw3_ρ_0 rfl dX6_fits_26 ?_
      refine tm_if_ne 63 hC dX6_fits_29 (by decide) (by omega) (fun _ => ?_) (fun c => absurd c (by omega))
      refine tm_iconst hC dX6_fits_63 ?_
      exact tm_zret hC hR dX6_fits_64 (by omega) (⟨1, sf, se, 0, hM_w3, rfl, Or.inl ⟨by rw [okPB_i]; omega, rfl⟩⟩)
    · refine tm_iconst hC dX6_fits_17 ?_
      refine tm_goto 22 hC dX6_fits_18 (by decide) ?_
      refine tm_putf2 hC f_X6_36 hm0 (tt_7_0 _) (Nat.le_of_ble_eq_true rfl) dX6_fits_22 ?_
      obtain ⟨w5, hw6⟩ : ∃ z, z = tm_u2 Λ (ρ 0) (.inr (7, [.int (I (0)), .int (I (s_nb σ)), .ref (ρ 1), .int (I (s_nd σ)), .ref (ρ 2), .int (I (s_np σ)), .ref (ρ 3), .ref (ρ 4), .int (I (s_sw σ)), .int (I (s_jt σ)), .int (I (s_nm σ)), .ref (ρ 5), .ref (ρ 6), .int (I (sf)), .int (I (se))])) := ⟨_, rfl⟩
      show tm_V x (tm_H x (tm_u2 Λ (ρ 0) (.inr (7, [.int (I (0)), .int (I (s_nb σ)), .ref (ρ 1), .int (I (s_nd σ)), .ref (ρ 2), .int (I (s_np σ)), .ref (ρ 3), .ref (ρ 4), .int (I (s_sw σ)), .int (I (s_jt σ)), .int (I (s_nm σ)), .ref (ρ 5), .ref (ρ 6), .int (I (sf)), .int (I (se))])))) 0 0 25 [(0, .ref (ρ 0)), (1, .int (I (p))), (2, .int (I (b))), (3, .int (I (pl)))] []
      rw [← hw6]
      have hw5_ρ_0 : w5 (ρ 0) = some (.inl (.inr (7, [.int (I (0)), .int (I (s_nb σ)), .ref (ρ 1), .int (I (s_nd σ)), .ref (ρ 2), .int (I (s_np σ)), .ref (ρ 3), .ref (ρ 4), .int (I (s_sw σ)), .int (I (s_jt σ)), .int (I (s_nm σ)), .ref (ρ 5), .ref (ρ 6), .int (I (sf)), .int (I (se))]))) := by rw [hw6]; first | done | exact tm_u2_s
      have hw5_ρ_1 := (show w5 (ρ 1) = _ by rw [hw6]; exact tm_u2_n (fun z => absurd (hm0.symm.trans (z ▸ hm1)) (by intro q; cases q))).trans hm1
      have hw5_ρ_2 := (show w5 (ρ 2) = _ by rw [hw6]; exact tm_u2_n (fun z => absurd (hm0.symm.trans (z ▸ hm2)) (by intro q; cases q))).trans hm2
      have hw5_ρ_3 := (show w5 (ρ 3) = _ by rw [hw6]; exact tm_u2_n (fun z => absurd (hm0.symm.trans (z ▸ hm3)) (by intro q; cases q))).trans hm3
      have hw5_ρ_4 := (show w5 (ρ 4) = _ by rw [hw6]; exact tm_u2_n (fun z => absurd (hm0.symm.trans (z ▸ hm4)) (by intro q; cases q))).trans hm4
      have hw5_ρ_5 := (show w5 (ρ 5) = _ by rw [hw6]; exact tm_u2_n (fun z => absurd (hm0.symm.trans (z ▸ hm5)) (by intro q; cases q))).trans hm5
      have hw5_ρ_6 := (show w5 (ρ 6) = _ by rw [hw6]; exact tm_u2_n (fun z => absurd (hm0.symm.trans (z ▸ hm6)) (by intro q; cases q))).trans hm6
      have hM_w5 : RM (tm_T x) w5 ρ 0 sf se σ := ⟨hw5_ρ_0, hw5_ρ_1, hw5_ρ_2, hw5_ρ_3, hw5_ρ_4, hw5_ρ_5, hw5_ρ_6, hmd⟩
      refine tm_aload_n 0 hC dX6_fits_25 rfl rfl ?_
      refine tm_getf2 hC f_X6_36 hw5_ρ_0 rfl dX6_fits_26 ?_
      refine tm_if_ne 63 hC dX6_fits_29 (by decide) (by omega) (fun c => absurd (by omega) c) (fun _ => ?_)
      refine tm_iload_n 3 hC dX6_fits_32 rfl rfl ?_
      refine tm_iconst hC dX6_fits_33 ?_
      refine tm_sipush hC dX6_fits_34 rfl ?_
      refine tm_callS (b := 0) (n := 0) (rest := []) hC (c_M_isIn (tm_g x) hst _ w5 pl 0 3000 (by omega)) k_X6_42 (by rw [hB.2.2.1]; exact ⟨Nat.le_of_ble_eq_true rfl, Nat.le_of_ble_eq_true rfl⟩) rfl rfl (by decide) dX6_fits_37 (fun v_37 w_37 hp_37 => ?_)
      obtain ⟨rfl, rfl⟩ := hp_37
      show tm_V x (tm_H x w5) 0 0 40 [(0, .ref (ρ 0)), (1, .int (I (p))), (2, .int (I (b))), (3, .int (I (pl)))] [.int (I (bi (0 ≤ pl ∧ pl ≤ 3000)))]
      refine tm_ifb_eq 63 hC dX6_fits_40 (by decide) (fun c_40 => ?_) (fun c_40 => ?_)
      · refine tm_iconst hC dX6_fits_63 ?_
        exact tm_zret hC hR dX6_fits_64 (by omega) (⟨0, sf, se, 0, hM_w5, rfl, Or.inr ⟨by rw [okPB_i]; omega, rfl, (bi_f (fun z => by have h1 := z.1; have h2 := z.2.1; have hp9 := wf_p hw p (by omega); have hb9 := wf_b hw b (by omega); omega)).symm⟩⟩)
      · have hp9 := wf_p hw p (by omega)
        refine tm_aload_n 0 hC dX6_fits_43 rfl rfl ?_
        refine tm_iload_n 1 hC dX6_fits_44 rfl rfl ?_
        refine tm_aload_n 0 hC dX6_fits_45 rfl rfl ?_
        refine tm_iload_n 1 hC dX6_fits_46 rfl rfl ?_
        refine tm_iconst hC dX6_fits_47 ?_
        refine tm_callV (b := 0) (n := 0) (rest := [.int (I (p)), .ref (ρ 0)]) hC (c_M_want (tm_g x) hst w5 ρ 0 sf se σ hM_w5 hw p (by omega) 0 (by omega) ) k_X6_79 (by rw [hB.2.2.1]; exact ⟨Nat.le_of_ble_eq_true rfl, Nat.le_of_ble_eq_true rfl⟩) rfl (tm_rec2 hC hw5_ρ_0 rfl) rfl (by simp [Value.category]) dX6_fits_48 (fun v_48 w_48 hp_48 => ?_)
        obtain ⟨rfl, rfl, hb_48⟩ := hp_48
        show tm_V x (tm_H x w5) 0 0 51 [(0, .ref (ρ 0)), (1, .int (I (p))), (2, .int (I (b))), (3, .int (I (pl)))] [.int (I (s_wa σ (4 * p + 0))), .int (I (p)), .ref (ρ 0)]
        refine tm_iload_n 2 hC dX6_fits_51 rfl rfl ?_
        refine tm_iload_n 3 hC dX6_fits_52 rfl rfl ?_
        refine tm_callV (b := 0) (n := 0) (rest := []) hC (c_M_isPossible (tm_g x) hst w5 ρ 0 sf se σ hM_w5 hw p (by omega) (s_wa σ (4 * p + 0)) b (by omega) pl (by omega)) k_X6_117 (by rw [hB.2.2.1]; exact ⟨Nat.le_of_ble_eq_true rfl, Nat.le_of_ble_eq_true rfl⟩) rfl (tm_rec2 hC hw5_ρ_0 rfl) rfl (by decide) dX6_fits_53 (fun v_53 w_53 hp_53 => ?_)
        obtain ⟨rfl, rfl⟩ := hp_53
        show tm_V x (tm_H x w5) 0 0 56 [(0, .ref (ρ 0)), (1, .int (I (p))), (2, .int (I (b))), (3, .int (I (pl)))] [.int (I (bi (Poss σ p (s_wa σ (4 * p + 0)) b pl)))]
        refine tm_ifb_eq 63 hC dX6_fits_56 (by decide) (fun c_56 => ?_) (fun c_56 => ?_)
        · refine tm_iconst hC dX6_fits_63 ?_
          exact tm_zret hC hR dX6_fits_64 (by omega) (⟨0, sf, se, 0, hM_w5, rfl, Or.inr ⟨by rw [okPB_i]; omega, rfl, (bi_f c_56).symm⟩⟩)
        · refine tm_iconst hC dX6_fits_59 ?_
          refine tm_goto 64 hC dX6_fits_60 (by decide) ?_
          exact tm_zret hC hR dX6_fits_64 (by omega) (⟨0, sf, se, 1, hM_w5, rfl, Or.inr ⟨by rw [okPB_i]; omega, rfl, (bi_t c_56).symm⟩⟩)

set_option maxHeartbeats 4000000 in
set_option maxRecDepth 100000 in
theorem c_M_earliest (γ : tmG) (hst : γ.1.stackTraces = false) (Λ : tmL) (ρ : Nat → Nat) (th sf se : Int) (σ : ST) (hM : RM γ.2.2.1 Λ ρ th sf se σ) (hw : WF0 σ) (p b : Int) (hr : (-2147483648 ≤ p ∧ p ≤ 2147483647) ∧ (-2147483648 ≤ b ∧ b ≤ 2147483647)) : tm_Con γ (tm_h2 γ.2.1 γ.2.2.1 γ.2.2.2.1) M_X6_earliest 4 0 0 [.ref (ρ 0), .int (I (p)), .int (I (b))] Λ (fun v w' => ∃ k sf' se' r, RM γ.2.2.1 w' ρ k sf' se' σ ∧ v = some (.int (I r)) ∧ Sp_earliest σ p b k r) := by
  refine tm_con hst (by decide) (Nat.le_of_ble_eq_true rfl) (fun x hB hR => ?_)
  have hg := hB.1
  subst hg
  have hC : tm_C x cX6_earliest RX6 (some FieldType.int) := hB.2.2.2.1
  obtain ⟨hm0, hm1, hm2, hm3, hm4, hm5, hm6, hmd⟩ := id hM
  have hn := wf_n hw
  show tm_V x (tm_H x Λ) 0 0 0 [(0, .ref (ρ 0)), (1, .int (I (p))), (2, .int (I (b)))] []
  refine tm_aload_n 0 hC dX6_earliest_0 rfl rfl ?_
  refine tm_iconst hC dX6_earliest_1 ?_
  refine tm_putf2 hC f_X6_36 hm0 (tt_7_0 _) (Nat.le_of_ble_eq_true rfl) dX6_earliest_2 ?_
  obtain ⟨w1, hw2⟩ : ∃ z, z = tm_u2 Λ (ρ 0) (.inr (7, [.int (I (0)), .int (I (s_nb σ)), .ref (ρ 1), .int (I (s_nd σ)), .ref (ρ 2), .int (I (s_np σ)), .ref (ρ 3), .ref (ρ 4), .int (I (s_sw σ)), .int (I (s_jt σ)), .int (I (s_nm σ)), .ref (ρ 5), .ref (ρ 6), .int (I (sf)), .int (I (se))])) := ⟨_, rfl⟩
  show tm_V x (tm_H x (tm_u2 Λ (ρ 0) (.inr (7, [.int (I (0)), .int (I (s_nb σ)), .ref (ρ 1), .int (I (s_nd σ)), .ref (ρ 2), .int (I (s_np σ)), .ref (ρ 3), .ref (ρ 4), .int (I (s_sw σ)), .int (I (s_jt σ)), .int (I (s_nm σ)), .ref (ρ 5), .ref (ρ 6), .int (I (sf)), .int (I (se))])))) 0 0 5 [(0, .ref (ρ 0)), (1, .int (I (p))), (2, .int (I (b)))] []
  rw [← hw2]
  have hw1_ρ_0 : w1 (ρ 0) = some (.inl (.inr (7, [.int (I (0)), .int (I (s_nb σ)), .ref (ρ 1), .int (I (s_nd σ)), .ref (ρ 2), .int (I (s_np σ)), .ref (ρ 3), .ref (ρ 4), .int (I (s_sw σ)), .int (I (s_jt σ)), .int (I (s_nm σ)), .ref (ρ 5), .ref (ρ 6), .int (I (sf)), .int (I (se))]))) := by rw [hw2]; first | done | exact tm_u2_s
  have hw1_ρ_1 := (show w1 (ρ 1) = _ by rw [hw2]; exact tm_u2_n (fun z => absurd (hm0.symm.trans (z ▸ hm1)) (by intro q; cases q))).trans hm1
  have hw1_ρ_2 := (show w1 (ρ 2) = _ by rw [hw2]; exact tm_u2_n (fun z => absurd (hm0.symm.trans (z ▸ hm2)) (by intro q; cases q))).trans hm2
  have hw1_ρ_3 := (show w1 (ρ 3) = _ by rw [hw2]; exact tm_u2_n (fun z => absurd (hm0.symm.trans (z ▸ hm3)) (by intro q; cases q))).trans hm3
  have hw1_ρ_4 := (show w1 (ρ 4) = _ by rw [hw2]; exact tm_u2_n (fun z => absurd (hm0.symm.trans (z ▸ hm4)) (by intro q; cases q))).trans hm4
  have hw1_ρ_5 := (show w1 (ρ 5) = _ by rw [hw2]; exact tm_u2_n (fun z => absurd (hm0.symm.trans (z ▸ hm5)) (by intro q; cases q))).trans hm5
  have hw1_ρ_6 := (show w1 (ρ 6) = _ by rw [hw2]; exact tm_u2_n (fun z => absurd (hm0.symm.trans (z ▸ hm6)) (by intro q; cases q))).trans hm6
  have hM_w1 : RM (tm_T x) w1 ρ 0 sf se σ := ⟨hw1_ρ_0, hw1_ρ_1, hw1_ρ_2, hw1_ρ_3, hw1_ρ_4, hw1_ρ_5, hw1_ρ_6, hmd⟩
  refine tm_aload_n 0 hC dX6_earliest_5 rfl rfl ?_
  refine tm_iload_n 1 hC dX6_earliest_6 rfl rfl ?_
  refine tm_callV (b := 0) (n := 0) (rest := []) hC (c_M_isPart (tm_g x) hst w1 ρ 0 sf se σ hM_w1 hw p (by omega) ) k_X6_114 (by rw [hB.2.2.1]; exact ⟨Nat.le_of_ble_eq_true rfl, Nat.le_of_ble_eq_true rfl⟩) rfl (tm_rec2 hC hw1_ρ_0 rfl) rfl (by decide) dX6_earliest_7 (fun v_7 w_7 hp_7 => ?_)
  obtain ⟨rfl, rfl⟩ := hp_7
  show tm_V x (tm_H x w1) 0 0 10 [(0, .ref (ρ 0)), (1, .int (I (p))), (2, .int (I (b)))] [.int (I (bi (0 ≤ p ∧ p ≤ s_np σ - 1)))]
  refine tm_ifb_eq 30 hC dX6_earliest_10 (by decide) (fun c_10 => ?_) (fun c_10 => ?_)
  · refine tm_aload_n 0 hC dX6_earliest_30 rfl rfl ?_
    refine tm_iconst hC dX6_earliest_31 ?_
    refine tm_callV (b := 0) (n := 0) (rest := []) hC (c_M_fail (tm_g x) hst w1 ρ 0 sf se σ hM_w1 hw 1) k_X6_49 (by rw [hB.2.2.1]; exact ⟨Nat.le_of_ble_eq_true rfl, Nat.le_of_ble_eq_true rfl⟩) rfl (tm_rec2 hC hw1_ρ_0 rfl) rfl (by decide) dX6_earliest_32 (fun v_32 w_32 hp_32 => ?_)
    obtain ⟨hf_32, rfl⟩ := hp_32
    obtain ⟨hm0_32, hm1_32, hm2_32, hm3_32, hm4_32, hm5_32, hm6_32, -⟩ := id hf_32
    show tm_V x (tm_H x w_32) 0 0 35 [(0, .ref (ρ 0)), (1, .int (I (p))), (2, .int (I (b)))] [.int (I (0))]
    exact tm_iret hC hR dX6_earliest_35 (⟨1, sf, se, 0, hf_32, rfl, Or.inl ⟨by rw [okPB_i]; omega, rfl⟩⟩)
  · refine tm_aload_n 0 hC dX6_earliest_13 rfl rfl ?_
    refine tm_iload_n 2 hC dX6_earliest_14 rfl rfl ?_
    refine tm_callV (b := 0) (n := 0) (rest := []) hC (c_M_isBoard (tm_g x) hst w1 ρ 0 sf se σ hM_w1 hw b (by omega) ) k_X6_53 (by rw [hB.2.2.1]; exact ⟨Nat.le_of_ble_eq_true rfl, Nat.le_of_ble_eq_true rfl⟩) rfl (tm_rec2 hC hw1_ρ_0 rfl) rfl (by decide) dX6_earliest_15 (fun v_15 w_15 hp_15 => ?_)
    obtain ⟨rfl, rfl⟩ := hp_15
    show tm_V x (tm_H x w1) 0 0 18 [(0, .ref (ρ 0)), (1, .int (I (p))), (2, .int (I (b)))] [.int (I (bi (0 ≤ b ∧ b ≤ s_nb σ - 1)))]
    refine tm_ifb_eq 30 hC dX6_earliest_18 (by decide) (fun c_18 => ?_) (fun c_18 => ?_)
    · refine tm_aload_n 0 hC dX6_earliest_30 rfl rfl ?_
      refine tm_iconst hC dX6_earliest_31 ?_
      refine tm_callV (b := 0) (n := 0) (rest := []) hC (c_M_fail (tm_g x) hst w1 ρ 0 sf se σ hM_w1 hw 1) k_X6_49 (by rw [hB.2.2.1]; exact ⟨Nat.le_of_ble_eq_true rfl, Nat.le_of_ble_eq_true rfl⟩) rfl (tm_rec2 hC hw1_ρ_0 rfl) rfl (by decide) dX6_earliest_32 (fun v_32 w_32 hp_32 => ?_)
      obtain ⟨hf_32, rfl⟩ := hp_32
      obtain ⟨hm0_32, hm1_32, hm2_32, hm3_32, hm4_32, hm5_32, hm6_32, -⟩ := id hf_32
      show tm_V x (tm_H x w_32) 0 0 35 [(0, .ref (ρ 0)), (1, .int (I (p))), (2, .int (I (b)))] [.int (I (0))]
      exact tm_iret hC hR dX6_earliest_35 (⟨1, sf, se, 0, hf_32, rfl, Or.inl ⟨by rw [okPB_i]; omega, rfl⟩⟩)
    · refine tm_aload_n 0 hC dX6_earliest_21 rfl rfl ?_
      refine tm_iload_n 1 hC dX6_earliest_22 rfl rfl ?_
      refine tm_iload_n 2 hC dX6_earliest_23 rfl rfl ?_
      refine tm_callV (b := 0) (n := 0) (rest := []) hC (c_M_earliestOn (tm_g x) hst w1 ρ 0 sf se σ hM_w1 hw p (by omega) b (by omega)) k_X6_121 (by rw [hB.2.2.1]; exact ⟨Nat.le_of_ble_eq_true rfl, Nat.le_of_ble_eq_true rfl⟩) rfl (tm_rec2 hC hw1_ρ_0 rfl) rfl (by decide) dX6_earliest_24 (fun v_24 w_24 hp_24 => ?_)
      obtain ⟨rfl, r_24, rfl, he_24, heb_24⟩ := hp_24
      show tm_V x (tm_H x w1) 0 0 27 [(0, .ref (ρ 0)), (1, .int (I (p))), (2, .int (I (b)))] [.int (I (r_24))]
      refine tm_goto 35 hC dX6_earliest_27 (by decide) ?_
      exact tm_iret hC hR dX6_earliest_35 (⟨0, sf, se, r_24, hM_w1, rfl, Or.inr ⟨by rw [okPB_i]; omega, rfl, he_24⟩⟩)
