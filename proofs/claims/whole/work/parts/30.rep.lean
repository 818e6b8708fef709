/-! The class's own objects hold the state σ: κ names their addresses. -/
abbrev KP : Type := (Nat × Nat × Nat × Nat × Nat × Nat) × (Int → Nat) × (Int → Nat) × (Int → Nat) × (Int → Nat) × (Int → Nat) × (Int → Nat) × (Int → List Int) × (Int → List Int) × List Int × List Nat × List Int × (Int → Int)
def k_o (κ : KP) : Nat := κ.1.1
def k_lb (κ : KP) : Nat := κ.1.2.1
def k_lp (κ : KP) : Nat := κ.1.2.2.1
def k_lo (κ : KP) : Nat := κ.1.2.2.2.1
def k_lc (κ : KP) : Nat := κ.1.2.2.2.2.1
def k_ar (κ : KP) : Nat := κ.1.2.2.2.2.2
def k_bo (κ : KP) : Int → Nat := κ.2.1
def k_bd (κ : KP) : Int → Nat := κ.2.2.1
def k_bp (κ : KP) : Int → Nat := κ.2.2.2.1
def k_pa (κ : KP) : Int → Nat := κ.2.2.2.2.1
def k_df (κ : KP) : Int → Nat := κ.2.2.2.2.2.1
def k_pc (κ : KP) : Int → Nat := κ.2.2.2.2.2.2.1
def k_ds (κ : KP) : Int → List Int := κ.2.2.2.2.2.2.2.1
def k_ks (κ : KP) : Int → List Int := κ.2.2.2.2.2.2.2.2.1
def k_or (κ : KP) : List Int := κ.2.2.2.2.2.2.2.2.2.1
def k_ca (κ : KP) : List Nat := κ.2.2.2.2.2.2.2.2.2.2.1
def k_cs (κ : KP) : List Int := κ.2.2.2.2.2.2.2.2.2.2.2.1
def k_sm (κ : KP) : Int → Int := κ.2.2.2.2.2.2.2.2.2.2.2.2
def ints (n : Int) : List Int := (List.range n.toNat).map (fun i : Nat => (i : Int))
theorem ints_len {n : Int} (h : 0 ≤ n) : ((ints n).length : Int) = n := by
  unfold ints; rw [List.length_map, List.length_range]; omega
theorem ints_at {n i : Int} (h : 0 ≤ i ∧ i < n) : (ints n)[i.toNat]? = some i := by
  unfold ints
  rw [List.getElem?_map, List.getElem?_range (by omega)]
  show some ((i.toNat : Nat) : Int) = some i
  rw [show ((i.toNat : Nat) : Int) = i by omega]
theorem ints_mem {n i : Int} : i ∈ ints n ↔ 0 ≤ i ∧ i < n := by
  unfold ints
  rw [List.mem_map]
  constructor
  · rintro ⟨j, hj, e⟩
    rw [List.mem_range] at hj
    omega
  · intro h
    exact ⟨i.toNat, List.mem_range.mpr (by omega), by omega⟩
theorem ints_s {n : Int} (h : 0 ≤ n) : ints (n + 1) = ints n ++ [n] := by
  unfold ints
  rw [show (n + 1).toNat = n.toNat + 1 by omega, List.range_succ, List.map_append]
  show _ ++ [((n.toNat : Nat) : Int)] = _
  rw [show ((n.toNat : Nat) : Int) = n by omega]
abbrev fB (κ : KP) (σ : ST) (b : Int) : List Value := [.int (I (s_wo σ (3 * b))), .int (I (s_wo σ (3 * b + 1))), .int (I (s_wo σ (3 * b + 2))), .ref (k_bd κ b), .ref (k_bp κ b)]
abbrev fP (σ : ST) (p : Int) : List Value := [.int (I p), .int (I (s_wa σ (4 * p + 0))), .int (I (s_wa σ (4 * p + 1))), .int (I (s_wa σ (4 * p + 2))), .int (I (s_mj σ p)), .int (I (s_wa σ (4 * p + 3)))]
abbrev fD (σ : ST) (d : Int) : List Value := [.int (I (s_fl σ (4 * d + 1))), .int (I (s_fl σ (4 * d + 2))), .int (I (s_fl σ (4 * d + 3)))]
abbrev fK (κ : KP) (σ : ST) (k : Int) : List Value := [.ref (k_pa κ (s_cu σ (4 * k + 3))), .ref (k_bo κ (s_cu σ (4 * k))), .int (I (s_cu σ (4 * k + 1))), .int (I (s_cu σ (4 * k + 2))), .int (I (s_aj σ k))]
abbrev fC (κ : KP) (σ : ST) (j : Int) : List Value := [.ref (k_pa κ (s_cu σ (4 * j + 3))), .ref (k_pc κ j), if s_aj σ j = 0 then .null else .ref (k_pc κ (j + 1))]
/-- the defects of a board, by their first places -/
def Dsr (σ : ST) (b : Int) (ds : List Int) : Prop := (∀ d, d ∈ ds ↔ (0 ≤ d ∧ d < s_nd σ) ∧ s_fl σ (4 * d) = b) ∧ (ds.length : Int) ≤ s_nd σ ∧ ∀ (i j : Nat) (d e : Int), i < j → ds[i]? = some d → ds[j]? = some e → s_fl σ (4 * d + 1) ≤ s_fl σ (4 * e + 1)
/-- the parts in the order of planning -/
def Ordd (σ : ST) (os : List Int) : Prop := (∀ p, p ∈ os ↔ 0 ≤ p ∧ p < s_np σ) ∧ (os.length : Int) = s_np σ ∧ ∀ (i j : Nat) (p q : Int), i < j → os[i]? = some p → os[j]? = some q → prec σ p q
def Apart (κ : KP) (σ : ST) : Prop :=
  (k_lb κ ≠ k_lp κ ∧ k_lb κ ≠ k_lo κ ∧ k_lb κ ≠ k_lc κ ∧ k_lp κ ≠ k_lo κ ∧ k_lp κ ≠ k_lc κ ∧ k_lo κ ≠ k_lc κ) ∧
  (∀ b, 0 ≤ b ∧ b < s_nb σ → (k_bd κ b ≠ k_lb κ ∧ k_bd κ b ≠ k_lp κ ∧ k_bd κ b ≠ k_lo κ ∧ k_bd κ b ≠ k_lc κ) ∧ (k_bp κ b ≠ k_lb κ ∧ k_bp κ b ≠ k_lp κ ∧ k_bp κ b ≠ k_lo κ ∧ k_bp κ b ≠ k_lc κ)) ∧
  (∀ b c, 0 ≤ b ∧ b < s_nb σ → 0 ≤ c ∧ c < s_nb σ → k_bd κ b ≠ k_bp κ c ∧ (k_bd κ b = k_bd κ c → b = c) ∧ (k_bp κ b = k_bp κ c → b = c) ∧ (k_bo κ b = k_bo κ c → b = c)) ∧
  (∀ p q, 0 ≤ p ∧ p < s_np σ → 0 ≤ q ∧ q < s_np σ → k_pa κ p = k_pa κ q → p = q) ∧
  (∀ i j, 0 ≤ i ∧ i < s_nm σ → 0 ≤ j ∧ j < s_nm σ → k_pc κ i = k_pc κ j → i = j)
def RC (T : ClassId × ClassId × ClassId × ClassId) (Λ : tmL) (κ : KP) (σ : ST) : Prop :=
  Λ (k_o κ) = some (.inl (.inr (6, [.ref (k_lb κ), .ref (k_lp κ), .ref (k_lo κ), .ref (k_lc κ), .ref (k_ar κ), .int (I (s_nd σ)), .int (I (s_sw σ)), .int (I (s_jt σ))]))) ∧
  (Λ (k_lb κ) = some (.inr ((ints (s_nb σ)).map (k_bo κ))) ∧ Λ (k_lp κ) = some (.inr ((ints (s_np σ)).map (k_pa κ))) ∧ Λ (k_lo κ) = some (.inr ((k_or κ).map (k_pa κ))) ∧ Λ (k_lc κ) = some (.inr (k_ca κ)) ∧ Λ (k_ar κ) = some (.inl (tm_ai T 3011 (k_sm κ)))) ∧
  (∀ b, 0 ≤ b ∧ b < s_nb σ → Λ (k_bo κ b) = some (.inl (.inr (1, fB κ σ b))) ∧ Λ (k_bd κ b) = some (.inr ((k_ds κ b).map (k_df κ))) ∧ Λ (k_bp κ b) = some (.inr ((k_ks κ b).map (k_pc κ))) ∧ Srt σ b (k_ks κ b) 0 ∧ Dsr σ b (k_ds κ b)) ∧
  (∀ p, 0 ≤ p ∧ p < s_np σ → Λ (k_pa κ p) = some (.inl (.inr (4, fP σ p)))) ∧
  (∀ d, 0 ≤ d ∧ d < s_nd σ → Λ (k_df κ d) = some (.inl (.inr (3, fD σ d)))) ∧
  (∀ k, 0 ≤ k ∧ k < s_nm σ → Λ (k_pc κ k) = some (.inl (.inr (5, fK κ σ k)))) ∧
  ((∃ m, m ≤ s_nm σ ∧ grp (s_aj σ) (s_cu σ) (k_cs κ) 0 m) ∧ (k_ca κ).length = (k_cs κ).length ∧ ∀ (i : Nat) (j : Int) (c : Nat), (k_cs κ)[i]? = some j → (k_ca κ)[i]? = some c → Λ c = some (.inl (.inr (2, fC κ σ j)))) ∧
  Ordd σ (k_or κ) ∧ Apart κ σ
section
variable {T : ClassId × ClassId × ClassId × ClassId} {Λ : tmL} {κ : KP} {σ : ST}
theorem rc_o (h : RC T Λ κ σ) : Λ (k_o κ) = some (.inl (.inr (6, [.ref (k_lb κ), .ref (k_lp κ), .ref (k_lo κ), .ref (k_lc κ), .ref (k_ar κ), .int (I (s_nd σ)), .int (I (s_sw σ)), .int (I (s_jt σ))]))) := h.1
theorem rc_lb (h : RC T Λ κ σ) : Λ (k_lb κ) = some (.inr ((ints (s_nb σ)).map (k_bo κ))) := h.2.1.1
theorem rc_lp (h : RC T Λ κ σ) : Λ (k_lp κ) = some (.inr ((ints (s_np σ)).map (k_pa κ))) := h.2.1.2.1
theorem rc_lo (h : RC T Λ κ σ) : Λ (k_lo κ) = some (.inr ((k_or κ).map (k_pa κ))) := h.2.1.2.2.1
theorem rc_lc (h : RC T Λ κ σ) : Λ (k_lc κ) = some (.inr (k_ca κ)) := h.2.1.2.2.2.1
theorem rc_ar (h : RC T Λ κ σ) : Λ (k_ar κ) = some (.inl (tm_ai T 3011 (k_sm κ))) := h.2.1.2.2.2.2
theorem rc_B (h : RC T Λ κ σ) (b : Int) (hb : 0 ≤ b ∧ b < s_nb σ) : Λ (k_bo κ b) = some (.inl (.inr (1, fB κ σ b))) := (h.2.2.1 b hb).1
theorem rc_bd (h : RC T Λ κ σ) (b : Int) (hb : 0 ≤ b ∧ b < s_nb σ) : Λ (k_bd κ b) = some (.inr ((k_ds κ b).map (k_df κ))) := (h.2.2.1 b hb).2.1
theorem rc_bp (h : RC T Λ κ σ) (b : Int) (hb : 0 ≤ b ∧ b < s_nb σ) : Λ (k_bp κ b) = some (.inr ((k_ks κ b).map (k_pc κ))) := (h.2.2.1 b hb).2.2.1
theorem rc_srt (h : RC T Λ κ σ) (b : Int) (hb : 0 ≤ b ∧ b < s_nb σ) : Srt σ b (k_ks κ b) 0 := (h.2.2.1 b hb).2.2.2.1
theorem rc_dsr (h : RC T Λ κ σ) (b : Int) (hb : 0 ≤ b ∧ b < s_nb σ) : Dsr σ b (k_ds κ b) := (h.2.2.1 b hb).2.2.2.2
theorem rc_P (h : RC T Λ κ σ) (p : Int) (hp : 0 ≤ p ∧ p < s_np σ) : Λ (k_pa κ p) = some (.inl (.inr (4, fP σ p))) := h.2.2.2.1 p hp
theorem rc_D (h : RC T Λ κ σ) (d : Int) (hd : 0 ≤ d ∧ d < s_nd σ) : Λ (k_df κ d) = some (.inl (.inr (3, fD σ d))) := h.2.2.2.2.1 d hd
theorem rc_K (h : RC T Λ κ σ) (k : Int) (hk : 0 ≤ k ∧ k < s_nm σ) : Λ (k_pc κ k) = some (.inl (.inr (5, fK κ σ k))) := h.2.2.2.2.2.1 k hk
theorem rc_ap (h : RC T Λ κ σ) : Apart κ σ := h.2.2.2.2.2.2.2.2
theorem rc_or (h : RC T Λ κ σ) : Ordd σ (k_or κ) := h.2.2.2.2.2.2.2.1
theorem rc_cu (h : RC T Λ κ σ) : (∃ m, m ≤ s_nm σ ∧ grp (s_aj σ) (s_cu σ) (k_cs κ) 0 m) ∧ (k_ca κ).length = (k_cs κ).length ∧ ∀ (i : Nat) (j : Int) (c : Nat), (k_cs κ)[i]? = some j → (k_ca κ)[i]? = some c → Λ c = some (.inl (.inr (2, fC κ σ j))) := h.2.2.2.2.2.2.1
theorem rc_dat (h : RC T Λ κ σ) (b : Int) (hb : 0 ≤ b ∧ b < s_nb σ) (i : Nat) (hi : (i : Int) < ((k_ds κ b).length : Int)) : ∃ d, ((k_ds κ b).map (k_df κ))[((i : Int)).toNat]? = some (k_df κ d) ∧ (k_ds κ b)[i]? = some d ∧ (0 ≤ d ∧ d < s_nd σ) ∧ s_fl σ (4 * d) = b := by
  have hl : i < (k_ds κ b).length := by omega
  refine ⟨(k_ds κ b)[i], ?_, List.getElem?_eq_getElem hl, ?_⟩
  · rw [show ((i : Int)).toNat = i from rfl, List.getElem?_map, List.getElem?_eq_getElem hl]; rfl
  · exact ((rc_dsr h b hb).1 _).mp (List.getElem_mem hl)
theorem rc_kat (h : RC T Λ κ σ) (hw : WF0 σ) (b : Int) (hb : 0 ≤ b ∧ b < s_nb σ) (i : Nat) (hi : (i : Int) < ((k_ks κ b).length : Int)) : ∃ k, ((k_ks κ b).map (k_pc κ))[((i : Int)).toNat]? = some (k_pc κ k) ∧ (k_ks κ b)[i]? = some k ∧ (0 ≤ k ∧ k < s_nm σ) ∧ s_cu σ (4 * k) = b := by
  have hl : i < (k_ks κ b).length := by omega
  refine ⟨(k_ks κ b)[i], ?_, List.getElem?_eq_getElem hl, ?_⟩
  · rw [show ((i : Int)).toNat = i from rfl, List.getElem?_map, List.getElem?_eq_getElem hl]; rfl
  · exact Srt_mem hw _ 0 (rc_srt h b hb) i _ (List.getElem?_eq_getElem hl)
theorem rc_oat (h : RC T Λ κ σ) (i : Nat) (hi : (i : Int) < ((k_or κ).length : Int)) : ∃ p, ((k_or κ).map (k_pa κ))[((i : Int)).toNat]? = some (k_pa κ p) ∧ (k_or κ)[i]? = some p ∧ (0 ≤ p ∧ p < s_np σ) := by
  have hl : i < (k_or κ).length := by omega
  refine ⟨(k_or κ)[i], ?_, List.getElem?_eq_getElem hl, ?_⟩
  · rw [show ((i : Int)).toNat = i from rfl, List.getElem?_map, List.getElem?_eq_getElem hl]; rfl
  · exact ((rc_or h).1 _).mp (List.getElem_mem hl)
theorem rc_bat (b : Int) (hb : 0 ≤ b ∧ b < s_nb σ) : ((ints (s_nb σ)).map (k_bo κ))[b.toNat]? = some (k_bo κ b) := by
  rw [List.getElem?_map, ints_at hb]; rfl
theorem rc_pat (p : Int) (hp : 0 ≤ p ∧ p < s_np σ) : ((ints (s_np σ)).map (k_pa κ))[p.toNat]? = some (k_pa κ p) := by
  rw [List.getElem?_map, ints_at hp]; rfl
theorem len_m {α β : Type} (f : α → β) (l : List α) : ((l.map f).length : Int) = (l.length : Int) := by rw [List.length_map]
theorem len_b (hw : WF0 σ) : (((ints (s_nb σ)).map (k_bo κ)).length : Int) = s_nb σ := by rw [List.length_map]; exact ints_len (wf_n hw).1
theorem len_p (hw : WF0 σ) : (((ints (s_np σ)).map (k_pa κ)).length : Int) = s_np σ := by rw [List.length_map]; exact ints_len (wf_n hw).2.2.2.2.1
theorem csum_le {b : Int} : ∀ n : Nat, csum σ b (fun _ => 1) n ≤ n := by
  intro n
  induction n with
  | zero => exact Int.le_refl _
  | succ n ih =>
    by_cases e : s_cu σ (4 * (n : Int)) = b
    · rw [csum_1 e]; omega
    · rw [csum_0 e]; omega
theorem Srt_ln (hw : WF0 σ) {b : Int} {ks : List Int} (h : Srt σ b ks 0) : (ks.length : Int) ≤ s_nm σ := by
  have hn := wf_n hw
  have h1 := csum_le (σ := σ) (b := b) (s_nm σ).toNat
  rw [csum_l hw _ h (by omega) (by omega), lsum_1] at h1
  omega
theorem rc_len (h : RC T Λ κ σ) (hw : WF0 σ) (b : Int) (hb : 0 ≤ b ∧ b < s_nb σ) : ((k_ks κ b).length : Int) ≤ 216 ∧ ((k_ds κ b).length : Int) ≤ 24 := by
  have h1 := Srt_ln hw (rc_srt h b hb)
  have h2 := (rc_dsr h b hb).2.1
  have h3 := wf_n hw
  omega
end
theorem c_Lsz (γ : tmG) (hst : γ.1.stackTraces = false) (Λ : tmL) (a : Nat) (xs : List Nat) (n : Int) (ha : Λ a = some (.inr xs)) (hn : (xs.length : Int) = n) : tm_Con γ (tm_h2 γ.2.1 γ.2.2.1 γ.2.2.2.1) M_Jx4a65c_size_8abf5 1 0 0 [.ref a] Λ (fun v w' => Λ = w' ∧ v = some (.int (I n))) := hn ▸ c_Lsize γ hst Λ a xs ha
/-- what holds of the first i of a list -/
def upto (l : List Int) (i : Nat) (P : Int → Prop) : Prop := ∀ (j : Nat) (d : Int), j < i → l[j]? = some d → P d
theorem upto_0 {l : List Int} {P : Int → Prop} : upto l 0 P := fun j d h => absurd h (Nat.not_lt_zero j)
theorem upto_s {l : List Int} {i : Nat} {P : Int → Prop} {d : Int} (h : upto l i P) (hd : l[i]? = some d) (hp : P d) : upto l (i + 1) P := by
  intro j e hj he
  by_cases q : j = i
  · subst q; rw [hd] at he; cases he; exact hp
  · exact h j e (by omega) he
theorem upto_m {l : List Int} {i : Nat} {P Q : Int → Prop} (h : upto l i P) (hq : ∀ d, P d → Q d) : upto l i Q := fun j d hj hd => hq d (h j d hj hd)
theorem upto_a {l : List Int} {i : Nat} {P : Int → Prop} (h : upto l i P) (hl : (l.length : Int) ≤ i) : ∀ d, d ∈ l → P d := by
  intro d hd
  obtain ⟨j, hj⟩ := List.getElem?_of_mem hd
  obtain ⟨h1, -⟩ := List.getElem?_eq_some_iff.mp hj
  exact h j d (by omega) hj
theorem Srt_all {σ : ST} (hw : WF0 σ) {b : Int} : ∀ (ks : List Int) (pl : Int), Srt σ b ks pl → ∀ k, 0 ≤ k ∧ k < s_nm σ → s_cu σ (4 * k) = b → pl ≤ s_cu σ (4 * k + 1) → k ∈ ks := by
  intro ks
  induction ks with
  | nil =>
    intro pl h k hk e1 e2
    rcases h with h | h
    · have := h.2 k hk e1; omega
    · omega
  | cons q r ih =>
    intro pl h k hk e1 e2
    have h0 := h.1
    rcases h.2.1 with g | ⟨g1, g2, g3, g4⟩
    · omega
    · by_cases e : k = q
      · rw [e]; exact List.mem_cons_self
      · have h1 := g4 k hk e1 e2
        have hn := wf_n hw
        have k1 := wf_k hw q g1
        have k2 := wf_k hw k hk
        refine List.mem_cons_of_mem _ (ih _ h.2.2 k hk e1 ?_)
        rcases Int.lt_trichotomy k q with z | z | z
        · have := wf_s hw k q (by omega) z (by omega) (by rw [e1, g2]); omega
        · exact absurd z e
        · have := wf_s hw q k (by omega) z (by omega) (by rw [e1, g2]); omega
theorem srt_in {σ : ST} (hw : WF0 σ) {b : Int} {ks : List Int} (h : Srt σ b ks 0) {k : Int} (hk : 0 ≤ k ∧ k < s_nm σ) (e : s_cu σ (4 * k) = b) : k ∈ ks := Srt_all hw ks 0 h k hk e (wf_k hw k hk).2.2.1
