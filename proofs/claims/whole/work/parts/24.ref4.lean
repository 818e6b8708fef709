def addB (σ : ST) (l w g : Int) : ST := mkS (s_nb σ + 1) (s_nd σ) (s_np σ) (s_sw σ) (s_jt σ) (s_nm σ) (tm_ui (tm_ui (tm_ui (s_wo σ) (3 * s_nb σ) l) (3 * s_nb σ + 1) w) (3 * s_nb σ + 2) g) (s_fl σ) (s_wa σ) (s_cu σ) (s_mj σ) (s_aj σ)
def addD (σ : ST) (b f t g : Int) : ST := mkS (s_nb σ) (s_nd σ + 1) (s_np σ) (s_sw σ) (s_jt σ) (s_nm σ) (s_wo σ) (tm_ui (tm_ui (tm_ui (tm_ui (s_fl σ) (4 * s_nd σ) b) (4 * s_nd σ + 1) f) (4 * s_nd σ + 2) t) (4 * s_nd σ + 3) g) (s_wa σ) (s_cu σ) (s_mj σ) (s_aj σ)
def addP (σ : ST) (l w g c j : Int) : ST := mkS (s_nb σ) (s_nd σ) (s_np σ + 1) (s_sw σ) (s_jt σ) (s_nm σ) (s_wo σ) (s_fl σ) (tm_ui (tm_ui (tm_ui (tm_ui (s_wa σ) (4 * s_np σ) l) (4 * s_np σ + 1) w) (4 * s_np σ + 2) g) (4 * s_np σ + 3) c) (s_cu σ) (tm_ui (s_mj σ) (s_np σ) j) (s_aj σ)
def addC (σ : ST) (p b pl len j : Int) : ST := mkS (s_nb σ) (s_nd σ) (s_np σ) (s_sw σ) (s_jt σ) (s_nm σ + 1) (s_wo σ) (s_fl σ) (s_wa σ) (tm_ui (tm_ui (tm_ui (tm_ui (s_cu σ) (4 * s_nm σ) b) (4 * s_nm σ + 1) pl) (4 * s_nm σ + 2) (pl + len)) (4 * s_nm σ + 3) p) (s_mj σ) (tm_ui (s_aj σ) (s_nm σ) j)
def less (σ : ST) (p : Int) : ST := mkS (s_nb σ) (s_nd σ) (s_np σ) (s_sw σ) (s_jt σ) (s_nm σ) (s_wo σ) (s_fl σ) (tm_ui (s_wa σ) (4 * p + 3) (s_wa σ (4 * p + 3) - 1)) (s_cu σ) (s_mj σ) (s_aj σ)
def more (σ : ST) (p : Int) : ST := mkS (s_nb σ) (s_nd σ) (s_np σ) (s_sw σ) (s_jt σ) (s_nm σ) (s_wo σ) (s_fl σ) (tm_ui (s_wa σ) (4 * p + 3) (s_wa σ (4 * p + 3) + 1)) (s_cu σ) (s_mj σ) (s_aj σ)
def setNm (σ : ST) (n : Int) : ST := mkS (s_nb σ) (s_nd σ) (s_np σ) (s_sw σ) (s_jt σ) n (s_wo σ) (s_fl σ) (s_wa σ) (s_cu σ) (s_mj σ) (s_aj σ)
def setSw (σ : ST) (n : Int) : ST := mkS (s_nb σ) (s_nd σ) (s_np σ) n (s_jt σ) (s_nm σ) (s_wo σ) (s_fl σ) (s_wa σ) (s_cu σ) (s_mj σ) (s_aj σ)
def setJt (σ : ST) (n : Int) : ST := mkS (s_nb σ) (s_nd σ) (s_np σ) (s_sw σ) n (s_nm σ) (s_wo σ) (s_fl σ) (s_wa σ) (s_cu σ) (s_mj σ) (s_aj σ)
/-- the same, but for what lies behind the last piece -/
def Eqv (σ σ' : ST) : Prop := (s_nb σ = s_nb σ' ∧ s_nd σ = s_nd σ' ∧ s_np σ = s_np σ' ∧ s_sw σ = s_sw σ' ∧ s_jt σ = s_jt σ' ∧ s_nm σ = s_nm σ') ∧ s_wo σ = s_wo σ' ∧ s_fl σ = s_fl σ' ∧ s_wa σ = s_wa σ' ∧ s_mj σ = s_mj σ' ∧ (∀ j, j < 4 * s_nm σ → s_cu σ j = s_cu σ' j) ∧ (∀ k, k < s_nm σ → s_aj σ k = s_aj σ' k)
theorem Eqv_r (σ : ST) : Eqv σ σ := ⟨⟨rfl, rfl, rfl, rfl, rfl, rfl⟩, rfl, rfl, rfl, rfl, fun _ _ => rfl, fun _ _ => rfl⟩
theorem Eqv_wf {σ σ' : ST} (h : Eqv σ σ') (hw : WF0 σ) : WF0 σ' := by
  obtain ⟨⟨e1, e2, e3, e4, e5, e6⟩, f1, f2, f3, f4, f5, f6⟩ := h
  obtain ⟨w1, w2, w3, w4, w5, w6⟩ := hw
  refine ⟨by rw [← e1, ← e2, ← e3, ← e4, ← e5, ← e6]; exact w1, by rw [← e1, ← f1]; exact w2, by rw [← e1, ← e2, ← f1, ← f2]; exact w3, by rw [← e3, ← f3, ← f4]; exact w4, fun k hk => ?_, fun i j h0 h1 h2 h3 => ?_⟩
  · rw [← e6] at hk
    rw [← e1, ← e3, ← f1, ← f5 (4 * k) (by omega), ← f5 (4 * k + 1) (by omega), ← f5 (4 * k + 2) (by omega), ← f5 (4 * k + 3) (by omega), ← f6 k (by omega)]
    exact w5 k hk
  · rw [← e6] at h2
    rw [← f5 (4 * i) (by omega), ← f5 (4 * j) (by omega)] at h3
    rw [← e4, ← f5 (4 * i + 1) (by omega), ← f5 (4 * j + 1) (by omega), ← f5 (4 * i + 2) (by omega), ← f5 (4 * j + 2) (by omega)]
    exact w6 i j h0 h1 h2 h3
theorem addC_old {σ : ST} {p b pl len j i : Int} (hi : i < 4 * s_nm σ) : s_cu (addC σ p b pl len j) i = s_cu σ i := by
  show tm_ui (tm_ui (tm_ui (tm_ui (s_cu σ) (4 * s_nm σ) b) (4 * s_nm σ + 1) pl) (4 * s_nm σ + 2) (pl + len)) (4 * s_nm σ + 3) p i = _
  rw [tm_ui_n (by omega), tm_ui_n (by omega), tm_ui_n (by omega), tm_ui_n (by omega)]
theorem addC_n {σ : ST} {p b pl len j : Int} : s_cu (addC σ p b pl len j) (4 * s_nm σ) = b ∧ s_cu (addC σ p b pl len j) (4 * s_nm σ + 1) = pl ∧ s_cu (addC σ p b pl len j) (4 * s_nm σ + 2) = pl + len ∧ s_cu (addC σ p b pl len j) (4 * s_nm σ + 3) = p := by
  refine ⟨?_, ?_, ?_, ?_⟩
  · show tm_ui (tm_ui (tm_ui (tm_ui (s_cu σ) (4 * s_nm σ) b) (4 * s_nm σ + 1) pl) (4 * s_nm σ + 2) (pl + len)) (4 * s_nm σ + 3) p _ = _
    rw [tm_ui_n (by omega), tm_ui_n (by omega), tm_ui_n (by omega), tm_ui_s]
  · show tm_ui (tm_ui (tm_ui (tm_ui (s_cu σ) (4 * s_nm σ) b) (4 * s_nm σ + 1) pl) (4 * s_nm σ + 2) (pl + len)) (4 * s_nm σ + 3) p _ = _
    rw [tm_ui_n (by omega), tm_ui_n (by omega), tm_ui_s]
  · show tm_ui (tm_ui (tm_ui (tm_ui (s_cu σ) (4 * s_nm σ) b) (4 * s_nm σ + 1) pl) (4 * s_nm σ + 2) (pl + len)) (4 * s_nm σ + 3) p _ = _
    rw [tm_ui_n (by omega), tm_ui_s]
  · show tm_ui (tm_ui (tm_ui (tm_ui (s_cu σ) (4 * s_nm σ) b) (4 * s_nm σ + 1) pl) (4 * s_nm σ + 2) (pl + len)) (4 * s_nm σ + 3) p _ = _
    rw [tm_ui_s]
theorem addC_a {σ : ST} {p b pl len j k : Int} (hk : k < s_nm σ) : s_aj (addC σ p b pl len j) k = s_aj σ k := tm_ui_n (by omega)
theorem addC_an {σ : ST} {p b pl len j : Int} : s_aj (addC σ p b pl len j) (s_nm σ) = j := tm_ui_s
theorem addC_wf {σ : ST} {p b pl len j : Int} (hw : WF0 σ) (hp : 0 ≤ p ∧ p < s_np σ) (hb : 0 ≤ b ∧ b < s_nb σ) (hl : 1 ≤ len) (hj : j = 0 ∨ j = 1) (hm : s_nm σ < 216) (hP : Poss σ p len b pl) : WF0 (addC σ p b pl len j) := by
  obtain ⟨n1, n2, n3, n4⟩ := addC_n (σ := σ) (p := p) (b := b) (pl := pl) (len := len) (j := j)
  have w1 := wf_n hw
  refine ⟨by show 0 ≤ s_nb σ ∧ s_nb σ ≤ 10 ∧ 0 ≤ s_nd σ ∧ s_nd σ ≤ 24 ∧ 0 ≤ s_np σ ∧ s_np σ ≤ 12 ∧ 0 ≤ s_sw σ ∧ s_sw σ ≤ 10 ∧ 0 ≤ s_jt σ ∧ s_jt σ ≤ 50 ∧ 0 ≤ s_nm σ + 1 ∧ s_nm σ + 1 ≤ 216; omega, hw.2.1, hw.2.2.1, hw.2.2.2.1, fun k hk => ?_, fun i i2 h0 h1 h2 h3 => ?_⟩
  · have hk : 0 ≤ k ∧ k < s_nm σ + 1 := hk
    show 0 ≤ s_cu (addC σ p b pl len j) (4 * k) ∧ s_cu (addC σ p b pl len j) (4 * k) < s_nb σ ∧ 0 ≤ s_cu (addC σ p b pl len j) (4 * k + 1) ∧ s_cu (addC σ p b pl len j) (4 * k + 1) < s_cu (addC σ p b pl len j) (4 * k + 2) ∧ s_cu (addC σ p b pl len j) (4 * k + 2) ≤ s_wo σ (3 * s_cu (addC σ p b pl len j) (4 * k)) ∧ 0 ≤ s_cu (addC σ p b pl len j) (4 * k + 3) ∧ s_cu (addC σ p b pl len j) (4 * k + 3) < s_np σ ∧ (s_aj (addC σ p b pl len j) k = 0 ∨ s_aj (addC σ p b pl len j) k = 1)
    by_cases e : k = s_nm σ
    · subst e
      rw [n1, n2, n3, n4, addC_an]
      have := hP.1; have := hP.2.1
      omega
    · rw [addC_old (by omega), addC_old (by omega), addC_old (by omega), addC_old (by omega), addC_a (by omega)]
      exact hw.2.2.2.2.1 k (by omega)
  · have h2 : i2 < s_nm σ + 1 := h2
    show s_cu (addC σ p b pl len j) (4 * i + 2) + s_sw σ ≤ s_cu (addC σ p b pl len j) (4 * i2 + 1) ∨ s_cu (addC σ p b pl len j) (4 * i2 + 2) + s_sw σ ≤ s_cu (addC σ p b pl len j) (4 * i + 1)
    by_cases e : i2 = s_nm σ
    · subst e
      rw [n1, addC_old (by omega)] at h3
      rw [n2, n3, addC_old (by omega), addC_old (by omega)]
      have := hP.2.2.2.2.2 i (by omega) h3
      omega
    · rw [addC_old (by omega), addC_old (by omega)] at h3
      rw [addC_old (by omega), addC_old (by omega), addC_old (by omega), addC_old (by omega)]
      exact hw.2.2.2.2.2 i i2 h0 h1 (by omega) h3
theorem unC_eqv {σ : ST} {p b pl len j : Int} : Eqv σ (setNm (addC σ p b pl len j) (s_nm (addC σ p b pl len j) - 1)) := by
  refine ⟨⟨rfl, rfl, rfl, rfl, rfl, ?_⟩, rfl, rfl, rfl, rfl, fun i hi => (addC_old hi).symm, fun k hk => (addC_a hk).symm⟩
  show s_nm σ = s_nm σ + 1 - 1
  omega
def okB (l w g : Int) : Prop := (100 ≤ l ∧ l ≤ 3000) ∧ (10 ≤ w ∧ w ≤ 400) ∧ 0 ≤ g ∧ g ≤ 3
def okP (l w g c : Int) : Prop := (20 ≤ l ∧ l ≤ 3000) ∧ (10 ≤ w ∧ w ≤ 400) ∧ (0 ≤ g ∧ g ≤ 3) ∧ 1 ≤ c ∧ c ≤ 9
def Sp_addBoard (σ : ST) (l w g k : Int) (σ' : ST) (r : Int) : Prop := (¬ okB l w g ∧ k = 1 ∧ σ' = σ) ∨ (okB l w g ∧ s_nb σ = 10 ∧ k = 2 ∧ σ' = σ) ∨ (okB l w g ∧ s_nb σ ≠ 10 ∧ k = 0 ∧ σ' = addB σ l w g ∧ r = s_nb σ)
def Sp_addPart (σ : ST) (l w g c j k : Int) (σ' : ST) (r : Int) : Prop := (¬ okP l w g c ∧ k = 1 ∧ σ' = σ) ∨ (okP l w g c ∧ s_np σ = 12 ∧ k = 2 ∧ σ' = σ) ∨ (okP l w g c ∧ s_np σ ≠ 12 ∧ k = 0 ∧ σ' = addP σ l w g c j ∧ r = s_np σ)
/-- a piece would not be possible with the defect -/
def spoil (σ : ST) (b f t g n : Int) : Prop := ∃ q, (0 ≤ q ∧ q < n) ∧ s_cu σ (4 * q) = b ∧ s_cu σ (4 * q + 1) < t ∧ f < s_cu σ (4 * q + 2) ∧ s_wa σ (4 * s_cu σ (4 * q + 3) + 2) < g
def okD (σ : ST) (b f t g : Int) : Prop := 0 ≤ f ∧ f < t ∧ t ≤ s_wo σ (3 * b) ∧ 1 ≤ g ∧ g ≤ 3
def Sp_addDefect (σ : ST) (b f t g k : Int) (σ' : ST) (r : Int) : Prop := (¬ (0 ≤ b ∧ b < s_nb σ) ∧ k = 1 ∧ σ' = σ) ∨ ((0 ≤ b ∧ b < s_nb σ) ∧ ¬ okD σ b f t g ∧ k = 2 ∧ σ' = σ) ∨ ((0 ≤ b ∧ b < s_nb σ) ∧ okD σ b f t g ∧ (s_nd σ = 24 ∨ spoil σ b f t g (s_nm σ)) ∧ k = 3 ∧ σ' = σ) ∨ ((0 ≤ b ∧ b < s_nb σ) ∧ okD σ b f t g ∧ s_nd σ ≠ 24 ∧ ¬ spoil σ b f t g (s_nm σ) ∧ k = 0 ∧ σ' = addD σ b f t g ∧ r = s_nd σ + 1)
def Sp_setSaw (σ : ST) (w k : Int) (σ' : ST) (r : Int) : Prop := (¬ (0 ≤ w ∧ w ≤ 10) ∧ k = 1 ∧ σ' = σ) ∨ ((0 ≤ w ∧ w ≤ 10) ∧ 0 < s_nm σ ∧ k = 2 ∧ σ' = σ) ∨ ((0 ≤ w ∧ w ≤ 10) ∧ ¬ 0 < s_nm σ ∧ k = 0 ∧ σ' = setSw σ w ∧ r = s_sw σ)
def Sp_setJoint (σ : ST) (w k : Int) (σ' : ST) (r : Int) : Prop := (¬ (0 ≤ w ∧ w ≤ 50) ∧ k = 1 ∧ σ' = σ) ∨ ((0 ≤ w ∧ w ≤ 50) ∧ k = 0 ∧ σ' = setJt σ w ∧ r = s_jt σ)
def Sp_left (σ : ST) (p k r : Int) : Prop := (¬ (0 ≤ p ∧ p < s_np σ) ∧ k = 1) ∨ ((0 ≤ p ∧ p < s_np σ) ∧ k = 0 ∧ r = s_wa σ (4 * p + 3))
def Sp_cut (σ : ST) (p b pl k : Int) (σ' : ST) (r : Int) : Prop := (¬ okPB σ p b ∧ k = 1 ∧ σ' = σ) ∨ (okPB σ p b ∧ (s_wa σ (4 * p + 3) = 0 ∨ ¬ Poss σ p (s_wa σ (4 * p + 0)) b pl) ∧ k = 2 ∧ σ' = σ) ∨ (okPB σ p b ∧ s_wa σ (4 * p + 3) ≠ 0 ∧ Poss σ p (s_wa σ (4 * p + 0)) b pl ∧ k = 0 ∧ σ' = less (addC σ p b pl (s_wa σ (4 * p + 0)) 0) p ∧ r = s_wa σ (4 * p + 3) - 1)
def okJ (σ : ST) (p a b : Int) : Prop := (0 ≤ p ∧ p < s_np σ) ∧ (0 ≤ a ∧ a < s_nb σ) ∧ 0 ≤ b ∧ b < s_nb σ
def oth (σ : ST) (p len : Int) : Int := s_wa σ (4 * p + 0) + s_jt σ - len
def Sp_join (σ : ST) (p a pa len b pb k : Int) (σ' : ST) (r : Int) : Prop := (¬ okJ σ p a b ∧ k = 1 ∧ σ' = σ) ∨ (okJ σ p a b ∧ ¬ (50 ≤ len ∧ 50 ≤ oth σ p len) ∧ k = 2 ∧ σ' = σ) ∨ (okJ σ p a b ∧ (50 ≤ len ∧ 50 ≤ oth σ p len) ∧ (s_wa σ (4 * p + 3) = 0 ∨ s_mj σ p = 0 ∨ ¬ Poss σ p len a pa ∨ ¬ Poss (addC σ p a pa len 1) p (oth σ p len) b pb) ∧ k = 3 ∧ Eqv σ σ') ∨
  (okJ σ p a b ∧ (50 ≤ len ∧ 50 ≤ oth σ p len) ∧ s_wa σ (4 * p + 3) ≠ 0 ∧ s_mj σ p ≠ 0 ∧ Poss σ p len a pa ∧ Poss (addC σ p a pa len 1) p (oth σ p len) b pb ∧ k = 0 ∧ σ' = less (addC (addC σ p a pa len 1) p b pb (oth σ p len) 1) p ∧ r = s_wa σ (4 * p + 3) - 1)
def Sp_undo (σ : ST) (k : Int) (σ' : ST) (r : Int) : Prop := (s_nm σ = 0 ∧ k = 1 ∧ σ' = σ) ∨ (s_nm σ ≠ 0 ∧ k = 0 ∧ r = s_cu σ (4 * (s_nm σ - 1) + 3) ∧ σ' = more (setNm σ (s_nm σ - (if s_aj σ (s_nm σ - 1) = 0 then 1 else 2))) r)
theorem okB_i {l w g : Int} : okB l w g ↔ (100 ≤ l ∧ l ≤ 3000) ∧ (10 ≤ w ∧ w ≤ 400) ∧ 0 ≤ g ∧ g ≤ 3 := Iff.rfl
theorem okP_i {l w g c : Int} : okP l w g c ↔ (20 ≤ l ∧ l ≤ 3000) ∧ (10 ≤ w ∧ w ≤ 400) ∧ (0 ≤ g ∧ g ≤ 3) ∧ 1 ≤ c ∧ c ≤ 9 := Iff.rfl
theorem okD_i {σ : ST} {b f t g : Int} : okD σ b f t g ↔ 0 ≤ f ∧ f < t ∧ t ≤ s_wo σ (3 * b) ∧ 1 ≤ g ∧ g ≤ 3 := Iff.rfl
theorem okJ_i {σ : ST} {p a b : Int} : okJ σ p a b ↔ (0 ≤ p ∧ p < s_np σ) ∧ (0 ≤ a ∧ a < s_nb σ) ∧ 0 ≤ b ∧ b < s_nb σ := Iff.rfl
theorem spoil_no {σ : ST} {b f t g n : Int} (h : ¬ spoil σ b f t g n) (hn : ¬ (s_cu σ (4 * n) = b ∧ s_cu σ (4 * n + 1) < t ∧ f < s_cu σ (4 * n + 2) ∧ s_wa σ (4 * s_cu σ (4 * n + 3) + 2) < g)) : ¬ spoil σ b f t g (n + 1) := by
  rintro ⟨q, hq, e1, e2, e3, e4⟩
  by_cases e : q = n
  · subst e; exact hn ⟨e1, e2, e3, e4⟩
  · exact h ⟨q, by omega, e1, e2, e3, e4⟩
theorem spoil_up {σ : ST} {b f t g n m : Int} (hm : n ≤ m) (h : spoil σ b f t g n) : spoil σ b f t g m := by
  obtain ⟨q, hq, e⟩ := h
  exact ⟨q, by omega, e⟩
theorem spoil_at {σ : ST} {b f t g n m : Int} (e1 : n ≤ m) (e2 : m ≤ n) (h : ¬ spoil σ b f t g n) : ¬ spoil σ b f t g m := fun z => h (spoil_up e2 z)

set_option maxHeartbeats 4000000 in
set_option maxRecDepth 100000 in
theorem c_M_setSaw (γ : tmG) (hst : γ.1.stackTraces = false) (Λ : tmL) (ρ : Nat → Nat) (th sf se : Int) (σ : ST) (hM : RM γ.2.2.1 Λ ρ th sf se σ) (hw : WF0 σ) (w : Int) (hr : (-2147483648 ≤ w ∧ w ≤ 2147483647)) : tm_Con γ (tm_h2 γ.2.1 γ.2.2.1 γ.2.2.2.1) M_X6_setSaw 4 0 0 [.ref (ρ 0), .int (I (w))] Λ (fun v w' => ∃ k sf' se' r σ', RM γ.2.2.1 w' ρ k sf' se' σ' ∧ v = some (.int (I r)) ∧ Sp_setSaw σ w k σ' r) := by
  refine tm_con hst (by decide) (Nat.le_of_ble_eq_true rfl) (fun x hB hR => ?_)
  have hg := hB.1
  subst hg
  have hC : tm_C x cX6_setSaw RX6 (some FieldType.int) := hB.2.2.2.1
  obtain ⟨hm0, hm1, hm2, hm3, hm4, hm5, hm6, hmd⟩ := id hM
  have hn := wf_n hw
  show tm_V x (tm_H x Λ) 0 0 0 [(0, .ref (ρ 0)), (1, .int (I (w)))] []
  refine tm_aload_n 0 hC dX6_setSaw_0 rfl rfl ?_
  refine tm_iconst hC dX6_setSaw_1 ?_
  refine tm_putf2 hC f_X6_36 hm0 (tt_7_0 _) (Nat.le_of_ble_eq_true rfl) dX6_setSaw_2 ?_
  obtain ⟨w1, hw2⟩ : ∃ z, z = tm_u2 Λ (ρ 0) (.inr (7, [.int (I (0)), .int (I (s_nb σ)), .ref (ρ 1), .int (I (s_nd σ)), .ref (ρ 2), .int (I (s_np σ)), .ref (ρ 3), .ref (ρ 4), .int (I (s_sw σ)), .int (I (s_jt σ)), .int (I (s_nm σ)), .ref (ρ 5), .ref (ρ 6), .int (I (sf)), .int (I (se))])) := ⟨_, rfl⟩
  show tm_V x (tm_H x (tm_u2 Λ (ρ 0) (.inr (7, [.int (I (0)), .int (I (s_nb σ)), .ref (ρ 1), .int (I (s_nd σ)), .ref (ρ 2), .int (I (s_np σ)), .ref (ρ 3), .ref (ρ 4), .int (I (s_sw σ)), .int (I (s_jt σ)), .int (I (s_nm σ)), .ref (ρ 5), .ref (ρ 6), .int (I (sf)), .int (I (se))])))) 0 0 5 [(0, .ref (ρ 0)), (1, .int (I (w)))] []
  rw [← hw2]
  have hw1_ρ_0 : w1 (ρ 0) = some (.inl (.inr (7, [.int (I (0)), .int (I (s_nb σ)), .ref (ρ 1), .int (I (s_nd σ)), .ref (ρ 2), .int (I (s_np σ)), .ref (ρ 3), .ref (ρ 4), .int (I (s_sw σ)), .int (I (s_jt σ)), .int (I (s_nm σ)), .ref (ρ 5), .ref (ρ 6), .int (I (sf)), .int (I (se))]))) := by rw [hw2]; first | done | exact tm_u2_s
  have hw1_ρ_1 := (show w1 (ρ 1) = _ by rw [hw2]; exact tm_u2_n (fun z => absurd (hm0.symm.trans (z ▸ hm1)) (by intro q; cases q))).trans hm1
  have hw1_ρ_2 := (show w1 (ρ 2) = _ by rw [hw2]; exact tm_u2_n (fun z => absurd (hm0.symm.trans (z ▸ hm2)) (by intro q; cases q))).trans hm2
  have hw1_ρ_3 := (show w1 (ρ 3) = _ by rw [hw2]; exact tm_u2_n (fun z => absurd (hm0.symm.trans (z ▸ hm3)) (by intro q; cases q))).trans hm3
  have hw1_ρ_4 := (show w1 (ρ 4) = _ by rw [hw2]; exact tm_u2_n (fun z => absurd (hm0.symm.trans (z ▸ hm4)) (by intro q; cases q))).trans hm4
  have hw1_ρ_5 := (show w1 (ρ 5) = _ by rw [hw2]; exact tm_u2_n (fun z => absurd (hm0.symm.trans (z ▸ hm5)) (by intro q; cases q))).trans hm5
  have hw1_ρ_6 := (show w1 (ρ 6) = _ by rw [hw2]; exact tm_u2_n (fun z => absurd (hm0.symm.trans (z ▸ hm6)) (by intro q; cases q))).trans hm6
  have hM_w1 : RM (tm_T x) w1 ρ 0 sf se σ := ⟨hw1_ρ_0, hw1_ρ_1, hw1_ρ_2, hw1_ρ_3, hw1_ρ_4, hw1_ρ_5, hw1_ρ_6, hmd⟩
  refine tm_iload_n 1 hC dX6_setSaw_5 rfl rfl ?_
  refine tm_iconst hC dX6_setSaw_6 ?_
  refine tm_bipush hC dX6_setSaw_7 rfl ?_
  refine tm_callS (b := 0) (n := 0) (rest := []) hC (c_M_isIn (tm_g x) hst _ w1 w 0 10 (by omega)) k_X6_42 (by rw [hB.2.2.1]; exact ⟨Nat.le_of_ble_eq_true rfl, Nat.le_of_ble_eq_true rfl⟩) rfl rfl (by decide) dX6_setSaw_9 (fun v_9 w_9 hp_9 => ?_)
  obtain ⟨rfl, rfl⟩ := hp_9
  show tm_V x (tm_H x w1) 0 0 12 [(0, .ref (ρ 0)), (1, .int (I (w)))] [.int (I (bi (0 ≤ w ∧ w ≤ 10)))]
  refine tm_ifb_ne 21 hC dX6_setSaw_12 (by decide) (fun c_12 => ?_) (fun c_12 => ?_)
  · refine tm_aload_n 0 hC dX6_setSaw_21 rfl rfl ?_
    refine tm_getf2 hC f_X6_63 hw1_ρ_0 rfl dX6_setSaw_22 ?_
    refine tm_if_le 34 hC dX6_setSaw_25 (by decide) (by omega) (fun c_25 => ?_) (fun c_25 => ?_)
    · refine tm_aload_n 0 hC dX6_setSaw_34 rfl rfl ?_
      refine tm_getf2 hC f_X6_23 hw1_ρ_0 rfl dX6_setSaw_35 ?_
      refine tm_istore_n [(2, .int (I (s_sw σ))), (0, .ref (ρ 0)), (1, .int (I (w)))] hC dX6_setSaw_38 rfl (by rw [hB.2.1]; exact Nat.le_of_ble_eq_true rfl) rfl ?_
      refine tm_aload_n 1 hC dX6_setSaw_39 rfl rfl ?_
      refine tm_iload_n 2 hC dX6_setSaw_40 rfl rfl ?_
      refine tm_putf2 hC f_X6_23 hw1_ρ_0 (tt_7_8 _) (Nat.le_of_ble_eq_true rfl) dX6_setSaw_41 ?_
      obtain ⟨w3, hw4⟩ : ∃ z, z = tm_u2 w1 (ρ 0) (.inr (7, [.int (I (0)), .int (I (s_nb σ)), .ref (ρ 1), .int (I (s_nd σ)), .ref (ρ 2), .int (I (s_np σ)), .ref (ρ 3), .ref (ρ 4), .int (I (w)), .int (I (s_jt σ)), .int (I (s_nm σ)), .ref (ρ 5), .ref (ρ 6), .int (I (sf)), .int (I (se))])) := ⟨_, rfl⟩
      show tm_V x (tm_H x (tm_u2 w1 (ρ 0) (.inr (7, [.int (I (0)), .int (I (s_nb σ)), .ref (ρ 1), .int (I (s_nd σ)), .ref (ρ 2), .int (I (s_np σ)), .ref (ρ 3), .ref (ρ 4), .int (I (w)), .int (I (s_jt σ)), .int (I (s_nm σ)), .ref (ρ 5), .ref (ρ 6), .int (I (sf)), .int (I (se))])))) 0 0 44 [(2, .int (I (s_sw σ))), (0, .ref (ρ 0)), (1, .int (I (w)))] []
      rw [← hw4]
      have hw3_ρ_0 : w3 (ρ 0) = some (.inl (.inr (7, [.int (I (0)), .int (I (s_nb σ)), .ref (ρ 1), .int (I (s_nd σ)), .ref (ρ 2), .int (I (s_np σ)), .ref (ρ 3), .ref (ρ 4), .int (I (w)), .int (I (s_jt σ)), .int (I (s_nm σ)), .ref (ρ 5), .ref (ρ 6), .int (I (sf)), .int (I (se))]))) := by rw [hw4]; first | done | exact tm_u2_s
      have hw3_ρ_1 := (show w3 (ρ 1) = _ by rw [hw4]; exact tm_u2_n (fun z => absurd (hw1_ρ_0.symm.trans (z ▸ hw1_ρ_1)) (by intro q; cases q))).trans hw1_ρ_1
      have hw3_ρ_2 := (show w3 (ρ 2) = _ by rw [hw4]; exact tm_u2_n (fun z => absurd (hw1_ρ_0.symm.trans (z ▸ hw1_ρ_2)) (by intro q; cases q))).trans hw1_ρ_2
      have hw3_ρ_3 := (show w3 (ρ 3) = _ by rw [hw4]; exact tm_u2_n (fun z => absurd (hw1_ρ_0.symm.trans (z ▸ hw1_ρ_3)) (by intro q; cases q))).trans hw1_ρ_3
      have hw3_ρ_4 := (show w3 (ρ 4) = _ by rw [hw4]; exact tm_u2_n (fun z => absurd (hw1_ρ_0.symm.trans (z ▸ hw1_ρ_4)) (by intro q; cases q))).trans hw1_ρ_4
      have hw3_ρ_5 := (show w3 (ρ 5) = _ by rw [hw4]; exact tm_u2_n (fun z => absurd (hw1_ρ_0.symm.trans (z ▸ hw1_ρ_5)) (by intro q; cases q))).trans hw1_ρ_5
      have hw3_ρ_6 := (show w3 (ρ 6) = _ by rw [hw4]; exact tm_u2_n (fun z => absurd (hw1_ρ_0.symm.trans (z ▸ hw1_ρ_6)) (by intro q; cases q))).trans hw1_ρ_6
      refine tm_iload_n 0 hC dX6_setSaw_44 rfl rfl ?_
      exact tm_iret hC hR dX6_setSaw_45 (⟨0, sf, se, (s_sw σ), (setSw σ w), ⟨hw3_ρ_0, hw3_ρ_1, hw3_ρ_2, hw3_ρ_3, hw3_ρ_4, hw3_ρ_5, hw3_ρ_6, hmd⟩, rfl, Or.inr (Or.inr ⟨by omega, by omega, rfl, rfl, rfl⟩)⟩)
    · refine tm_aload_n 0 hC dX6_setSaw_28 rfl rfl ?_
      refine tm_iconst hC dX6_setSaw_29 ?_
      refine tm_callV (b := 0) (n := 0) (rest := []) hC (c_M_fail (tm_g x) hst w1 ρ 0 sf se σ hM_w1 hw 2) k_X6_49 (by rw [hB.2.2.1]; exact ⟨Nat.le_of_ble_eq_true rfl, Nat.le_of_ble_eq_true rfl⟩) rfl (tm_rec2 hC hw1_ρ_0 rfl) rfl (by decide) dX6_setSaw_30 (fun v_30 w_30 hp_30 => ?_)
      obtain ⟨hf_30, rfl⟩ := hp_30
      obtain ⟨hm0_30, hm1_30, hm2_30, hm3_30, hm4_30, hm5_30, hm6_30, -⟩ := id hf_30
      show tm_V x (tm_H x w_30) 0 0 33 [(0, .ref (ρ 0)), (1, .int (I (w)))] [.int (I (0))]
      exact tm_iret hC hR dX6_setSaw_33 (⟨2, sf, se, 0, σ, hf_30, rfl, Or.inr (Or.inl ⟨by omega, by omega, rfl, rfl⟩)⟩)
  · refine tm_aload_n 0 hC dX6_setSaw_15 rfl rfl ?_
    refine tm_iconst hC dX6_setSaw_16 ?_
    refine tm_callV (b := 0) (n := 0) (rest := []) hC (c_M_fail (tm_g x) hst w1 ρ 0 sf se σ hM_w1 hw 1) k_X6_49 (by rw [hB.2.2.1]; exact ⟨Nat.le_of_ble_eq_true rfl, Nat.le_of_ble_eq_true rfl⟩) rfl (tm_rec2 hC hw1_ρ_0 rfl) rfl (by decide) dX6_setSaw_17 (fun v_17 w_17 hp_17 => ?_)
    obtain ⟨hf_17, rfl⟩ := hp_17
    obtain ⟨hm0_17, hm1_17, hm2_17, hm3_17, hm4_17, hm5_17, hm6_17, -⟩ := id hf_17
    show tm_V x (tm_H x w_17) 0 0 20 [(0, .ref (ρ 0)), (1, .int (I (w)))] [.int (I (0))]
    exact tm_iret hC hR dX6_setSaw_20 (⟨1, sf, se, 0, σ, hf_17, rfl, Or.inl ⟨by omega, rfl, rfl⟩⟩)

set_option maxHeartbeats 4000000 in
set_option maxRecDepth 100000 in
theorem c_M_setJoint (γ : tmG) (hst : γ.1.stackTraces = false) (Λ : tmL) (ρ : Nat → Nat) (th sf se : Int) (σ : ST) (hM : RM γ.2.2.1 Λ ρ th sf se σ) (hw : WF0 σ) (w : Int) (hr : (-2147483648 ≤ w ∧ w ≤ 2147483647)) : tm_Con γ (tm_h2 γ.2.1 γ.2.2.1 γ.2.2.2.1) M_X6_setJoint 4 0 0 [.ref (ρ 0), .int (I (w))] Λ (fun v w' => ∃ k sf' se' r σ', RM γ.2.2.1 w' ρ k sf' se' σ' ∧ v = some (.int (I r)) ∧ Sp_setJoint σ w k σ' r) := by
  refine tm_con hst (by decide) (Nat.le_of_ble_eq_true rfl) (fun x hB hR => ?_)
  have hg := hB.1
  subst hg
  have hC : tm_C x cX6_setJoint RX6 (some FieldType.int) := hB.2.2.2.1
  obtain ⟨hm0, hm1, hm2, hm3, hm4, hm5, hm6, hmd⟩ := id hM
  have hn := wf_n hw
  show tm_V x (tm_H x Λ) 0 0 0 [(0, .ref (ρ 0)), (1, .int (I (w)))] []
  refine tm_aload_n 0 hC dX6_setJoint_0 rfl rfl ?_
  refine tm_iconst hC dX6_setJoint_1 ?_
  refine tm_putf2 hC f_X6_36 hm0 (tt_7_0 _) (Nat.le_of_ble_eq_true rfl) dX6_setJoint_2 ?_
  obtain ⟨w1, hw2⟩ : ∃ z, z = tm_u2 Λ (ρ 0) (.inr (7, [.int (I (0)), .int (I (s_nb σ)), .ref (ρ 1), .int (I (s_nd σ)), .ref (ρ 2), .int (I (s_np σ)), .ref (ρ 3), .ref (ρ 4), .int (I (s_sw σ)), .int (I (s_jt σ)), .int (I (s_nm σ)), .ref (ρ 5), .ref (ρ 6), .int (I (sf)), .int (I (se))])) := ⟨_, rfl⟩
  show tm_V x (tm_H x (tm_u2 Λ (ρ 0) (.inr (7, [.int (I (0)), .int (I (s_nb σ)), .ref (ρ 1), .int (I (s_nd σ)), .ref (ρ 2), .int (I (s_np σ)), .ref (ρ 3), .ref (ρ 4), .int (I (s_sw σ)), .int (I (s_jt σ)), .int (I (s_nm σ)), .ref (ρ 5), .ref (ρ 6), .int (I (sf)), .int (I (se))])))) 0 0 5 [(0, .ref (ρ 0)), (1, .int (I (w)))] []
  rw [← hw2]
  have hw1_ρ_0 : w1 (ρ 0) = some (.inl (.inr (7, [.int (I (0)), .int (I (s_nb σ)), .ref (ρ 1), .int (I (s_nd σ)), .ref (ρ 2), .int (I (s_np σ)), .ref (ρ 3), .ref (ρ 4), .int (I (s_sw σ)), .int (I (s_jt σ)), .int (I (s_nm σ)), .ref (ρ 5), .ref (ρ 6), .int (I (sf)), .int (I (se))]))) := by rw [hw2]; first | done | exact tm_u2_s
  have hw1_ρ_1 := (show w1 (ρ 1) = _ by rw [hw2]; exact tm_u2_n (fun z => absurd (hm0.symm.trans (z ▸ hm1)) (by intro q; cases q))).trans hm1
  have hw1_ρ_2 := (show w1 (ρ 2) = _ by rw [hw2]; exact tm_u2_n (fun z => absurd (hm0.symm.trans (z ▸ hm2)) (by intro q; cases q))).trans hm2
  have hw1_ρ_3 := (show w1 (ρ 3) = _ by rw [hw2]; exact tm_u2_n (fun z => absurd (hm0.symm.trans (z ▸ hm3)) (by intro q; cases q))).trans hm3
  have hw1_ρ_4 := (show w1 (ρ 4) = _ by rw [hw2]; exact tm_u2_n (fun z => absurd (hm0.symm.trans (z ▸ hm4)) (by intro q; cases q))).trans hm4
  have hw1_ρ_5 := (show w1 (ρ 5) = _ by rw [hw2]; exact tm_u2_n (fun z => absurd (hm0.symm.trans (z ▸ hm5)) (by intro q; cases q))).trans hm5
  have hw1_ρ_6 := (show w1 (ρ 6) = _ by rw [hw2]; exact tm_u2_n (fun z => absurd (hm0.symm.trans (z ▸ hm6)) (by intro q; cases q))).trans hm6
  have hM_w1 : RM (tm_T x) w1 ρ 0 sf se σ := ⟨hw1_ρ_0, hw1_ρ_1, hw1_ρ_2, hw1_ρ_3, hw1_ρ_4, hw1_ρ_5, hw1_ρ_6, hmd⟩
  refine tm_iload_n 1 hC dX6_setJoint_5 rfl rfl ?_
  refine tm_iconst hC dX6_setJoint_6 ?_
  refine tm_bipush hC dX6_setJoint_7 rfl ?_
  refine tm_callS (b := 0) (n := 0) (rest := []) hC (c_M_isIn (tm_g x) hst _ w1 w 0 50 (by omega)) k_X6_42 (by rw [hB.2.2.1]; exact ⟨Nat.le_of_ble_eq_true rfl, Nat.le_of_ble_eq_true rfl⟩) rfl rfl (by decide) dX6_setJoint_9 (fun v_9 w_9 hp_9 => ?_)
  obtain ⟨rfl, rfl⟩ := hp_9
  show tm_V x (tm_H x w1) 0 0 12 [(0, .ref (ρ 0)), (1, .int (I (w)))] [.int (I (bi (0 ≤ w ∧ w ≤ 50)))]
  refine tm_ifb_ne 21 hC dX6_setJoint_12 (by decide) (fun c_12 => ?_) (fun c_12 => ?_)
  · refine tm_aload_n 0 hC dX6_setJoint_21 rfl rfl ?_
    refine tm_getf2 hC f_X6_27 hw1_ρ_0 rfl dX6_setJoint_22 ?_
    refine tm_istore_n [(2, .int (I (s_jt σ))), (0, .ref (ρ 0)), (1, .int (I (w)))] hC dX6_setJoint_25 rfl (by rw [hB.2.1]; exact Nat.le_of_ble_eq_true rfl) rfl ?_
    refine tm_aload_n 1 hC dX6_setJoint_26 rfl rfl ?_
    refine tm_iload_n 2 hC dX6_setJoint_27 rfl rfl ?_
    refine tm_putf2 hC f_X6_27 hw1_ρ_0 (tt_7_9 _) (Nat.le_of_ble_eq_true rfl) dX6_setJoint_28 ?_
    obtain ⟨w3, hw4⟩ : ∃ z, z = tm_u2 w1 (ρ 0) (.inr (7, [.int (I (0)), .int (I (s_nb σ)), .ref (ρ 1), .int (I (s_nd σ)), .ref (ρ 2), .int (I (s_np σ)), .ref (ρ 3), .ref (ρ 4), .int (I (s_sw σ)), .int (I (w)), .int (I (s_nm σ)), .ref (ρ 5), .ref (ρ 6), .int (I (sf)), .int (I (se))])) := ⟨_, rfl⟩
    show tm_V x (tm_H x (tm_u2 w1 (ρ 0) (.inr (7, [.int (I (0)), .int (I (s_nb σ)), .ref (ρ 1), .int (I (s_nd σ)), .ref (ρ 2), .int (I (s_np σ)), .ref (ρ 3), .ref (ρ 4), .int (I (s_sw σ)), .int (I (w)), .int (I (s_nm σ)), .ref (ρ 5), .ref (ρ 6), .int (I (sf)), .int (I (se))])))) 0 0 31 [(2, .int (I (s_jt σ))), (0, .ref (ρ 0)), (1, .int (I (w)))] []
    rw [← hw4]
    have hw3_ρ_0 : w3 (ρ 0) = some (.inl (.inr (7, [.int (I (0)), .int (I (s_nb σ)), .ref (ρ 1), .int (I (s_nd σ)), .ref (ρ 2), .int (I (s_np σ)), .ref (ρ 3), .ref (ρ 4), .int (I (s_sw σ)), .int (I (w)), .int (I (s_nm σ)), .ref (ρ 5), .ref (ρ 6), .int (I (sf)), .int (I (se))]))) := by rw [hw4]; first | done | exact tm_u2_s
    have hw3_ρ_1 := (show w3 (ρ 1) = _ by rw [hw4]; exact tm_u2_n (fun z => absurd (hw1_ρ_0.symm.trans (z ▸ hw1_ρ_1)) (by intro q; cases q))).trans hw1_ρ_1
    have hw3_ρ_2 := (show w3 (ρ 2) = _ by rw [hw4]; exact tm_u2_n (fun z => absurd (hw1_ρ_0.symm.trans (z ▸ hw1_ρ_2)) (by intro q; cases q))).trans hw1_ρ_2
    have hw3_ρ_3 := (show w3 (ρ 3) = _ by rw [hw4]; exact tm_u2_n (fun z => absurd (hw1_ρ_0.symm.trans (z ▸ hw1_ρ_3)) (by intro q; cases q))).trans hw1_ρ_3
    have hw3_ρ_4 := (show w3 (ρ 4) = _ by rw [hw4]; exact tm_u2_n (fun z => absurd (hw1_ρ_0.symm.trans (z ▸ hw1_ρ_4)) (by intro q; cases q))).trans hw1_ρ_4
    have hw3_ρ_5 := (show w3 (ρ 5) = _ by rw [hw4]; exact tm_u2_n (fun z => absurd (hw1_ρ_0.symm.trans (z ▸ hw1_ρ_5)) (by intro q; cases q))).trans hw1_ρ_5
    have hw3_ρ_6 := (show w3 (ρ 6) = _ by rw [hw4]; exact tm_u2_n (fun z => absurd (hw1_ρ_0.symm.trans (z ▸ hw1_ρ_6)) (by intro q; cases q))).trans hw1_ρ_6
    refine tm_iload_n 0 hC dX6_setJoint_31 rfl rfl ?_
    exact tm_iret hC hR dX6_setJoint_32 (⟨0, sf, se, (s_jt σ), (setJt σ w), ⟨hw3_ρ_0, hw3_ρ_1, hw3_ρ_2, hw3_ρ_3, hw3_ρ_4, hw3_ρ_5, hw3_ρ_6, hmd⟩, rfl, Or.inr ⟨by omega, rfl, rfl, rfl⟩⟩)
  · refine tm_aload_n 0 hC dX6_setJoint_15 rfl rfl ?_
    refine tm_iconst hC dX6_setJoint_16 ?_
    refine tm_callV (b := 0) (n := 0) (rest := []) hC (c_M_fail (tm_g x) hst w1 ρ 0 sf se σ hM_w1 hw 1) k_X6_49 (by rw [hB.2.2.1]; exact ⟨Nat.le_of_ble_eq_true rfl, Nat.le_of_ble_eq_true rfl⟩) rfl (tm_rec2 hC hw1_ρ_0 rfl) rfl (by decide) dX6_setJoint_17 (fun v_17 w_17 hp_17 => ?_)
    obtain ⟨hf_17, rfl⟩ := hp_17
    obtain ⟨hm0_17, hm1_17, hm2_17, hm3_17, hm4_17, hm5_17, hm6_17, -⟩ := id hf_17
    show tm_V x (tm_H x w_17) 0 0 20 [(0, .ref (ρ 0)), (1, .int (I (w)))] [.int (I (0))]
    exact tm_iret hC hR dX6_setJoint_20 (⟨1, sf, se, 0, σ, hf_17, rfl, Or.inl ⟨by omega, rfl, rfl⟩⟩)

set_option maxHeartbeats 4000000 in
set_option maxRecDepth 100000 in
theorem c_M_left (γ : tmG) (hst : γ.1.stackTraces = false) (Λ : tmL) (ρ : Nat → Nat) (th sf se : Int) (σ : ST) (hM : RM γ.2.2.1 Λ ρ th sf se σ) (hw : WF0 σ) (p : Int) (hr : (-2147483648 ≤ p ∧ p ≤ 2147483647)) : tm_Con γ (tm_h2 γ.2.1 γ.2.2.1 γ.2.2.2.1) M_X6_left 4 0 0 [.ref (ρ 0), .int (I (p))] Λ (fun v w' => ∃ k sf' se' r, RM γ.2.2.1 w' ρ k sf' se' σ ∧ v = some (.int (I r)) ∧ Sp_left σ p k r) := by
  refine tm_con hst (by decide) (Nat.le_of_ble_eq_true rfl) (fun x hB hR => ?_)
  have hg := hB.1
  subst hg
  have hC : tm_C x cX6_left RX6 (some FieldType.int) := hB.2.2.2.1
  obtain ⟨hm0, hm1, hm2, hm3, hm4, hm5, hm6, hmd⟩ := id hM
  have hn := wf_n hw
  show tm_V x (tm_H x Λ) 0 0 0 [(0, .ref (ρ 0)), (1, .int (I (p)))] []
  refine tm_aload_n 0 hC dX6_left_0 rfl rfl ?_
  refine tm_iconst hC dX6_left_1 ?_
  refine tm_putf2 hC f_X6_36 hm0 (tt_7_0 _) (Nat.le_of_ble_eq_true rfl) dX6_left_2 ?_
  obtain ⟨w1, hw2⟩ : ∃ z, z = tm_u2 Λ (ρ 0) (.inr (7, [.int (I (0)), .int (I (s_nb σ)), .ref (ρ 1), .int (I (s_nd σ)), .ref (ρ 2), .int (I (s_np σ)), .ref (ρ 3), .ref (ρ 4), .int (I (s_sw σ)), .int (I (s_jt σ)), .int (I (s_nm σ)), .ref (ρ 5), .ref (ρ 6), .int (I (sf)), .int (I (se))])) := ⟨_, rfl⟩
  show tm_V x (tm_H x (tm_u2 Λ (ρ 0) (.inr (7, [.int (I (0)), .int (I (s_nb σ)), .ref (ρ 1), .int (I (s_nd σ)), .ref (ρ 2), .int (I (s_np σ)), .ref (ρ 3), .ref (ρ 4), .int (I (s_sw σ)), .int (I (s_jt σ)), .int (I (s_nm σ)), .ref (ρ 5), .ref (ρ 6), .int (I (sf)), .int (I (se))])))) 0 0 5 [(0, .ref (ρ 0)), (1, .int (I (p)))] []
  rw [← hw2]
  have hw1_ρ_0 : w1 (ρ 0) = some (.inl (.inr (7, [.int (I (0)), .int (I (s_nb σ)), .ref (ρ 1), .int (I (s_nd σ)), .ref (ρ 2), .int (I (s_np σ)), .ref (ρ 3), .ref (ρ 4), .int (I (s_sw σ)), .int (I (s_jt σ)), .int (I (s_nm σ)), .ref (ρ 5), .ref (ρ 6), .int (I (sf)), .int (I (se))]))) := by rw [hw2]; first | done | exact tm_u2_s
  have hw1_ρ_1 := (show w1 (ρ 1) = _ by rw [hw2]; exact tm_u2_n (fun z => absurd (hm0.symm.trans (z ▸ hm1)) (by intro q; cases q))).trans hm1
  have hw1_ρ_2 := (show w1 (ρ 2) = _ by rw [hw2]; exact tm_u2_n (fun z => absurd (hm0.symm.trans (z ▸ hm2)) (by intro q; cases q))).trans hm2
  have hw1_ρ_3 := (show w1 (ρ 3) = _ by rw [hw2]; exact tm_u2_n (fun z => absurd (hm0.symm.trans (z ▸ hm3)) (by intro q; cases q))).trans hm3
  have hw1_ρ_4 := (show w1 (ρ 4) = _ by rw [hw2]; exact tm_u2_n (fun z => absurd (hm0.symm.trans (z ▸ hm4)) (by intro q; cases q))).trans hm4
  have hw1_ρ_5 := (show w1 (ρ 5) = _ by rw [hw2]; exact tm_u2_n (fun z => absurd (hm0.symm.trans (z ▸ hm5)) (by intro q; cases q))).trans hm5
  have hw1_ρ_6 := (show w1 (ρ 6) = _ by rw [hw2]; exact tm_u2_n (fun z => absurd (hm0.symm.trans (z ▸ hm6)) (by intro q; cases q))).trans hm6
  have hM_w1 : RM (tm_T x) w1 ρ 0 sf se σ := ⟨hw1_ρ_0, hw1_ρ_1, hw1_ρ_2, hw1_ρ_3, hw1_ρ_4, hw1_ρ_5, hw1_ρ_6, hmd⟩
  refine tm_aload_n 0 hC dX6_left_5 rfl rfl ?_
  refine tm_iload_n 1 hC dX6_left_6 rfl rfl ?_
  refine tm_callV (b := 0) (n := 0) (rest := []) hC (c_M_isPart (tm_g x) hst w1 ρ 0 sf se σ hM_w1 hw p (by omega) ) k_X6_114 (by rw [hB.2.2.1]; exact ⟨Nat.le_of_ble_eq_true rfl, Nat.le_of_ble_eq_true rfl⟩) rfl (tm_rec2 hC hw1_ρ_0 rfl) rfl (by decide) dX6_left_7 (fun v_7 w_7 hp_7 => ?_)
  obtain ⟨rfl, rfl⟩ := hp_7
  show tm_V x (tm_H x w1) 0 0 10 [(0, .ref (ρ 0)), (1, .int (I (p)))] [.int (I (bi (0 ≤ p ∧ p ≤ s_np σ - 1)))]
  refine tm_ifb_eq 22 hC dX6_left_10 (by decide) (fun c_10 => ?_) (fun c_10 => ?_)
  · refine tm_aload_n 0 hC dX6_left_22 rfl rfl ?_
    refine tm_iconst hC dX6_left_23 ?_
    refine tm_callV (b := 0) (n := 0) (rest := []) hC (c_M_fail (tm_g x) hst w1 ρ 0 sf se σ hM_w1 hw 1) k_X6_49 (by rw [hB.2.2.1]; exact ⟨Nat.le_of_ble_eq_true rfl, Nat.le_of_ble_eq_true rfl⟩) rfl (tm_rec2 hC hw1_ρ_0 rfl) rfl (by decide) dX6_left_24 (fun v_24 w_24 hp_24 => ?_)
    obtain ⟨hf_24, rfl⟩ := hp_24
    obtain ⟨hm0_24, hm1_24, hm2_24, hm3_24, hm4_24, hm5_24, hm6_24, -⟩ := id hf_24
    show tm_V x (tm_H x w_24) 0 0 27 [(0, .ref (ρ 0)), (1, .int (I (p)))] [.int (I (0))]
    exact tm_iret hC hR dX6_left_27 (⟨1, sf, se, 0, hf_24, rfl, Or.inl ⟨by omega, rfl⟩⟩)
  · refine tm_aload_n 0 hC dX6_left_13 rfl rfl ?_
    refine tm_iload_n 1 hC dX6_left_14 rfl rfl ?_
    refine tm_iconst hC dX6_left_15 ?_
    refine tm_callV (b := 0) (n := 0) (rest := []) hC (c_M_want (tm_g x) hst w1 ρ 0 sf se σ hM_w1 hw p (by omega) 3 (by omega) ) k_X6_79 (by rw [hB.2.2.1]; exact ⟨Nat.le_of_ble_eq_true rfl, Nat.le_of_ble_eq_true rfl⟩) rfl (tm_rec2 hC hw1_ρ_0 rfl) rfl (by decide) dX6_left_16 (fun v_16 w_16 hp_16 => ?_)
    obtain ⟨rfl, rfl, hb_16⟩ := hp_16
    show tm_V x (tm_H x w1) 0 0 19 [(0, .ref (ρ 0)), (1, .int (I (p)))] [.int (I (s_wa σ (4 * p + 3)))]
    refine tm_goto 27 hC dX6_left_19 (by decide) ?_
    exact tm_iret hC hR dX6_left_27 (⟨0, sf, se, (s_wa σ (4 * p + 3)), hM_w1, rfl, Or.inr ⟨by omega, rfl, rfl⟩⟩)

set_option maxHeartbeats 4000000 in
set_option maxRecDepth 100000 in
theorem c_M_addBoard (γ : tmG) (hst : γ.1.stackTraces = false) (Λ : tmL) (ρ : Nat → Nat) (th sf se : Int) (σ : ST) (hM : RM γ.2.2.1 Λ ρ th sf se σ) (hw : WF0 σ) (l w g : Int) (hr : (-2147483648 ≤ l ∧ l ≤ 2147483647) ∧ (-2147483648 ≤ w ∧ w ≤ 2147483647) ∧ (-2147483648 ≤ g ∧ g ≤ 2147483647)) : tm_Con γ (tm_h2 γ.2.1 γ.2.2.1 γ.2.2.2.1) M_X6_addBoard 4 0 0 [.ref (ρ 0), .int (I (l)), .int (I (w)), .int (I (g))] Λ (fun v w' => ∃ k sf' se' r σ', RM γ.2.2.1 w' ρ k sf' se' σ' ∧ v = some (.int (I r)) ∧ Sp_addBoard σ l w g k σ' r) := by
  refine tm_con hst (by decide) (Nat.le_of_ble_eq_true rfl) (fun x hB hR => ?_)
  have hg := hB.1
  subst hg
  have hC : tm_C x cX6_addBoard RX6 (some FieldType.int) := hB.2.2.2.1
  obtain ⟨hm0, hm1, hm2, hm3, hm4, hm5, hm6, hmd⟩ := id hM
  have hn := wf_n hw
  show tm_V x (tm_H x Λ) 0 0 0 [(0, .ref (ρ 0)), (1, .int (I (l))), (2, .int (I (w))), (3, .int (I (g)))] []
  refine tm_aload_n 0 hC dX6_addBoard_0 rfl rfl ?_
  refine tm_iconst hC dX6_addBoard_1 ?_
  refine tm_putf2 hC f_X6_36 hm0 (tt_7_0 _) (Nat.le_of_ble_eq_true rfl) dX6_addBoard_2 ?_
  obtain ⟨w1, hw2⟩ : ∃ z, z = tm_u2 Λ (ρ 0) (.inr (7, [.int (I (0)), .int (I (s_nb σ)), .ref (ρ 1), .int (I (s_nd σ)), .ref (ρ 2), .int (I (s_np σ)), .ref (ρ 3), .ref (ρ 4), .int (I (s_sw σ)), .int (I (s_jt σ)), .int (I (s_nm σ)), .ref (ρ 5), .ref (ρ 6), .int (I (sf)), .int (I (se))])) := ⟨_, rfl⟩
  show tm_V x (tm_H x (tm_u2 Λ (ρ 0) (.inr (7, [.int (I (0)), .int (I (s_nb σ)), .ref (ρ 1), .int (I (s_nd σ)), .ref (ρ 2), .int (I (s_np σ)), .ref (ρ 3), .ref (ρ 4), .int (I (s_sw σ)), .int (I (s_jt σ)), .int (I (s_nm σ)), .ref (ρ 5), .ref (ρ 6), .int (I (sf)), .int (I (se))])))) 0 0 5 [(0, .ref (ρ 0)), (1, .int (I (l))), (2, .int (I (w))), (3, .int (I (g)))] []
  rw [← hw2]
  have hw1_ρ_0 : w1 (ρ 0) = some (.inl (.inr (7, [.int (I (0)), .int (I (s_nb σ)), .ref (ρ 1), .int (I (s_nd σ)), .ref (ρ 2), .int (I (s_np σ)), .ref (ρ 3), .ref (ρ 4), .int (I (s_sw σ)), .int (I (s_jt σ)), .int (I (s_nm σ)), .ref (ρ 5), .ref (ρ 6), .int (I (sf)), .int (I (se))]))) := by rw [hw2]; first | done | exact tm_u2_s
  have hw1_ρ_1 := (show w1 (ρ 1) = _ by rw [hw2]; exact tm_u2_n (fun z => absurd (hm0.symm.trans (z ▸ hm1)) (by intro q; cases q))).trans hm1
  have hw1_ρ_2 := (show w1 (ρ 2) = _ by rw [hw2]; exact tm_u2_n (fun z => absurd (hm0.symm.trans (z ▸ hm2)) (by intro q; cases q))).trans hm2
  have hw1_ρ_3 := (show w1 (ρ 3) = _ by rw [hw2]; exact tm_u2_n (fun z => absurd (hm0.symm.trans (z ▸ hm3)) (by intro q; cases q))).trans hm3
  have hw1_ρ_4 := (show w1 (ρ 4) = _ by rw [hw2]; exact tm_u2_n (fun z => absurd (hm0.symm.trans (z ▸ hm4)) (by intro q; cases q))).trans hm4
  have hw1_ρ_5 := (show w1 (ρ 5) = _ by rw [hw2]; exact tm_u2_n (fun z => absurd (hm0.symm.trans (z ▸ hm5)) (by intro q; cases q))).trans hm5
  have hw1_ρ_6 := (show w1 (ρ 6) = _ by rw [hw2]; exact tm_u2_n (fun z => absurd (hm0.symm.trans (z ▸ hm6)) (by intro q; cases q))).trans hm6
  have hM_w1 : RM (tm_T x) w1 ρ 0 sf se σ := ⟨hw1_ρ_0, hw1_ρ_1, hw1_ρ_2, hw1_ρ_3, hw1_ρ_4, hw1_ρ_5, hw1_ρ_6, hmd⟩
  refine tm_iload_n 1 hC dX6_addBoard_5 rfl rfl ?_
  refine tm_bipush hC dX6_addBoard_6 rfl ?_
  refine tm_sipush hC dX6_addBoard_8 rfl ?_
  refine tm_callS (b := 0) (n := 0) (rest := []) hC (c_M_isIn (tm_g x) hst _ w1 l 100 3000 (by omega)) k_X6_42 (by rw [hB.2.2.1]; exact ⟨Nat.le_of_ble_eq_true rfl, Nat.le_of_ble_eq_true rfl⟩) rfl rfl (by decide) dX6_addBoard_11 (fun v_11 w_11 hp_11 => ?_)
  obtain ⟨rfl, rfl⟩ := hp_11
  show tm_V x (tm_H x w1) 0 0 14 [(0, .ref (ρ 0)), (1, .int (I (l))), (2, .int (I (w))), (3, .int (I (g)))] [.int (I (bi (100 ≤ l ∧ l ≤ 3000)))]
  refine tm_ifb_eq 38 hC dX6_addBoard_14 (by decide) (fun c_14 => ?_) (fun c_14 => ?_)
  · refine tm_aload_n 0 hC dX6_addBoard_38 rfl rfl ?_
    refine tm_iconst hC dX6_addBoard_39 ?_
    refine tm_callV (b := 0) (n := 0) (rest := []) hC (c_M_fail (tm_g x) hst w1 ρ 0 sf se σ hM_w1 hw 1) k_X6_49 (by rw [hB.2.2.1]; exact ⟨Nat.le_of_ble_eq_true rfl, Nat.le_of_ble_eq_true rfl⟩) rfl (tm_rec2 hC hw1_ρ_0 rfl) rfl (by decide) dX6_addBoard_40 (fun v_40 w_40 hp_40 => ?_)
    obtain ⟨hf_40, rfl⟩ := hp_40
    obtain ⟨hm0_40, hm1_40, hm2_40, hm3_40, hm4_40, hm5_40, hm6_40, -⟩ := id hf_40
    show tm_V x (tm_H x w_40) 0 0 43 [(0, .ref (ρ 0)), (1, .int (I (l))), (2, .int (I (w))), (3, .int (I (g)))] [.int (I (0))]
    exact tm_iret hC hR dX6_addBoard_43 (⟨1, sf, se, 0, σ, hf_40, rfl, Or.inl ⟨by rw [okB_i]; omega, rfl, rfl⟩⟩)
  · refine tm_iload_n 2 hC dX6_addBoard_17 rfl rfl ?_
    refine tm_bipush hC dX6_addBoard_18 rfl ?_
    refine tm_sipush hC dX6_addBoard_20 rfl ?_
    refine tm_callS (b := 0) (n := 0) (rest := []) hC (c_M_isIn (tm_g x) hst _ w1 w 10 400 (by omega)) k_X6_42 (by rw [hB.2.2.1]; exact ⟨Nat.le_of_ble_eq_true rfl, Nat.le_of_ble_eq_true rfl⟩) rfl rfl (by decide) dX6_addBoard_23 (fun v_23 w_23 hp_23 => ?_)
    obtain ⟨rfl, rfl⟩ := hp_23
    show tm_V x (tm_H x w1) 0 0 26 [(0, .ref (ρ 0)), (1, .int (I (l))), (2, .int (I (w))), (3, .int (I (g)))] [.int (I (bi (10 ≤ w ∧ w ≤ 400)))]
    refine tm_ifb_eq 38 hC dX6_addBoard_26 (by decide) (fun c_26 => ?_) (fun c_26 => ?_)
    · refine tm_aload_n 0 hC dX6_addBoard_38 rfl rfl ?_
      refine tm_iconst hC dX6_addBoard_39 ?_
      refine tm_callV (b := 0) (n := 0) (rest := []) hC (c_M_fail (tm_g x) hst w1 ρ 0 sf se σ hM_w1 hw 1) k_X6_49 (by rw [hB.2.2.1]; exact ⟨Nat.le_of_ble_eq_true rfl, Nat.le_of_ble_eq_true rfl⟩) rfl (tm_rec2 hC hw1_ρ_0 rfl) rfl (by decide) dX6_addBoard_40 (fun v_40 w_40 hp_40 => ?_)
      obtain ⟨hf_40, rfl⟩ := hp_40
      obtain ⟨hm0_40, hm1_40, hm2_40, hm3_40, hm4_40, hm5_40, hm6_40, -⟩ := id hf_40
      show tm_V x (tm_H x w_40) 0 0 43 [(0, .ref (ρ 0)), (1, .int (I (l))), (2, .int (I (w))), (3, .int (I (g)))] [.int (I (0))]
      exact tm_iret hC hR dX6_addBoard_43 (⟨1, sf, se, 0, σ, hf_40, rfl, Or.inl ⟨by rw [okB_i]; omega, rfl, rfl⟩⟩)
    · refine tm_iload_n 3 hC dX6_addBoard_29 rfl rfl ?_
      refine tm_iconst hC dX6_addBoard_30 ?_
      refine tm_iconst hC dX6_addBoard_31 ?_
      refine tm_callS (b := 0) (n := 0) (rest := []) hC (c_M_isIn (tm_g x) hst _ w1 g 0 3 (by omega)) k_X6_42 (by rw [hB.2.2.1]; exact ⟨Nat.le_of_ble_eq_true rfl, Nat.le_of_ble_eq_true rfl⟩) rfl rfl (by decide) dX6_addBoard_32 (fun v_32 w_32 hp_32 => ?_)
      obtain ⟨rfl, rfl⟩ := hp_32
      show tm_V x (tm_H x w1) 0 0 35 [(0, .ref (ρ 0)), (1, .int (I (l))), (2, .int (I (w))), (3, .int (I (g)))] [.int (I (bi (0 ≤ g ∧ g ≤ 3)))]
      refine tm_ifb_ne 44 hC dX6_addBoard_35 (by decide) (fun c_35 => ?_) (fun c_35 => ?_)
      · refine tm_aload_n 0 hC dX6_addBoard_44 rfl rfl ?_
        refine tm_getf2 hC f_X6_39 hw1_ρ_0 rfl dX6_addBoard_45 ?_
        refine tm_bipush hC dX6_addBoard_48 rfl ?_
        refine tm_icmp_ne 59 hC dX6_addBoard_50 (by decide) (by omega) (fun c_50 => ?_) (fun c_50 => ?_)
        · refine tm_aload_n 0 hC dX6_addBoard_59 rfl rfl ?_
          refine tm_getf2 hC f_X6_9 hw1_ρ_0 rfl dX6_addBoard_60 ?_
          refine tm_iconst hC dX6_addBoard_63 ?_
          refine tm_aload_n 0 hC dX6_addBoard_64 rfl rfl ?_
          refine tm_getf2 hC f_X6_39 hw1_ρ_0 rfl dX6_addBoard_65 ?_
          refine tm_imul hC dX6_addBoard_68 ?_
          refine tm_iload_n 1 hC dX6_addBoard_69 rfl rfl ?_
          refine tm_iast2 hC hw1_ρ_1 (by omega) dX6_addBoard_70 ?_
          obtain ⟨w3, hw4⟩ : ∃ z, z = tm_u2 w1 (ρ 1) (tm_ai (tm_T x) 30 (tm_ui (s_wo σ) (3 * (s_nb σ)) (l))) := ⟨_, rfl⟩
          show tm_V x (tm_H x (tm_u2 w1 (ρ 1) (tm_ai (tm_T x) 30 (tm_ui (s_wo σ) (3 * (s_nb σ)) (l))))) 0 0 71 [(0, .ref (ρ 0)), (1, .int (I (l))), (2, .int (I (w))), (3, .int (I (g)))] []
          rw [← hw4]
          have hw3_ρ_1 : w3 (ρ 1) = some (.inl (tm_ai (tm_T x) 30 (tm_ui (s_wo σ) (3 * (s_nb σ)) (l)))) := by rw [hw4]; first | done | exact tm_u2_s
          have hw3_ρ_0 := (show w3 (ρ 0) = _ by rw [hw4]; exact tm_u2_n (fun z => absurd (hw1_ρ_1.symm.trans (z ▸ hw1_ρ_0)) (by intro q; cases q))).trans hw1_ρ_0
          have hw3_ρ_2 := (show w3 (ρ 2) = _ by rw [hw4]; exact tm_u2_n (hmd 2 1 (by decide) (by decide) (by decide))).trans hw1_ρ_2
          have hw3_ρ_3 := (show w3 (ρ 3) = _ by rw [hw4]; exact tm_u2_n (hmd 3 1 (by decide) (by decide) (by decide))).trans hw1_ρ_3
          have hw3_ρ_4 := (show w3 (ρ 4) = _ by rw [hw4]; exact tm_u2_n (hmd 4 1 (by decide) (by decide) (by decide))).trans hw1_ρ_4
          have hw3_ρ_5 := (show w3 (ρ 5) = _ by rw [hw4]; exact tm_u2_n (hmd 5 1 (by decide) (by decide) (by decide))).trans hw1_ρ_5
          have hw3_ρ_6 := (show w3 (ρ 6) = _ by rw [hw4]; exact tm_u2_n (hmd 6 1 (by decide) (by decide) (by decide))).trans hw1_ρ_6
          refine tm_aload_n 0 hC dX6_addBoard_71 rfl rfl ?_
          refine tm_getf2 hC f_X6_9 hw3_ρ_0 rfl dX6_addBoard_72 ?_
          refine tm_iconst hC dX6_addBoard_75 ?_
          refine tm_aload_n 0 hC dX6_addBoard_76 rfl rfl ?_
          refine tm_getf2 hC f_X6_39 hw3_ρ_0 rfl dX6_addBoard_77 ?_
          refine tm_imul hC dX6_addBoard_80 ?_
          refine tm_iconst hC dX6_addBoard_81 ?_
          refine tm_iadd hC dX6_addBoard_82 ?_
          refine tm_iload_n 2 hC dX6_addBoard_83 rfl rfl ?_
          refine tm_iast2 hC hw3_ρ_1 (by omega) dX6_addBoard_84 ?_
          obtain ⟨w5, hw6⟩ : ∃ z, z = tm_u2 w3 (ρ 1) (tm_ai (tm_T x) 30 (tm_ui (tm_ui (s_wo σ) (3 * (s_nb σ)) (l)) ((3 * (s_nb σ)) + 1) (w))) := ⟨_, rfl⟩
          show tm_V x (tm_H x (tm_u2 w3 (ρ 1) (tm_ai (tm_T x) 30 (tm_ui (tm_ui (s_wo σ) (3 * (s_nb σ)) (l)) ((3 * (s_nb σ)) + 1) (w))))) 0 0 85 [(0, .ref (ρ 0)), (1, .int (I (l))), (2, .int (I (w))), (3, .int (I (g)))] []
          rw [← hw6]
          have hw5_ρ_1 : w5 (ρ 1) = some (.inl (tm_ai (tm_T x) 30 (tm_ui (tm_ui (s_wo σ) (3 * (s_nb σ)) (l)) ((3 * (s_nb σ)) + 1) (w)))) := by rw [hw6]; first | done | exact tm_u2_s
          have hw5_ρ_0 := (show w5 (ρ 0) = _ by rw [hw6]; exact tm_u2_n (fun z => absurd (hw3_ρ_1.symm.trans (z ▸ hw3_ρ_0)) (by intro q; cases q))).trans hw3_ρ_0
          have hw5_ρ_2 := (show w5 (ρ 2) = _ by rw [hw6]; exact tm_u2_n (hmd 2 1 (by decide) (by decide) (by decide))).trans hw3_ρ_2
          have hw5_ρ_3 := (show w5 (ρ 3) = _ by rw [hw6]; exact tm_u2_n (hmd 3 1 (by decide) (by decide) (by decide))).trans hw3_ρ_3
          have hw5_ρ_4 := (show w5 (ρ 4) = _ by rw [hw6]; exact tm_u2_n (hmd 4 1 (by decide) (by decide) (by decide))).trans hw3_ρ_4
          have hw5_ρ_5 := (show w5 (ρ 5) = _ by rw [hw6]; exact tm_u2_n (hmd 5 1 (by decide) (by decide) (by decide))).trans hw3_ρ_5
          have hw5_ρ_6 := (show w5 (ρ 6) = _ by rw [hw6]; exact tm_u2_n (hmd 6 1 (by decide) (by decide) (by decide))).trans hw3_ρ_6
          refine tm_aload_n 0 hC dX6_addBoard_85 rfl rfl ?_
          refine tm_getf2 hC f_X6_9 hw5_ρ_0 rfl dX6_addBoard_86 ?_
          refine tm_iconst hC dX6_addBoard_89 ?_
          refine tm_aload_n 0 hC dX6_addBoard_90 rfl rfl ?_
          refine tm_getf2 hC f_X6_39 hw5_ρ_0 rfl dX6_addBoard_91 ?_
          refine tm_imul hC dX6_addBoard_94 ?_
          refine tm_iconst hC dX6_addBoard_95 ?_
          refine tm_iadd hC dX6_addBoard_96 ?_
          refine tm_iload_n 3 hC dX6_addBoard_97 rfl rfl ?_
          refine tm_iast2 hC hw5_ρ_1 (by omega) dX6_addBoard_98 ?_
          obtain ⟨w7, hw8⟩ : ∃ z, z = tm_u2 w5 (ρ 1) (tm_ai (tm_T x) 30 (tm_ui (tm_ui (tm_ui (s_wo σ) (3 * (s_nb σ)) (l)) ((3 * (s_nb σ)) + 1) (w)) ((3 * (s_nb σ)) + 2) (g))) := ⟨_, rfl⟩
          show tm_V x (tm_H x (tm_u2 w5 (ρ 1) (tm_ai (tm_T x) 30 (tm_ui (tm_ui (tm_ui (s_wo σ) (3 * (s_nb σ)) (l)) ((3 * (s_nb σ)) + 1) (w)) ((3 * (s_nb σ)) + 2) (g))))) 0 0 99 [(0, .ref (ρ 0)), (1, .int (I (l))), (2, .int (I (w))), (3, .int (I (g)))] []
          rw [← hw8]
          have hw7_ρ_1 : w7 (ρ 1) = some (.inl (tm_ai (tm_T x) 30 (tm_ui (tm_ui (tm_ui (s_wo σ) (3 * (s_nb σ)) (l)) ((3 * (s_nb σ)) + 1) (w)) ((3 * (s_nb σ)) + 2) (g)))) := by rw [hw8]; first | done | exact tm_u2_s
          have hw7_ρ_0 := (show w7 (ρ 0) = _ by rw [hw8]; exact tm_u2_n (fun z => absurd (hw5_ρ_1.symm.trans (z ▸ hw5_ρ_0)) (by intro q; cases q))).trans hw5_ρ_0
          have hw7_ρ_2 := (show w7 (ρ 2) = _ by rw [hw8]; exact tm_u2_n (hmd 2 1 (by decide) (by decide) (by decide))).trans hw5_ρ_2
          have hw7_ρ_3 := (show w7 (ρ 3) = _ by rw [hw8]; exact tm_u2_n (hmd 3 1 (by decide) (by decide) (by decide))).trans hw5_ρ_3
          have hw7_ρ_4 := (show w7 (ρ 4) = _ by rw [hw8]; exact tm_u2_n (hmd 4 1 (by decide) (by decide) (by decide))).trans hw5_ρ_4
          have hw7_ρ_5 := (show w7 (ρ 5) = _ by rw [hw8]; exact tm_u2_n (hmd 5 1 (by decide) (by decide) (by decide))).trans hw5_ρ_5
          have hw7_ρ_6 := (show w7 (ρ 6) = _ by rw [hw8]; exact tm_u2_n (hmd 6 1 (by decide) (by decide) (by decide))).trans hw5_ρ_6
          refine tm_aload_n 0 hC dX6_addBoard_99 rfl rfl ?_
          refine tm_dup hC dX6_addBoard_100 rfl ?_
          refine tm_getf2 hC f_X6_39 hw7_ρ_0 rfl dX6_addBoard_101 ?_
          refine tm_iconst hC dX6_addBoard_104 ?_
          refine tm_iadd hC dX6_addBoard_105 ?_
          refine tm_putf2 hC f_X6_39 hw7_ρ_0 (tt_7_1 _) (Nat.le_of_ble_eq_true rfl) dX6_addBoard_106 ?_
          obtain ⟨w9, hw10⟩ : ∃ z, z = tm_u2 w7 (ρ 0) (.inr (7, [.int (I (0)), .int (I ((s_nb σ) + 1)), .ref (ρ 1), .int (I (s_nd σ)), .ref (ρ 2), .int (I (s_np σ)), .ref (ρ 3), .ref (ρ 4), .int (I (s_sw σ)), .int (I (s_jt σ)), .int (I (s_nm σ)), .ref (ρ 5), .ref (ρ 6), .int (I (sf)), .int (I (se))])) := ⟨_, rfl⟩
          show tm_V x (tm_H x (tm_u2 w7 (ρ 0) (.inr (7, [.int (I (0)), .int (I ((s_nb σ) + 1)), .ref (ρ 1), .int (I (s_nd σ)), .ref (ρ 2), .int (I (s_np σ)), .ref (ρ 3), .ref (ρ 4), .int (I (s_sw σ)), .int (I (s_jt σ)), .int (I (s_nm σ)), .ref (ρ 5), .ref (ρ 6), .int (I (sf)), .int (I (se))])))) 0 0 109 [(0, .ref (ρ 0)), (1, .int (I (l))), (2, .int (I (w))), (3, .int (I (g)))] []
          rw [← hw10]
          have hw9_ρ_0 : w9 (ρ 0) = some (.inl (.inr (7, [.int (I (0)), .int (I ((s_nb σ) + 1)), .ref (ρ 1), .int (I (s_nd σ)), .ref (ρ 2), .int (I (s_np σ)), .ref (ρ 3), .ref (ρ 4), .int (I (s_sw σ)), .int (I (s_jt σ)), .int (I (s_nm σ)), .ref (ρ 5), .ref (ρ 6), .int (I (sf)), .int (I (se))]))) := by rw [hw10]; first | done | exact tm_u2_s
          have hw9_ρ_1 := (show w9 (ρ 1) = _ by rw [hw10]; exact tm_u2_n (fun z => absurd (hw7_ρ_0.symm.trans (z ▸ hw7_ρ_1)) (by intro q; cases q))).trans hw7_ρ_1
          have hw9_ρ_2 := (show w9 (ρ 2) = _ by rw [hw10]; exact tm_u2_n (fun z => absurd (hw7_ρ_0.symm.trans (z ▸ hw7_ρ_2)) (by intro q; cases q))).trans hw7_ρ_2
          have hw9_ρ_3 := (show w9 (ρ 3) = _ by rw [hw10]; exact tm_u2_n (fun z => absurd (hw7_ρ_0.symm.trans (z ▸ hw7_ρ_3)) (by intro q; cases q))).trans hw7_ρ_3
          have hw9_ρ_4 := (show w9 (ρ 4) = _ by rw [hw10]; exact tm_u2_n (fun z => absurd (hw7_ρ_0.symm.trans (z ▸ hw7_ρ_4)) (by intro q; cases q))).trans hw7_ρ_4
          have hw9_ρ_5 := (show w9 (ρ 5) = _ by rw [hw10]; exact tm_u2_n (fun z => absurd (hw7_ρ_0.symm.trans (z ▸ hw7_ρ_5)) (by intro q; cases q))).trans hw7_ρ_5
          have hw9_ρ_6 := (show w9 (ρ 6) = _ by rw [hw10]; exact tm_u2_n (fun z => absurd (hw7_ρ_0.symm.trans (z ▸ hw7_ρ_6)) (by intro q; cases q))).trans hw7_ρ_6
          refine tm_aload_n 0 hC dX6_addBoard_109 rfl rfl ?_
          refine tm_getf2 hC f_X6_39 hw9_ρ_0 rfl dX6_addBoard_110 ?_
          refine tm_iconst hC dX6_addBoard_113 ?_
          refine tm_isub hC dX6_addBoard_114 ?_
          exact tm_iret hC hR dX6_addBoard_115 (⟨0, sf, se, (((s_nb σ) + 1) - 1), (addB σ l w g), ⟨hw9_ρ_0, hw9_ρ_1, hw9_ρ_2, hw9_ρ_3, hw9_ρ_4, hw9_ρ_5, hw9_ρ_6, hmd⟩, rfl, Or.inr (Or.inr ⟨by rw [okB_i]; omega, by omega, rfl, rfl, by omega⟩)⟩)
        · refine tm_aload_n 0 hC dX6_addBoard_53 rfl rfl ?_
          refine tm_iconst hC dX6_addBoard_54 ?_
          refine tm_callV (b := 0) (n := 0) (rest := []) hC (c_M_fail (tm_g x) hst w1 ρ 0 sf se σ hM_w1 hw 2) k_X6_49 (by rw [hB.2.2.1]; exact ⟨Nat.le_of_ble_eq_true rfl, Nat.le_of_ble_eq_true rfl⟩) rfl (tm_rec2 hC hw1_ρ_0 rfl) rfl (by decide) dX6_addBoard_55 (fun v_55 w_55 hp_55 => ?_)
          obtain ⟨hf_55, rfl⟩ := hp_55
          obtain ⟨hm0_55, hm1_55, hm2_55, hm3_55, hm4_55, hm5_55, hm6_55, -⟩ := id hf_55
          show tm_V x (tm_H x w_55) 0 0 58 [(0, .ref (ρ 0)), (1, .int (I (l))), (2, .int (I (w))), (3, .int (I (g)))] [.int (I (0))]
          exact tm_iret hC hR dX6_addBoard_58 (⟨2, sf, se, 0, σ, hf_55, rfl, Or.inr (Or.inl ⟨by rw [okB_i]; omega, by omega, rfl, rfl⟩)⟩)
      · refine tm_aload_n 0 hC dX6_addBoard_38 rfl rfl ?_
        refine tm_iconst hC dX6_addBoard_39 ?_
        refine tm_callV (b := 0) (n := 0) (rest := []) hC (c_M_fail (tm_g x) hst w1 ρ 0 sf se σ hM_w1 hw 1) k_X6_49 (by rw [hB.2.2.1]; exact ⟨Nat.le_of_ble_eq_true rfl, Nat.le_of_ble_eq_true rfl⟩) rfl (tm_rec2 hC hw1_ρ_0 rfl) rfl (by decide) dX6_addBoard_40 (fun v_40 w_40 hp_40 => ?_)
        obtain ⟨hf_40, rfl⟩ := hp_40
        obtain ⟨hm0_40, hm1_40, hm2_40, hm3_40, hm4_40, hm5_40, hm6_40, -⟩ := id hf_40
        show tm_V x (tm_H x w_40) 0 0 43 [(0, .ref (ρ 0)), (1, .int (I (l))), (2, .int (I (w))), (3, .int (I (g)))] [.int (I (0))]
        exact tm_iret hC hR dX6_addBoard_43 (⟨1, sf, se, 0, σ, hf_40, rfl, Or.inl ⟨by rw [okB_i]; omega, rfl, rfl⟩⟩)

set_option maxHeartbeats 4000000 in
set_option maxRecDepth 100000 in
theorem c_M_addPart (γ : tmG) (hst : γ.1.stackTraces = false) (Λ : tmL) (ρ : Nat → Nat) (th sf se : Int) (σ : ST) (hM : RM γ.2.2.1 Λ ρ th sf se σ) (hw : WF0 σ) (l w g c j : Int) (hr : ((-2147483648 ≤ l ∧ l ≤ 2147483647) ∧ (-2147483648 ≤ w ∧ w ≤ 2147483647) ∧ (-2147483648 ≤ g ∧ g ≤ 2147483647) ∧ (-2147483648 ≤ c ∧ c ≤ 2147483647)) ∧ (j = 0 ∨ j = 1)) : tm_Con γ (tm_h2 γ.2.1 γ.2.2.1 γ.2.2.2.1) M_X6_addPart 4 0 0 [.ref (ρ 0), .int (I (l)), .int (I (w)), .int (I (g)), .int (I (c)), .int (I (j))] Λ (fun v w' => ∃ k sf' se' r σ', RM γ.2.2.1 w' ρ k sf' se' σ' ∧ v = some (.int (I r)) ∧ Sp_addPart σ l w g c j k σ' r) := by
  refine tm_con hst (by decide) (Nat.le_of_ble_eq_true rfl) (fun x hB hR => ?_)
  have hg := hB.1
  subst hg
  have hC : tm_C x cX6_addPart RX6 (some FieldType.int) := hB.2.2.2.1
  obtain ⟨hm0, hm1, hm2, hm3, hm4, hm5, hm6, hmd⟩ := id hM
  have hn := wf_n hw
  show tm_V x (tm_H x Λ) 0 0 0 [(0, .ref (ρ 0)), (1, .int (I (l))), (2, .int (I (w))), (3, .int (I (g))), (4, .int (I (c))), (5, .int (I (j)))] []
  refine tm_aload_n 0 hC dX6_addPart_0 rfl rfl ?_
  refine tm_iconst hC dX6_addPart_1 ?_
  refine tm_putf2 hC f_X6_36 hm0 (tt_7_0 _) (Nat.le_of_ble_eq_true rfl) dX6_addPart_2 ?_
  obtain ⟨w1, hw2⟩ : ∃ z, z = tm_u2 Λ (ρ 0) (.inr (7, [.int (I (0)), .int (I (s_nb σ)), .ref (ρ 1), .int (I (s_nd σ)), .ref (ρ 2), .int (I (s_np σ)), .ref (ρ 3), .ref (ρ 4), .int (I (s_sw σ)), .int (I (s_jt σ)), .int (I (s_nm σ)), .ref (ρ 5), .ref (ρ 6), .int (I (sf)), .int (I (se))])) := ⟨_, rfl⟩
  show tm_V x (tm_H x (tm_u2 Λ (ρ 0) (.inr (7, [.int (I (0)), .int (I (s_nb σ)), .ref (ρ 1), .int (I (s_nd σ)), .ref (ρ 2), .int (I (s_np σ)), .ref (ρ 3), .ref (ρ 4), .int (I (s_sw σ)), .int (I (s_jt σ)), .int (I (s_nm σ)), .ref (ρ 5), .ref (ρ 6), .int (I (sf)), .int (I (se))])))) 0 0 5 [(0, .ref (ρ 0)), (1, .int (I (l))), (2, .int (I (w))), (3, .int (I (g))), (4, .int (I (c))), (5, .int (I (j)))] []
  rw [← hw2]
  have hw1_ρ_0 : w1 (ρ 0) = some (.inl (.inr (7, [.int (I (0)), .int (I (s_nb σ)), .ref (ρ 1), .int (I (s_nd σ)), .ref (ρ 2), .int (I (s_np σ)), .ref (ρ 3), .ref (ρ 4), .int (I (s_sw σ)), .int (I (s_jt σ)), .int (I (s_nm σ)), .ref (ρ 5), .ref (ρ 6), .int (I (sf)), .int (I (se))]))) := by rw [hw2]; first | done | exact tm_u2_s
  have hw1_ρ_1 := (show w1 (ρ 1) = _ by rw [hw2]; exact tm_u2_n (fun z => absurd (hm0.symm.trans (z ▸ hm1)) (by intro q; cases q))).trans hm1
  have hw1_ρ_2 := (show w1 (ρ 2) = _ by rw [hw2]; exact tm_u2_n (fun z => absurd (hm0.symm.trans (z ▸ hm2)) (by intro q; cases q))).trans hm2
  have hw1_ρ_3 := (show w1 (ρ 3) = _ by rw [hw2]; exact tm_u2_n (fun z => absurd (hm0.symm.trans (z ▸ hm3)) (by intro q; cases q))).trans hm3
  have hw1_ρ_4 := (show w1 (ρ 4) = _ by rw [hw2]; exact tm_u2_n (fun z => absurd (hm0.symm.trans (z ▸ hm4)) (by intro q; cases q))).trans hm4
  have hw1_ρ_5 := (show w1 (ρ 5) = _ by rw [hw2]; exact tm_u2_n (fun z => absurd (hm0.symm.trans (z ▸ hm5)) (by intro q; cases q))).trans hm5
  have hw1_ρ_6 := (show w1 (ρ 6) = _ by rw [hw2]; exact tm_u2_n (fun z => absurd (hm0.symm.trans (z ▸ hm6)) (by intro q; cases q))).trans hm6
  have hM_w1 : RM (tm_T x) w1 ρ 0 sf se σ := ⟨hw1_ρ_0, hw1_ρ_1, hw1_ρ_2, hw1_ρ_3, hw1_ρ_4, hw1_ρ_5, hw1_ρ_6, hmd⟩
  refine tm_iload_n 1 hC dX6_addPart_5 rfl rfl ?_
  refine tm_bipush hC dX6_addPart_6 rfl ?_
  refine tm_sipush hC dX6_addPart_8 rfl ?_
  refine tm_callS (b := 0) (n := 0) (rest := []) hC (c_M_isIn (tm_g x) hst _ w1 l 20 3000 (by omega)) k_X6_42 (by rw [hB.2.2.1]; exact ⟨Nat.le_of_ble_eq_true rfl, Nat.le_of_ble_eq_true rfl⟩) rfl rfl (by decide) dX6_addPart_11 (fun v_11 w_11 hp_11 => ?_)
  obtain ⟨rfl, rfl⟩ := hp_11
  show tm_V x (tm_H x w1) 0 0 14 [(0, .ref (ρ 0)), (1, .int (I (l))), (2, .int (I (w))), (3, .int (I (g))), (4, .int (I (c))), (5, .int (I (j)))] [.int (I (bi (20 ≤ l ∧ l ≤ 3000)))]
  refine tm_ifb_eq 49 hC dX6_addPart_14 (by decide) (fun c_14 => ?_) (fun c_14 => ?_)
  · refine tm_aload_n 0 hC dX6_addPart_49 rfl rfl ?_
    refine tm_iconst hC dX6_addPart_50 ?_
    refine tm_callV (b := 0) (n := 0) (rest := []) hC (c_M_fail (tm_g x) hst w1 ρ 0 sf se σ hM_w1 hw 1) k_X6_49 (by rw [hB.2.2.1]; exact ⟨Nat.le_of_ble_eq_true rfl, Nat.le_of_ble_eq_true rfl⟩) rfl (tm_rec2 hC hw1_ρ_0 rfl) rfl (by decide) dX6_addPart_51 (fun v_51 w_51 hp_51 => ?_)
    obtain ⟨hf_51, rfl⟩ := hp_51
    obtain ⟨hm0_51, hm1_51, hm2_51, hm3_51, hm4_51, hm5_51, hm6_51, -⟩ := id hf_51
    show tm_V x (tm_H x w_51) 0 0 54 [(0, .ref (ρ 0)), (1, .int (I (l))), (2, .int (I (w))), (3, .int (I (g))), (4, .int (I (c))), (5, .int (I (j)))] [.int (I (0))]
    exact tm_iret hC hR dX6_addPart_54 (⟨1, sf, se, 0, σ, hf_51, rfl, Or.inl ⟨by rw [okP_i]; omega, rfl, rfl⟩⟩)
  · refine tm_iload_n 2 hC dX6_addPart_17 rfl rfl ?_
    refine tm_bipush hC dX6_addPart_18 rfl ?_
    refine tm_sipush hC dX6_addPart_20 rfl ?_
    refine tm_callS (b := 0) (n := 0) (rest := []) hC (c_M_isIn (tm_g x) hst _ w1 w 10 400 (by omega)) k_X6_42 (by rw [hB.2.2.1]; exact ⟨Nat.le_of_ble_eq_true rfl, Nat.le_of_ble_eq_true rfl⟩) rfl rfl (by decide) dX6_addPart_23 (fun v_23 w_23 hp_23 => ?_)
    obtain ⟨rfl, rfl⟩ := hp_23
    show tm_V x (tm_H x w1) 0 0 26 [(0, .ref (ρ 0)), (1, .int (I (l))), (2, .int (I (w))), (3, .int (I (g))), (4, .int (I (c))), (5, .int (I (j)))] [.int (I (bi (10 ≤ w ∧ w ≤ 400)))]
    refine tm_ifb_eq 49 hC dX6_addPart_26 (by decide) (fun c_26 => ?_) (fun c_26 => ?_)
    · refine tm_aload_n 0 hC dX6_addPart_49 rfl rfl ?_
      refine tm_iconst hC dX6_addPart_50 ?_
      refine tm_callV (b := 0) (n := 0) (rest := []) hC (c_M_fail (tm_g x) hst w1 ρ 0 sf se σ hM_w1 hw 1) k_X6_49 (by rw [hB.2.2.1]; exact ⟨Nat.le_of_ble_eq_true rfl, Nat.le_of_ble_eq_true rfl⟩) rfl (tm_rec2 hC hw1_ρ_0 rfl) rfl (by decide) dX6_addPart_51 (fun v_51 w_51 hp_51 => ?_)
      obtain ⟨hf_51, rfl⟩ := hp_51
      obtain ⟨hm0_51, hm1_51, hm2_51, hm3_51, hm4_51, hm5_51, hm6_51, -⟩ := id hf_51
      show tm_V x (tm_H x w_51) 0 0 54 [(0, .ref (ρ 0)), (1, .int (I (l))), (2, .int (I (w))), (3, .int (I (g))), (4, .int (I (c))), (5, .int (I (j)))] [.int (I (0))]
      exact tm_iret hC hR dX6_addPart_54 (⟨1, sf, se, 0, σ, hf_51, rfl, Or.inl ⟨by rw [okP_i]; omega, rfl, rfl⟩⟩)
    · refine tm_iload_n 3 hC dX6_addPart_29 rfl rfl ?_
      refine tm_iconst hC dX6_addPart_30 ?_
      refine tm_iconst hC dX6_addPart_31 ?_
      refine tm_callS (b := 0) (n := 0) (rest := []) hC (c_M_isIn (tm_g x) hst _ w1 g 0 3 (by omega)) k_X6_42 (by rw [hB.2.2.1]; exact ⟨Nat.le_of_ble_eq_true rfl, Nat.le_of_ble_eq_true rfl⟩) rfl rfl (by decide) dX6_addPart_32 (fun v_32 w_32 hp_32 => ?_)
      obtain ⟨rfl, rfl⟩ := hp_32
      show tm_V x (tm_H x w1) 0 0 35 [(0, .ref (ρ 0)), (1, .int (I (l))), (2, .int (I (w))), (3, .int (I (g))), (4, .int (I (c))), (5, .int (I (j)))] [.int (I (bi (0 ≤ g ∧ g ≤ 3)))]
      refine tm_ifb_eq 49 hC dX6_addPart_35 (by decide) (fun c_35 => ?_) (fun c_35 => ?_)
      · refine tm_aload_n 0 hC dX6_addPart_49 rfl rfl ?_
        refine tm_iconst hC dX6_addPart_50 ?_
        refine tm_callV (b := 0) (n := 0) (rest := []) hC (c_M_fail (tm_g x) hst w1 ρ 0 sf se σ hM_w1 hw 1) k_X6_49 (by rw [hB.2.2.1]; exact ⟨Nat.le_of_ble_eq_true rfl, Nat.le_of_ble_eq_true rfl⟩) rfl (tm_rec2 hC hw1_ρ_0 rfl) rfl (by decide) dX6_addPart_51 (fun v_51 w_51 hp_51 => ?_)
        obtain ⟨hf_51, rfl⟩ := hp_51
        obtain ⟨hm0_51, hm1_51, hm2_51, hm3_51, hm4_51, hm5_51, hm6_51, -⟩ := id hf_51
        show tm_V x (tm_H x w_51) 0 0 54 [(0, .ref (ρ 0)), (1, .int (I (l))), (2, .int (I (w))), (3, .int (I (g))), (4, .int (I (c))), (5, .int (I (j)))] [.int (I (0))]
        exact tm_iret hC hR dX6_addPart_54 (⟨1, sf, se, 0, σ, hf_51, rfl, Or.inl ⟨by rw [okP_i]; omega, rfl, rfl⟩⟩)
      · refine tm_iload 4 hC dX6_addPart_38 rfl ?_
        refine tm_iconst hC dX6_addPart_40 ?_
        refine tm_bipush hC dX6_addPart_41 rfl ?_
        refine tm_callS (b := 0) (n := 0) (rest := []) hC (c_M_isIn (tm_g x) hst _ w1 c 1 9 (by omega)) k_X6_42 (by rw [hB.2.2.1]; exact ⟨Nat.le_of_ble_eq_true rfl, Nat.le_of_ble_eq_true rfl⟩) rfl rfl (by decide) dX6_addPart_43 (fun v_43 w_43 hp_43 => ?_)
        obtain ⟨rfl, rfl⟩ := hp_43
        show tm_V x (tm_H x w1) 0 0 46 [(0, .ref (ρ 0)), (1, .int (I (l))), (2, .int (I (w))), (3, .int (I (g))), (4, .int (I (c))), (5, .int (I (j)))] [.int (I (bi (1 ≤ c ∧ c ≤ 9)))]
        refine tm_ifb_ne 55 hC dX6_addPart_46 (by decide) (fun c_46 => ?_) (fun c_46 => ?_)
        · refine tm_aload_n 0 hC dX6_addPart_55 rfl rfl ?_
          refine tm_getf2 hC f_X6_46 hw1_ρ_0 rfl dX6_addPart_56 ?_
          refine tm_bipush hC dX6_addPart_59 rfl ?_
          refine tm_icmp_ne 70 hC dX6_addPart_61 (by decide) (by omega) (fun c_61 => ?_) (fun c_61 => ?_)
          · refine tm_aload_n 0 hC dX6_addPart_70 rfl rfl ?_
            refine tm_getf2 hC f_X6_16 hw1_ρ_0 rfl dX6_addPart_71 ?_
            refine tm_iconst hC dX6_addPart_74 ?_
            refine tm_aload_n 0 hC dX6_addPart_75 rfl rfl ?_
            refine tm_getf2 hC f_X6_46 hw1_ρ_0 rfl dX6_addPart_76 ?_
            refine tm_imul hC dX6_addPart_79 ?_
            refine tm_iload_n 1 hC dX6_addPart_80 rfl rfl ?_
            refine tm_iast2 hC hw1_ρ_3 (by omega) dX6_addPart_81 ?_
            obtain ⟨w3, hw4⟩ : ∃ z, z = tm_u2 w1 (ρ 3) (tm_ai (tm_T x) 48 (tm_ui (s_wa σ) (4 * (s_np σ)) (l))) := ⟨_, rfl⟩
            show tm_V x (tm_H x (tm_u2 w1 (ρ 3) (tm_ai (tm_T x) 48 (tm_ui (s_wa σ) (4 * (s_np σ)) (l))))) 0 0 82 [(0, .ref (ρ 0)), (1, .int (I (l))), (2, .int (I (w))), (3, .int (I (g))), (4, .int (I (c))), (5, .int (I (j)))] []
            rw [← hw4]
            have hw3_ρ_3 : w3 (ρ 3) = some (.inl (tm_ai (tm_T x) 48 (tm_ui (s_wa σ) (4 * (s_np σ)) (l)))) := by rw [hw4]; first | done | exact tm_u2_s
            have hw3_ρ_0 := (show w3 (ρ 0) = _ by rw [hw4]; exact tm_u2_n (fun z => absurd (hw1_ρ_3.symm.trans (z ▸ hw1_ρ_0)) (by intro q; cases q))).trans hw1_ρ_0
            have hw3_ρ_1 := (show w3 (ρ 1) = _ by rw [hw4]; exact tm_u2_n (hmd 1 3 (by decide) (by decide) (by decide))).trans hw1_ρ_1
            have hw3_ρ_2 := (show w3 (ρ 2) = _ by rw [hw4]; exact tm_u2_n (hmd 2 3 (by decide) (by decide) (by decide))).trans hw1_ρ_2
            have hw3_ρ_4 := (show w3 (ρ 4) = _ by rw [hw4]; exact tm_u2_n (hmd 4 3 (by decide) (by decide) (by decide))).trans hw1_ρ_4
            have hw3_ρ_5 := (show w3 (ρ 5) = _ by rw [hw4]; exact tm_u2_n (hmd 5 3 (by decide) (by decide) (by decide))).trans hw1_ρ_5
            have hw3_ρ_6 := (show w3 (ρ 6) = _ by rw [hw4]; exact tm_u2_n (hmd 6 3 (by decide) (by decide) (by decide))).trans hw1_ρ_6
            refine tm_aload_n 0 hC dX6_addPart_82 rfl rfl ?_
            refine tm_getf2 hC f_X6_16 hw3_ρ_0 rfl dX6_addPart_83 ?_
            refine tm_iconst hC dX6_addPart_86 ?_
            refine tm_aload_n 0 hC dX6_addPart_87 rfl rfl ?_
            refine tm_getf2 hC f_X6_46 hw3_ρ_0 rfl dX6_addPart_88 ?_
            refine tm_imul hC dX6_addPart_91 ?_
            refine tm_iconst hC dX6_addPart_92 ?_
            refine tm_iadd hC dX6_addPart_93 ?_
            refine tm_iload_n 2 hC dX6_addPart_94 rfl rfl ?_
            refine tm_iast2 hC hw3_ρ_3 (by omega) dX6_addPart_95 ?_
            obtain ⟨w5, hw6⟩ : ∃ z, z = tm_u2 w3 (ρ 3) (tm_ai (tm_T x) 48 (tm_ui (tm_ui (s_wa σ) (4 * (s_np σ)) (l)) ((4 * (s_np σ)) + 1) (w))) := ⟨_, rfl⟩
            show tm_V x (tm_H x (tm_u2 w3 (ρ 3) (tm_ai (tm_T x) 48 (tm_ui (tm_ui (s_wa σ) (4 * (s_np σ)) (l)) ((4 * (s_np σ)) + 1) (w))))) 0 0 96 [(0, .ref (ρ 0)), (1, .int (I (l))), (2, .int (I (w))), (3, .int (I (g))), (4, .int (I (c))), (5, .int (I (j)))] []
            rw [← hw6]
            have hw5_ρ_3 : w5 (ρ 3) = some (.inl (tm_ai (tm_T x) 48 (tm_ui (tm_ui (s_wa σ) (4 * (s_np σ)) (l)) ((4 * (s_np σ)) + 1) (w)))) := by rw [hw6]; first | done | exact tm_u2_s
            have hw5_ρ_0 := (show w5 (ρ 0) = _ by rw [hw6]; exact tm_u2_n (fun z => absurd (hw3_ρ_3.symm.trans (z ▸ hw3_ρ_0)) (by intro q; cases q))).trans hw3_ρ_0
            have hw5_ρ_1 := (show w5 (ρ 1) = _ by rw [hw6]; exact tm_u2_n (hmd 1 3 (by decide) (by decide) (by decide))).trans hw3_ρ_1
            have hw5_ρ_2 := (show w5 (ρ 2) = _ by rw [hw6]; exact tm_u2_n (hmd 2 3 (by decide) (by decide) (by decide))).trans hw3_ρ_2
            have hw5_ρ_4 := (show w5 (ρ 4) = _ by rw [hw6]; exact tm_u2_n (hmd 4 3 (by decide) (by decide) (by decide))).trans hw3_ρ_4
            have hw5_ρ_5 := (show w5 (ρ 5) = _ by rw [hw6]; exact tm_u2_n (hmd 5 3 (by decide) (by decide) (by decide))).trans hw3_ρ_5
            have hw5_ρ_6 := (show w5 (ρ 6) = _ by rw [hw6]; exact tm_u2_n (hmd 6 3 (by decide) (by decide) (by decide))).trans hw3_ρ_6
            refine tm_aload_n 0 hC dX6_addPart_96 rfl rfl ?_
            refine tm_getf2 hC f_X6_16 hw5_ρ_0 rfl dX6_addPart_97 ?_
            refine tm_iconst hC dX6_addPart_100 ?_
            refine tm_aload_n 0 hC dX6_addPart_101 rfl rfl ?_
            refine tm_getf2 hC f_X6_46 hw5_ρ_0 rfl dX6_addPart_102 ?_
            refine tm_imul hC dX6_addPart_105 ?_
            refine tm_iconst hC dX6_addPart_106 ?_
            refine tm_iadd hC dX6_addPart_107 ?_
            refine tm_iload_n 3 hC dX6_addPart_108 rfl rfl ?_
            refine tm_iast2 hC hw5_ρ_3 (by omega) dX6_addPart_109 ?_
            obtain ⟨w7, hw8⟩ : ∃ z, z = tm_u2 w5 (ρ 3) (tm_ai (tm_T x) 48 (tm_ui (tm_ui (tm_ui (s_wa σ) (4 * (s_np σ)) (l)) ((4 * (s_np σ)) + 1) (w)) ((4 * (s_np σ)) + 2) (g))) := ⟨_, rfl⟩
            show tm_V x (tm_H x (tm_u2 w5 (ρ 3) (tm_ai (tm_T x) 48 (tm_ui (tm_ui (tm_ui (s_wa σ) (4 * (s_np σ)) (l)) ((4 * (s_np σ)) + 1) (w)) ((4 * (s_np σ)) + 2) (g))))) 0 0 110 [(0, .ref (ρ 0)), (1, .int (I (l))), (2, .int (I (w))), (3, .int (I (g))), (4, .int (I (c))), (5, .int (I (j)))] []
            rw [← hw8]
            have hw7_ρ_3 : w7 (ρ 3) = some (.inl (tm_ai (tm_T x) 48 (tm_ui (tm_ui (tm_ui (s_wa σ) (4 * (s_np σ)) (l)) ((4 * (s_np σ)) + 1) (w)) ((4 * (s_np σ)) + 2) (g)))) := by rw [hw8]; first | done | exact tm_u2_s
            have hw7_ρ_0 := (show w7 (ρ 0) = _ by rw [hw8]; exact tm_u2_n (fun z => absurd (hw5_ρ_3.symm.trans (z ▸ hw5_ρ_0)) (by intro q; cases q))).trans hw5_ρ_0
            have hw7_ρ_1 := (show w7 (ρ 1) = _ by rw [hw8]; exact tm_u2_n (hmd 1 3 (by decide) (by decide) (by decide))).trans hw5_ρ_1
            have hw7_ρ_2 := (show w7 (ρ 2) = _ by rw [hw8]; exact tm_u2_n (hmd 2 3 (by decide) (by decide) (by decide))).trans hw5_ρ_2
            have hw7_ρ_4 := (show w7 (ρ 4) = _ by rw [hw8]; exact tm_u2_n (hmd 4 3 (by decide) (by decide) (by decide))).trans hw5_ρ_4
            have hw7_ρ_5 := (show w7 (ρ 5) = _ by rw [hw8]; exact tm_u2_n (hmd 5 3 (by decide) (by decide) (by decide))).trans hw5_ρ_5
            have hw7_ρ_6 := (show w7 (ρ 6) = _ by rw [hw8]; exact tm_u2_n (hmd 6 3 (by decide) (by decide) (by decide))).trans hw5_ρ_6
            refine tm_aload_n 0 hC dX6_addPart_110 rfl rfl ?_
            refine tm_getf2 hC f_X6_16 hw7_ρ_0 rfl dX6_addPart_111 ?_
            refine tm_iconst hC dX6_addPart_114 ?_
            refine tm_aload_n 0 hC dX6_addPart_115 rfl rfl ?_
            refine tm_getf2 hC f_X6_46 hw7_ρ_0 rfl dX6_addPart_116 ?_
            refine tm_imul hC dX6_addPart_119 ?_
            refine tm_iconst hC dX6_addPart_120 ?_
            refine tm_iadd hC dX6_addPart_121 ?_
            refine tm_iload 4 hC dX6_addPart_122 rfl ?_
            refine tm_iast2 hC hw7_ρ_3 (by omega) dX6_addPart_124 ?_
            obtain ⟨w9, hw10⟩ : ∃ z, z = tm_u2 w7 (ρ 3) (tm_ai (tm_T x) 48 (tm_ui (tm_ui (tm_ui (tm_ui (s_wa σ) (4 * (s_np σ)) (l)) ((4 * (s_np σ)) + 1) (w)) ((4 * (s_np σ)) + 2) (g)) ((4 * (s_np σ)) + 3) (c))) := ⟨_, rfl⟩
            show tm_V x (tm_H x (tm_u2 w7 (ρ 3) (tm_ai (tm_T x) 48 (tm_ui (tm_ui (tm_ui (tm_ui (s_wa σ) (4 * (s_np σ)) (l)) ((4 * (s_np σ)) + 1) (w)) ((4 * (s_np σ)) + 2) (g)) ((4 * (s_np σ)) + 3) (c))))) 0 0 125 [(0, .ref (ρ 0)), (1, .int (I (l))), (2, .int (I (w))), (3, .int (I (g))), (4, .int (I (c))), (5, .int (I (j)))] []
            rw [← hw10]
            have hw9_ρ_3 : w9 (ρ 3) = some (.inl (tm_ai (tm_T x) 48 (tm_ui (tm_ui (tm_ui (tm_ui (s_wa σ) (4 * (s_np σ)) (l)) ((4 * (s_np σ)) + 1) (w)) ((4 * (s_np σ)) + 2) (g)) ((4 * (s_np σ)) + 3) (c)))) := by rw [hw10]; first | done | exact tm_u2_s
            have hw9_ρ_0 := (show w9 (ρ 0) = _ by rw [hw10]; exact tm_u2_n (fun z => absurd (hw7_ρ_3.symm.trans (z ▸ hw7_ρ_0)) (by intro q; cases q))).trans hw7_ρ_0
            have hw9_ρ_1 := (show w9 (ρ 1) = _ by rw [hw10]; exact tm_u2_n (hmd 1 3 (by decide) (by decide) (by decide))).trans hw7_ρ_1
            have hw9_ρ_2 := (show w9 (ρ 2) = _ by rw [hw10]; exact tm_u2_n (hmd 2 3 (by decide) (by decide) (by decide))).trans hw7_ρ_2
            have hw9_ρ_4 := (show w9 (ρ 4) = _ by rw [hw10]; exact tm_u2_n (hmd 4 3 (by decide) (by decide) (by decide))).trans hw7_ρ_4
            have hw9_ρ_5 := (show w9 (ρ 5) = _ by rw [hw10]; exact tm_u2_n (hmd 5 3 (by decide) (by decide) (by decide))).trans hw7_ρ_5
            have hw9_ρ_6 := (show w9 (ρ 6) = _ by rw [hw10]; exact tm_u2_n (hmd 6 3 (by decide) (by decide) (by decide))).trans hw7_ρ_6
            refine tm_aload_n 0 hC dX6_addPart_125 rfl rfl ?_
            refine tm_getf2 hC f_X6_19 hw9_ρ_0 rfl dX6_addPart_126 ?_
            refine tm_aload_n 0 hC dX6_addPart_129 rfl rfl ?_
            refine tm_getf2 hC f_X6_46 hw9_ρ_0 rfl dX6_addPart_130 ?_
            refine tm_iload 5 hC dX6_addPart_133 rfl ?_
            refine tm_zast2 hC hw9_ρ_4 (by omega) (by omega) dX6_addPart_135 ?_
            obtain ⟨w11, hw12⟩ : ∃ z, z = tm_u2 w9 (ρ 4) (tm_az (tm_T x) 12 (tm_ui (s_mj σ) (s_np σ) (j))) := ⟨_, rfl⟩
            show tm_V x (tm_H x (tm_u2 w9 (ρ 4) (tm_az (tm_T x) 12 (tm_ui (s_mj σ) (s_np σ) (j))))) 0 0 136 [(0, .ref (ρ 0)), (1, .int (I (l))), (2, .int (I (w))), (3, .int (I (g))), (4, .int (I (c))), (5, .int (I (j)))] []
            rw [← hw12]
            have hw11_ρ_4 : w11 (ρ 4) = some (.inl (tm_az (tm_T x) 12 (tm_ui (s_mj σ) (s_np σ) (j)))) := by rw [hw12]; first | done | exact tm_u2_s
            have hw11_ρ_0 := (show w11 (ρ 0) = _ by rw [hw12]; exact tm_u2_n (fun z => absurd (hw9_ρ_4.symm.trans (z ▸ hw9_ρ_0)) (by intro q; cases q))).trans hw9_ρ_0
            have hw11_ρ_1 := (show w11 (ρ 1) = _ by rw [hw12]; exact tm_u2_n (hmd 1 4 (by decide) (by decide) (by decide))).trans hw9_ρ_1
            have hw11_ρ_2 := (show w11 (ρ 2) = _ by rw [hw12]; exact tm_u2_n (hmd 2 4 (by decide) (by decide) (by decide))).trans hw9_ρ_2
            have hw11_ρ_3 := (show w11 (ρ 3) = _ by rw [hw12]; exact tm_u2_n (hmd 3 4 (by decide) (by decide) (by decide))).trans hw9_ρ_3
            have hw11_ρ_5 := (show w11 (ρ 5) = _ by rw [hw12]; exact tm_u2_n (hmd 5 4 (by decide) (by decide) (by decide))).trans hw9_ρ_5
            have hw11_ρ_6 := (show w11 (ρ 6) = _ by rw [hw12]; exact tm_u2_n (hmd 6 4 (by decide) (by decide) (by decide))).trans hw9_ρ_6
            refine tm_aload_n 0 hC dX6_addPart_136 rfl rfl ?_
            refine tm_dup hC dX6_addPart_137 rfl ?_
            refine tm_getf2 hC f_X6_46 hw11_ρ_0 rfl dX6_addPart_138 ?_
            refine tm_iconst hC dX6_addPart_141 ?_
            refine tm_iadd hC dX6_addPart_142 ?_
            refine tm_putf2 hC f_X6_46 hw11_ρ_0 (tt_7_5 _) (Nat.le_of_ble_eq_true rfl) dX6_addPart_143 ?_
            obtain ⟨w13, hw14⟩ : ∃ z, z = tm_u2 w11 (ρ 0) (.inr (7, [.int (I (0)), .int (I (s_nb σ)), .ref (ρ 1), .int (I (s_nd σ)), .ref (ρ 2), .int (I ((s_np σ) + 1)), .ref (ρ 3), .ref (ρ 4), .int (I (s_sw σ)), .int (I (s_jt σ)), .int (I (s_nm σ)), .ref (ρ 5), .ref (ρ 6), .int (I (sf)), .int (I (se))])) := ⟨_, rfl⟩
            show tm_V x (tm_H x (tm_u2 w11 (ρ 0) (.inr (7, [.int (I (0)), .int (I (s_nb σ)), .ref (ρ 1), .int (I (s_nd σ)), .ref (ρ 2), .int (I ((s_np σ) + 1)), .ref (ρ 3), .ref (ρ 4), .int (I (s_sw σ)), .int (I (s_jt σ)), .int (I (s_nm σ)), .ref (ρ 5), .ref (ρ 6), .int (I (sf)), .int (I (se))])))) 0 0 146 [(0, .ref (ρ 0)), (1, .int (I (l))), (2, .int (I (w))), (3, .int (I (g))), (4, .int (I (c))), (5, .int (I (j)))] []
            rw [← hw14]
            have hw13_ρ_0 : w13 (ρ 0) = some (.inl (.inr (7, [.int (I (0)), .int (I (s_nb σ)), .ref (ρ 1), .int (I (s_nd σ)), .ref (ρ 2), .int (I ((s_np σ) + 1)), .ref (ρ 3), .ref (ρ 4), .int (I (s_sw σ)), .int (I (s_jt σ)), .int (I (s_nm σ)), .ref (ρ 5), .ref (ρ 6), .int (I (sf)), .int (I (se))]))) := by rw [hw14]; first | done | exact tm_u2_s
            have hw13_ρ_1 := (show w13 (ρ 1) = _ by rw [hw14]; exact tm_u2_n (fun z => absurd (hw11_ρ_0.symm.trans (z ▸ hw11_ρ_1)) (by intro q; cases q))).trans hw11_ρ_1
            have hw13_ρ_2 := (show w13 (ρ 2) = _ by rw [hw14]; exact tm_u2_n (fun z => absurd (hw11_ρ_0.symm.trans (z ▸ hw11_ρ_2)) (by intro q; cases q))).trans hw11_ρ_2
            have hw13_ρ_3 := (show w13 (ρ 3) = _ by rw [hw14]; exact tm_u2_n (fun z => absurd (hw11_ρ_0.symm.trans (z ▸ hw11_ρ_3)) (by intro q; cases q))).trans hw11_ρ_3
            have hw13_ρ_4 := (show w13 (ρ 4) = _ by rw [hw14]; exact tm_u2_n (fun z => absurd (hw11_ρ_0.symm.trans (z ▸ hw11_ρ_4)) (by intro q; cases q))).trans hw11_ρ_4
            have hw13_ρ_5 := (show w13 (ρ 5) = _ by rw [hw14]; exact tm_u2_n (fun z => absurd (hw11_ρ_0.symm.trans (z ▸ hw11_ρ_5)) (by intro q; cases q))).trans hw11_ρ_5
            have hw13_ρ_6 := (show w13 (ρ 6) = _ by rw [hw14]; exact tm_u2_n (fun z => absurd (hw11_ρ_0.symm.trans (z ▸ hw11_ρ_6)) (by intro q; cases q))).trans hw11_ρ_6
            refine tm_aload_n 0 hC dX6_addPart_146 rfl rfl ?_
            refine tm_getf2 hC f_X6_46 hw13_ρ_0 rfl dX6_addPart_147 ?_
            refine tm_iconst hC dX6_addPart_150 ?_
            refine tm_isub hC dX6_addPart_151 ?_
            exact tm_iret hC hR dX6_addPart_152 (⟨0, sf, se, (((s_np σ) + 1) - 1), (addP σ l w g c j), ⟨hw13_ρ_0, hw13_ρ_1, hw13_ρ_2, hw13_ρ_3, hw13_ρ_4, hw13_ρ_5, hw13_ρ_6, hmd⟩, rfl, Or.inr (Or.inr ⟨by rw [okP_i]; omega, by omega, rfl, rfl, by omega⟩)⟩)
          · refine tm_aload_n 0 hC dX6_addPart_64 rfl rfl ?_
            refine tm_iconst hC dX6_addPart_65 ?_
            refine tm_callV (b := 0) (n := 0) (rest := []) hC (c_M_fail (tm_g x) hst w1 ρ 0 sf se σ hM_w1 hw 2) k_X6_49 (by rw [hB.2.2.1]; exact ⟨Nat.le_of_ble_eq_true rfl, Nat.le_of_ble_eq_true rfl⟩) rfl (tm_rec2 hC hw1_ρ_0 rfl) rfl (by decide) dX6_addPart_66 (fun v_66 w_66 hp_66 => ?_)
            obtain ⟨hf_66, rfl⟩ := hp_66
            obtain ⟨hm0_66, hm1_66, hm2_66, hm3_66, hm4_66, hm5_66, hm6_66, -⟩ := id hf_66
            show tm_V x (tm_H x w_66) 0 0 69 [(0, .ref (ρ 0)), (1, .int (I (l))), (2, .int (I (w))), (3, .int (I (g))), (4, .int (I (c))), (5, .int (I (j)))] [.int (I (0))]
            exact tm_iret hC hR dX6_addPart_69 (⟨2, sf, se, 0, σ, hf_66, rfl, Or.inr (Or.inl ⟨by rw [okP_i]; omega, by omega, rfl, rfl⟩)⟩)
        · refine tm_aload_n 0 hC dX6_addPart_49 rfl rfl ?_
          refine tm_iconst hC dX6_addPart_50 ?_
          refine tm_callV (b := 0) (n := 0) (rest := []) hC (c_M_fail (tm_g x) hst w1 ρ 0 sf se σ hM_w1 hw 1) k_X6_49 (by rw [hB.2.2.1]; exact ⟨Nat.le_of_ble_eq_true rfl, Nat.le_of_ble_eq_true rfl⟩) rfl (tm_rec2 hC hw1_ρ_0 rfl) rfl (by decide) dX6_addPart_51 (fun v_51 w_51 hp_51 => ?_)
          obtain ⟨hf_51, rfl⟩ := hp_51
          obtain ⟨hm0_51, hm1_51, hm2_51, hm3_51, hm4_51, hm5_51, hm6_51, -⟩ := id hf_51
          show tm_V x (tm_H x w_51) 0 0 54 [(0, .ref (ρ 0)), (1, .int (I (l))), (2, .int (I (w))), (3, .int (I (g))), (4, .int (I (c))), (5, .int (I (j)))] [.int (I (0))]
          exact tm_iret hC hR dX6_addPart_54 (⟨1, sf, se, 0, σ, hf_51, rfl, Or.inl ⟨by rw [okP_i]; omega, rfl, rfl⟩⟩)

set_option maxHeartbeats 4000000 in
set_option maxRecDepth 100000 in
theorem c_M_add (γ : tmG) (hst : γ.1.stackTraces = false) (Λ : tmL) (ρ : Nat → Nat) (th sf se : Int) (σ : ST) (hM : RM γ.2.2.1 Λ ρ th sf se σ) (hw : WF0 σ) (p : Int) (hp : 0 ≤ p ∧ p < s_np σ) (b : Int) (hb : 0 ≤ b ∧ b < s_nb σ) (pl len j : Int) (hpl : (0 ≤ pl ∧ pl ≤ 3000) ∧ (1 ≤ len ∧ len ≤ 3050) ∧ (j = 0 ∨ j = 1) ∧ s_nm σ < 216) : tm_Con γ (tm_h2 γ.2.1 γ.2.2.1 γ.2.2.2.1) M_X6_add 1 0 0 [.ref (ρ 0), .int (I (p)), .int (I (b)), .int (I (pl)), .int (I (len)), .int (I (j))] Λ (fun v w' => RM γ.2.2.1 w' ρ th sf se (addC σ p b pl len j) ∧ v = none) := by
  refine tm_con hst (by decide) (Nat.le_of_ble_eq_true rfl) (fun x hB hR => ?_)
  have hg := hB.1
  subst hg
  have hC : tm_C x cX6_add RX6 (none) := hB.2.2.2.1
  obtain ⟨hm0, hm1, hm2, hm3, hm4, hm5, hm6, hmd⟩ := id hM
  have hn := wf_n hw
  show tm_V x (tm_H x Λ) 0 0 0 [(0, .ref (ρ 0)), (1, .int (I (p))), (2, .int (I (b))), (3, .int (I (pl))), (4, .int (I (len))), (5, .int (I (j)))] []
  refine tm_aload_n 0 hC dX6_add_0 rfl rfl ?_
  refine tm_getf2 hC f_X6_30 hm0 rfl dX6_add_1 ?_
  refine tm_iconst hC dX6_add_4 ?_
  refine tm_aload_n 0 hC dX6_add_5 rfl rfl ?_
  refine tm_getf2 hC f_X6_63 hm0 rfl dX6_add_6 ?_
  refine tm_imul hC dX6_add_9 ?_
  refine tm_iload_n 2 hC dX6_add_10 rfl rfl ?_
  refine tm_iast2 hC hm5 (by omega) dX6_add_11 ?_
  obtain ⟨w1, hw2⟩ : ∃ z, z = tm_u2 Λ (ρ 5) (tm_ai (tm_T x) 864 (tm_ui (s_cu σ) (4 * (s_nm σ)) (b))) := ⟨_, rfl⟩
  show tm_V x (tm_H x (tm_u2 Λ (ρ 5) (tm_ai (tm_T x) 864 (tm_ui (s_cu σ) (4 * (s_nm σ)) (b))))) 0 0 12 [(0, .ref (ρ 0)), (1, .int (I (p))), (2, .int (I (b))), (3, .int (I (pl))), (4, .int (I (len))), (5, .int (I (j)))] []
  rw [← hw2]
  have hw1_ρ_5 : w1 (ρ 5) = some (.inl (tm_ai (tm_T x) 864 (tm_ui (s_cu σ) (4 * (s_nm σ)) (b)))) := by rw [hw2]; first | done | exact tm_u2_s
  have hw1_ρ_0 := (show w1 (ρ 0) = _ by rw [hw2]; exact tm_u2_n (fun z => absurd (hm5.symm.trans (z ▸ hm0)) (by intro q; cases q))).trans hm0
  have hw1_ρ_1 := (show w1 (ρ 1) = _ by rw [hw2]; exact tm_u2_n (hmd 1 5 (by decide) (by decide) (by decide))).trans hm1
  have hw1_ρ_2 := (show w1 (ρ 2) = _ by rw [hw2]; exact tm_u2_n (hmd 2 5 (by decide) (by decide) (by decide))).trans hm2
  have hw1_ρ_3 := (show w1 (ρ 3) = _ by rw [hw2]; exact tm_u2_n (hmd 3 5 (by decide) (by decide) (by decide))).trans hm3
  have hw1_ρ_4 := (show w1 (ρ 4) = _ by rw [hw2]; exact tm_u2_n (hmd 4 5 (by decide) (by decide) (by decide))).trans hm4
  have hw1_ρ_6 := (show w1 (ρ 6) = _ by rw [hw2]; exact tm_u2_n (hmd 6 5 (by decide) (by decide) (by decide))).trans hm6
  refine tm_aload_n 0 hC dX6_add_12 rfl rfl ?_
  refine tm_getf2 hC f_X6_30 hw1_ρ_0 rfl dX6_add_13 ?_
  refine tm_iconst hC dX6_add_16 ?_
  refine tm_aload_n 0 hC dX6_add_17 rfl rfl ?_
  refine tm_getf2 hC f_X6_63 hw1_ρ_0 rfl dX6_add_18 ?_
  refine tm_imul hC dX6_add_21 ?_
  refine tm_iconst hC dX6_add_22 ?_
  refine tm_iadd hC dX6_add_23 ?_
  refine tm_iload_n 3 hC dX6_add_24 rfl rfl ?_
  refine tm_iast2 hC hw1_ρ_5 (by omega) dX6_add_25 ?_
  obtain ⟨w3, hw4⟩ : ∃ z, z = tm_u2 w1 (ρ 5) (tm_ai (tm_T x) 864 (tm_ui (tm_ui (s_cu σ) (4 * (s_nm σ)) (b)) ((4 * (s_nm σ)) + 1) (pl))) := ⟨_, rfl⟩
  show tm_V x (tm_H x (tm_u2 w1 (ρ 5) (tm_ai (tm_T x) 864 (tm_ui (tm_ui (s_cu σ) (4 * (s_nm σ)) (b)) ((4 * (s_nm σ)) + 1) (pl))))) 0 0 26 [(0, .ref (ρ 0)), (1, .int (I (p))), (2, .int (I (b))), (3, .int (I (pl))), (4, .int (I (len))), (5, .int (I (j)))] []
  rw [← hw4]
  have hw3_ρ_5 : w3 (ρ 5) = some (.inl (tm_ai (tm_T x) 864 (tm_ui (tm_ui (s_cu σ) (4 * (s_nm σ)) (b)) ((4 * (s_nm σ)) + 1) (pl)))) := by rw [hw4]; first | done | exact tm_u2_s
  have hw3_ρ_0 := (show w3 (ρ 0) = _ by rw [hw4]; exact tm_u2_n (fun z => absurd (hw1_ρ_5.symm.trans (z ▸ hw1_ρ_0)) (by intro q; cases q))).trans hw1_ρ_0
  have hw3_ρ_1 := (show w3 (ρ 1) = _ by rw [hw4]; exact tm_u2_n (hmd 1 5 (by decide) (by decide) (by decide))).trans hw1_ρ_1
  have hw3_ρ_2 := (show w3 (ρ 2) = _ by rw [hw4]; exact tm_u2_n (hmd 2 5 (by decide) (by decide) (by decide))).trans hw1_ρ_2
  have hw3_ρ_3 := (show w3 (ρ 3) = _ by rw [hw4]; exact tm_u2_n (hmd 3 5 (by decide) (by decide) (by decide))).trans hw1_ρ_3
  have hw3_ρ_4 := (show w3 (ρ 4) = _ by rw [hw4]; exact tm_u2_n (hmd 4 5 (by decide) (by decide) (by decide))).trans hw1_ρ_4
  have hw3_ρ_6 := (show w3 (ρ 6) = _ by rw [hw4]; exact tm_u2_n (hmd 6 5 (by decide) (by decide) (by decide))).trans hw1_ρ_6
  refine tm_aload_n 0 hC dX6_add_26 rfl rfl ?_
  refine tm_getf2 hC f_X6_30 hw3_ρ_0 rfl dX6_add_27 ?_
  refine tm_iconst hC dX6_add_30 ?_
  refine tm_aload_n 0 hC dX6_add_31 rfl rfl ?_
  refine tm_getf2 hC f_X6_63 hw3_ρ_0 rfl dX6_add_32 ?_
  refine tm_imul hC dX6_add_35 ?_
  refine tm_iconst hC dX6_add_36 ?_
  refine tm_iadd hC dX6_add_37 ?_
  refine tm_iload_n 3 hC dX6_add_38 rfl rfl ?_
  refine tm_iload 4 hC dX6_add_39 rfl ?_
  refine tm_iadd hC dX6_add_41 ?_
  refine tm_iast2 hC hw3_ρ_5 (by omega) dX6_add_42 ?_
  obtain ⟨w5, hw6⟩ : ∃ z, z = tm_u2 w3 (ρ 5) (tm_ai (tm_T x) 864 (tm_ui (tm_ui (tm_ui (s_cu σ) (4 * (s_nm σ)) (b)) ((4 * (s_nm σ)) + 1) (pl)) ((4 * (s_nm σ)) + 2) (pl + len))) := ⟨_, rfl⟩
  show tm_V x (tm_H x (tm_u2 w3 (ρ 5) (tm_ai (tm_T x) 864 (tm_ui (tm_ui (tm_ui (s_cu σ) (4 * (s_nm σ)) (b)) ((4 * (s_nm σ)) + 1) (pl)) ((4 * (s_nm σ)) + 2) (pl + len))))) 0 0 43 [(0, .ref (ρ 0)), (1, .int (I (p))), (2, .int (I (b))), (3, .int (I (pl))), (4, .int (I (len))), (5, .int (I (j)))] []
  rw [← hw6]
  have hw5_ρ_5 : w5 (ρ 5) = some (.inl (tm_ai (tm_T x) 864 (tm_ui (tm_ui (tm_ui (s_cu σ) (4 * (s_nm σ)) (b)) ((4 * (s_nm σ)) + 1) (pl)) ((4 * (s_nm σ)) + 2) (pl + len)))) := by rw [hw6]; first | done | exact tm_u2_s
  have hw5_ρ_0 := (show w5 (ρ 0) = _ by rw [hw6]; exact tm_u2_n (fun z => absurd (hw3_ρ_5.symm.trans (z ▸ hw3_ρ_0)) (by intro q; cases q))).trans hw3_ρ_0
  have hw5_ρ_1 := (show w5 (ρ 1) = _ by rw [hw6]; exact tm_u2_n (hmd 1 5 (by decide) (by decide) (by decide))).trans hw3_ρ_1
  have hw5_ρ_2 := (show w5 (ρ 2) = _ by rw [hw6]; exact tm_u2_n (hmd 2 5 (by decide) (by decide) (by decide))).trans hw3_ρ_2
  have hw5_ρ_3 := (show w5 (ρ 3) = _ by rw [hw6]; exact tm_u2_n (hmd 3 5 (by decide) (by decide) (by decide))).trans hw3_ρ_3
  have hw5_ρ_4 := (show w5 (ρ 4) = _ by rw [hw6]; exact tm_u2_n (hmd 4 5 (by decide) (by decide) (by decide))).trans hw3_ρ_4
  have hw5_ρ_6 := (show w5 (ρ 6) = _ by rw [hw6]; exact tm_u2_n (hmd 6 5 (by decide) (by decide) (by decide))).trans hw3_ρ_6
  refine tm_aload_n 0 hC dX6_add_43 rfl rfl ?_
  refine tm_getf2 hC f_X6_30 hw5_ρ_0 rfl dX6_add_44 ?_
  refine tm_iconst hC dX6_add_47 ?_
  refine tm_aload_n 0 hC dX6_add_48 rfl rfl ?_
  refine tm_getf2 hC f_X6_63 hw5_ρ_0 rfl dX6_add_49 ?_
  refine tm_imul hC dX6_add_52 ?_
  refine tm_iconst hC dX6_add_53 ?_
  refine tm_iadd hC dX6_add_54 ?_
  refine tm_iload_n 1 hC dX6_add_55 rfl rfl ?_
  refine tm_iast2 hC hw5_ρ_5 (by omega) dX6_add_56 ?_
  obtain ⟨w7, hw8⟩ : ∃ z, z = tm_u2 w5 (ρ 5) (tm_ai (tm_T x) 864 (tm_ui (tm_ui (tm_ui (tm_ui (s_cu σ) (4 * (s_nm σ)) (b)) ((4 * (s_nm σ)) + 1) (pl)) ((4 * (s_nm σ)) + 2) (pl + len)) ((4 * (s_nm σ)) + 3) (p))) := ⟨_, rfl⟩
  show tm_V x (tm_H x (tm_u2 w5 (ρ 5) (tm_ai (tm_T x) 864 (tm_ui (tm_ui (tm_ui (tm_ui (s_cu σ) (4 * (s_nm σ)) (b)) ((4 * (s_nm σ)) + 1) (pl)) ((4 * (s_nm σ)) + 2) (pl + len)) ((4 * (s_nm σ)) + 3) (p))))) 0 0 57 [(0, .ref (ρ 0)), (1, .int (I (p))), (2, .int (I (b))), (3, .int (I (pl))), (4, .int (I (len))), (5, .int (I (j)))] []
  rw [← hw8]
  have hw7_ρ_5 : w7 (ρ 5) = some (.inl (tm_ai (tm_T x) 864 (tm_ui (tm_ui (tm_ui (tm_ui (s_cu σ) (4 * (s_nm σ)) (b)) ((4 * (s_nm σ)) + 1) (pl)) ((4 * (s_nm σ)) + 2) (pl + len)) ((4 * (s_nm σ)) + 3) (p)))) := by rw [hw8]; first | done | exact tm_u2_s
  have hw7_ρ_0 := (show w7 (ρ 0) = _ by rw [hw8]; exact tm_u2_n (fun z => absurd (hw5_ρ_5.symm.trans (z ▸ hw5_ρ_0)) (by intro q; cases q))).trans hw5_ρ_0
  have hw7_ρ_1 := (show w7 (ρ 1) = _ by rw [hw8]; exact tm_u2_n (hmd 1 5 (by decide) (by decide) (by decide))).trans hw5_ρ_1
  have hw7_ρ_2 := (show w7 (ρ 2) = _ by rw [hw8]; exact tm_u2_n (hmd 2 5 (by decide) (by decide) (by decide))).trans hw5_ρ_2
  have hw7_ρ_3 := (show w7 (ρ 3) = _ by rw [hw8]; exact tm_u2_n (hmd 3 5 (by decide) (by decide) (by decide))).trans hw5_ρ_3
  have hw7_ρ_4 := (show w7 (ρ 4) = _ by rw [hw8]; exact tm_u2_n (hmd 4 5 (by decide) (by decide) (by decide))).trans hw5_ρ_4
  have hw7_ρ_6 := (show w7 (ρ 6) = _ by rw [hw8]; exact tm_u2_n (hmd 6 5 (by decide) (by decide) (by decide))).trans hw5_ρ_6
  refine tm_aload_n 0 hC dX6_add_57 rfl rfl ?_
  refine tm_getf2 hC f_X6_33 hw7_ρ_0 rfl dX6_add_58 ?_
  refine tm_aload_n 0 hC dX6_add_61 rfl rfl ?_
  refine tm_getf2 hC f_X6_63 hw7_ρ_0 rfl dX6_add_62 ?_
  refine tm_iload 5 hC dX6_add_65 rfl ?_
  refine tm_zast2 hC hw7_ρ_6 (by omega) (by omega) dX6_add_67 ?_
  obtain ⟨w9, hw10⟩ : ∃ z, z = tm_u2 w7 (ρ 6) (tm_az (tm_T x) 216 (tm_ui (s_aj σ) (s_nm σ) (j))) := ⟨_, rfl⟩
  show tm_V x (tm_H x (tm_u2 w7 (ρ 6) (tm_az (tm_T x) 216 (tm_ui (s_aj σ) (s_nm σ) (j))))) 0 0 68 [(0, .ref (ρ 0)), (1, .int (I (p))), (2, .int (I (b))), (3, .int (I (pl))), (4, .int (I (len))), (5, .int (I (j)))] []
  rw [← hw10]
  have hw9_ρ_6 : w9 (ρ 6) = some (.inl (tm_az (tm_T x) 216 (tm_ui (s_aj σ) (s_nm σ) (j)))) := by rw [hw10]; first | done | exact tm_u2_s
  have hw9_ρ_0 := (show w9 (ρ 0) = _ by rw [hw10]; exact tm_u2_n (fun z => absurd (hw7_ρ_6.symm.trans (z ▸ hw7_ρ_0)) (by intro q; cases q))).trans hw7_ρ_0
  have hw9_ρ_1 := (show w9 (ρ 1) = _ by rw [hw10]; exact tm_u2_n (hmd 1 6 (by decide) (by decide) (by decide))).trans hw7_ρ_1
  have hw9_ρ_2 := (show w9 (ρ 2) = _ by rw [hw10]; exact tm_u2_n (hmd 2 6 (by decide) (by decide) (by decide))).trans hw7_ρ_2
  have hw9_ρ_3 := (show w9 (ρ 3) = _ by rw [hw10]; exact tm_u2_n (hmd 3 6 (by decide) (by decide) (by decide))).trans hw7_ρ_3
  have hw9_ρ_4 := (show w9 (ρ 4) = _ by rw [hw10]; exact tm_u2_n (hmd 4 6 (by decide) (by decide) (by decide))).trans hw7_ρ_4
  have hw9_ρ_5 := (show w9 (ρ 5) = _ by rw [hw10]; exact tm_u2_n (hmd 5 6 (by decide) (by decide) (by decide))).trans hw7_ρ_5
  refine tm_aload_n 0 hC dX6_add_68 rfl rfl ?_
  refine tm_dup hC dX6_add_69 rfl ?_
  refine tm_getf2 hC f_X6_63 hw9_ρ_0 rfl dX6_add_70 ?_
  refine tm_iconst hC dX6_add_73 ?_
  refine tm_iadd hC dX6_add_74 ?_
  refine tm_putf2 hC f_X6_63 hw9_ρ_0 (tt_7_10 _) (Nat.le_of_ble_eq_true rfl) dX6_add_75 ?_
  obtain ⟨w11, hw12⟩ : ∃ z, z = tm_u2 w9 (ρ 0) (.inr (7, [.int (I (th)), .int (I (s_nb σ)), .ref (ρ 1), .int (I (s_nd σ)), .ref (ρ 2), .int (I (s_np σ)), .ref (ρ 3), .ref (ρ 4), .int (I (s_sw σ)), .int (I (s_jt σ)), .int (I ((s_nm σ) + 1)), .ref (ρ 5), .ref (ρ 6), .int (I (sf)), .int (I (se))])) := ⟨_, rfl⟩
  show tm_V x (tm_H x (tm_u2 w9 (ρ 0) (.inr (7, [.int (I (th)), .int (I (s_nb σ)), .ref (ρ 1), .int (I (s_nd σ)), .ref (ρ 2), .int (I (s_np σ)), .ref (ρ 3), .ref (ρ 4), .int (I (s_sw σ)), .int (I (s_jt σ)), .int (I ((s_nm σ) + 1)), .ref (ρ 5), .ref (ρ 6), .int (I (sf)), .int (I (se))])))) 0 0 78 [(0, .ref (ρ 0)), (1, .int (I (p))), (2, .int (I (b))), (3, .int (I (pl))), (4, .int (I (len))), (5, .int (I (j)))] []
  rw [← hw12]
  have hw11_ρ_0 : w11 (ρ 0) = some (.inl (.inr (7, [.int (I (th)), .int (I (s_nb σ)), .ref (ρ 1), .int (I (s_nd σ)), .ref (ρ 2), .int (I (s_np σ)), .ref (ρ 3), .ref (ρ 4), .int (I (s_sw σ)), .int (I (s_jt σ)), .int (I ((s_nm σ) + 1)), .ref (ρ 5), .ref (ρ 6), .int (I (sf)), .int (I (se))]))) := by rw [hw12]; first | done | exact tm_u2_s
  have hw11_ρ_1 := (show w11 (ρ 1) = _ by rw [hw12]; exact tm_u2_n (fun z => absurd (hw9_ρ_0.symm.trans (z ▸ hw9_ρ_1)) (by intro q; cases q))).trans hw9_ρ_1
  have hw11_ρ_2 := (show w11 (ρ 2) = _ by rw [hw12]; exact tm_u2_n (fun z => absurd (hw9_ρ_0.symm.trans (z ▸ hw9_ρ_2)) (by intro q; cases q))).trans hw9_ρ_2
  have hw11_ρ_3 := (show w11 (ρ 3) = _ by rw [hw12]; exact tm_u2_n (fun z => absurd (hw9_ρ_0.symm.trans (z ▸ hw9_ρ_3)) (by intro q; cases q))).trans hw9_ρ_3
  have hw11_ρ_4 := (show w11 (ρ 4) = _ by rw [hw12]; exact tm_u2_n (fun z => absurd (hw9_ρ_0.symm.trans (z ▸ hw9_ρ_4)) (by intro q; cases q))).trans hw9_ρ_4
  have hw11_ρ_5 := (show w11 (ρ 5) = _ by rw [hw12]; exact tm_u2_n (fun z => absurd (hw9_ρ_0.symm.trans (z ▸ hw9_ρ_5)) (by intro q; cases q))).trans hw9_ρ_5
  have hw11_ρ_6 := (show w11 (ρ 6) = _ by rw [hw12]; exact tm_u2_n (fun z => absurd (hw9_ρ_0.symm.trans (z ▸ hw9_ρ_6)) (by intro q; cases q))).trans hw9_ρ_6
  exact tm_vret hC hR dX6_add_78 (⟨⟨hw11_ρ_0, hw11_ρ_1, hw11_ρ_2, hw11_ρ_3, hw11_ρ_4, hw11_ρ_5, hw11_ρ_6, hmd⟩, rfl⟩)

set_option maxHeartbeats 4000000 in
set_option maxRecDepth 100000 in
theorem c_M_lessLeft (γ : tmG) (hst : γ.1.stackTraces = false) (Λ : tmL) (ρ : Nat → Nat) (th sf se : Int) (σ : ST) (hM : RM γ.2.2.1 Λ ρ th sf se σ) (hw : WF0 σ) (p : Int) (hp : 0 ≤ p ∧ p < s_np σ) (hl : 1 ≤ s_wa σ (4 * p + 3)) : tm_Con γ (tm_h2 γ.2.1 γ.2.2.1 γ.2.2.2.1) M_X6_lessLeft 1 0 0 [.ref (ρ 0), .int (I (p))] Λ (fun v w' => RM γ.2.2.1 w' ρ th sf se (less σ p) ∧ v = some (.int (I (s_wa σ (4 * p + 3) - 1)))) := by
  refine tm_con hst (by decide) (Nat.le_of_ble_eq_true rfl) (fun x hB hR => ?_)
  have hg := hB.1
  subst hg
  have hC : tm_C x cX6_lessLeft RX6 (some FieldType.int) := hB.2.2.2.1
  obtain ⟨hm0, hm1, hm2, hm3, hm4, hm5, hm6, hmd⟩ := id hM
  have hn := wf_n hw
  have hp9 := wf_p hw p hp
  show tm_V x (tm_H x Λ) 0 0 0 [(0, .ref (ρ 0)), (1, .int (I (p)))] []
  refine tm_aload_n 0 hC dX6_lessLeft_0 rfl rfl ?_
  refine tm_getf2 hC f_X6_16 hm0 rfl dX6_lessLeft_1 ?_
  refine tm_iconst hC dX6_lessLeft_4 ?_
  refine tm_iload_n 1 hC dX6_lessLeft_5 rfl rfl ?_
  refine tm_imul hC dX6_lessLeft_6 ?_
  refine tm_iconst hC dX6_lessLeft_7 ?_
  refine tm_iadd hC dX6_lessLeft_8 ?_
  refine tm_dup2 hC dX6_lessLeft_9 rfl rfl ?_
  refine tm_iald2 hC hm3 (by omega) dX6_lessLeft_10 ?_
  refine tm_iconst hC dX6_lessLeft_11 ?_
  refine tm_isub hC dX6_lessLeft_12 ?_
  refine tm_iast2 hC hm3 (by omega) dX6_lessLeft_13 ?_
  obtain ⟨w1, hw2⟩ : ∃ z, z = tm_u2 Λ (ρ 3) (tm_ai (tm_T x) 48 (tm_ui (s_wa σ) ((4 * p) + 3) (((s_wa σ) ((4 * p) + 3)) - 1))) := ⟨_, rfl⟩
  show tm_V x (tm_H x (tm_u2 Λ (ρ 3) (tm_ai (tm_T x) 48 (tm_ui (s_wa σ) ((4 * p) + 3) (((s_wa σ) ((4 * p) + 3)) - 1))))) 0 0 14 [(0, .ref (ρ 0)), (1, .int (I (p)))] []
  rw [← hw2]
  have hw1_ρ_3 : w1 (ρ 3) = some (.inl (tm_ai (tm_T x) 48 (tm_ui (s_wa σ) ((4 * p) + 3) (((s_wa σ) ((4 * p) + 3)) - 1)))) := by rw [hw2]; first | done | exact tm_u2_s
  have hw1_ρ_0 := (show w1 (ρ 0) = _ by rw [hw2]; exact tm_u2_n (fun z => absurd (hm3.symm.trans (z ▸ hm0)) (by intro q; cases q))).trans hm0
  have hw1_ρ_1 := (show w1 (ρ 1) = _ by rw [hw2]; exact tm_u2_n (hmd 1 3 (by decide) (by decide) (by decide))).trans hm1
  have hw1_ρ_2 := (show w1 (ρ 2) = _ by rw [hw2]; exact tm_u2_n (hmd 2 3 (by decide) (by decide) (by decide))).trans hm2
  have hw1_ρ_4 := (show w1 (ρ 4) = _ by rw [hw2]; exact tm_u2_n (hmd 4 3 (by decide) (by decide) (by decide))).trans hm4
  have hw1_ρ_5 := (show w1 (ρ 5) = _ by rw [hw2]; exact tm_u2_n (hmd 5 3 (by decide) (by decide) (by decide))).trans hm5
  have hw1_ρ_6 := (show w1 (ρ 6) = _ by rw [hw2]; exact tm_u2_n (hmd 6 3 (by decide) (by decide) (by decide))).trans hm6
  refine tm_aload_n 0 hC dX6_lessLeft_14 rfl rfl ?_
  refine tm_getf2 hC f_X6_16 hw1_ρ_0 rfl dX6_lessLeft_15 ?_
  refine tm_iconst hC dX6_lessLeft_18 ?_
  refine tm_iload_n 1 hC dX6_lessLeft_19 rfl rfl ?_
  refine tm_imul hC dX6_lessLeft_20 ?_
  refine tm_iconst hC dX6_lessLeft_21 ?_
  refine tm_iadd hC dX6_lessLeft_22 ?_
  refine tm_iald2 hC hw1_ρ_3 (by omega) dX6_lessLeft_23 ?_
  exact tm_iret hC hR dX6_lessLeft_24 (⟨⟨hw1_ρ_0, hw1_ρ_1, hw1_ρ_2, hw1_ρ_3, hw1_ρ_4, hw1_ρ_5, hw1_ρ_6, hmd⟩, by rw [tm_ui_s]⟩)

set_option maxHeartbeats 4000000 in
set_option maxRecDepth 100000 in
theorem c_M_cut (γ : tmG) (hst : γ.1.stackTraces = false) (Λ : tmL) (ρ : Nat → Nat) (th sf se : Int) (σ : ST) (hM : RM γ.2.2.1 Λ ρ th sf se σ) (hw : WF0 σ) (p b pl : Int) (hr : (-2147483648 ≤ p ∧ p ≤ 2147483647) ∧ (-2147483648 ≤ b ∧ b ≤ 2147483647) ∧ (-2147483648 ≤ pl ∧ pl ≤ 2147483647)) (hW : WF σ) : tm_Con γ (tm_h2 γ.2.1 γ.2.2.1 γ.2.2.2.1) M_X6_cut 4 0 0 [.ref (ρ 0), .int (I (p)), .int (I (b)), .int (I (pl))] Λ (fun v w' => ∃ k sf' se' r σ', RM γ.2.2.1 w' ρ k sf' se' σ' ∧ v = some (.int (I r)) ∧ Sp_cut σ p b pl k σ' r) := by
  refine tm_con hst (by decide) (Nat.le_of_ble_eq_true rfl) (fun x hB hR => ?_)
  have hg := hB.1
  subst hg
  have hC : tm_C x cX6_cut RX6 (some FieldType.int) := hB.2.2.2.1
  obtain ⟨hm0, hm1, hm2, hm3, hm4, hm5, hm6, hmd⟩ := id hM
  have hn := wf_n hw
  show tm_V x (tm_H x Λ) 0 0 0 [(0, .ref (ρ 0)), (1, .int (I (p))), (2, .int (I (b))), (3, .int (I (pl)))] []
  refine tm_aload_n 0 hC dX6_cut_0 rfl rfl ?_
  refine tm_iconst hC dX6_cut_1 ?_
  refine tm_putf2 hC f_X6_36 hm0 (tt_7_0 _) (Nat.le_of_ble_eq_true rfl) dX6_cut_2 ?_
  obtain ⟨w1, hw2⟩ : ∃ z, z = tm_u2 Λ (ρ 0) (.inr (7, [.int (I (0)), .int (I (s_nb σ)), .ref (ρ 1), .int (I (s_nd σ)), .ref (ρ 2), .int (I (s_np σ)), .ref (ρ 3), .ref (ρ 4), .int (I (s_sw σ)), .int (I (s_jt σ)), .int (I (s_nm σ)), .ref (ρ 5), .ref (ρ 6), .int (I (sf)), .int (I (se))])) := ⟨_, rfl⟩
  show tm_V x (tm_H x (tm_u2 Λ (ρ 0) (.inr (7, [.int (I (0)), .int (I (s_nb σ)), .ref (ρ 1), .int (I (s_nd σ)), .ref (ρ 2), .int (I (s_np σ)), .ref (ρ 3), .ref (ρ 4), .int (I (s_sw σ)), .int (I (s_jt σ)), .int (I (s_nm σ)), .ref (ρ 5), .ref (ρ 6), .int (I (sf)), .int (I (se))])))) 0 0 5 [(0, .ref (ρ 0)), (1, .int (I (p))), (2, .int (I (b))), (3, .int (I (pl)))] []
  rw [← hw2]
  have hw1_ρ_0 : w1 (ρ 0) = some (.inl (.inr (7, [.int (I (0)), .int (I (s_nb σ)), .ref (ρ 1), .int (I (s_nd σ)), .ref (ρ 2), .int (I (s_np σ)), .ref (ρ 3), .ref (ρ 4), .int (I (s_sw σ)), .int (I (s_jt σ)), .int (I (s_nm σ)), .ref (ρ 5), .ref (ρ 6), .int (I (sf)), .int (I (se))]))) := by rw [hw2]; first | done | exact tm_u2_s
  have hw1_ρ_1 := (show w1 (ρ 1) = _ by rw [hw2]; exact tm_u2_n (fun z => absurd (hm0.symm.trans (z ▸ hm1)) (by intro q; cases q))).trans hm1
  have hw1_ρ_2 := (show w1 (ρ 2) = _ by rw [hw2]; exact tm_u2_n (fun z => absurd (hm0.symm.trans (z ▸ hm2)) (by intro q; cases q))).trans hm2
  have hw1_ρ_3 := (show w1 (ρ 3) = _ by rw [hw2]; exact tm_u2_n (fun z => absurd (hm0.symm.trans (z ▸ hm3)) (by intro q; cases q))).trans hm3
  have hw1_ρ_4 := (show w1 (ρ 4) = _ by rw [hw2]; exact tm_u2_n (fun z => absurd (hm0.symm.trans (z ▸ hm4)) (by intro q; cases q))).trans hm4
  have hw1_ρ_5 := (show w1 (ρ 5) = _ by rw [hw2]; exact tm_u2_n (fun z => absurd (hm0.symm.trans (z ▸ hm5)) (by intro q; cases q))).trans hm5
  have hw1_ρ_6 := (show w1 (ρ 6) = _ by rw [hw2]; exact tm_u2_n (fun z => absurd (hm0.symm.trans (z ▸ hm6)) (by intro q; cases q))).trans hm6
  have hM_w1 : RM (tm_T x) w1 ρ 0 sf se σ := ⟨hw1_ρ_0, hw1_ρ_1, hw1_ρ_2, hw1_ρ_3, hw1_ρ_4, hw1_ρ_5, hw1_ρ_6, hmd⟩
  refine tm_aload_n 0 hC dX6_cut_5 rfl rfl ?_
  refine tm_iload_n 1 hC dX6_cut_6 rfl rfl ?_
  refine tm_callV (b := 0) (n := 0) (rest := []) hC (c_M_isPart (tm_g x) hst w1 ρ 0 sf se σ hM_w1 hw p (by omega) ) k_X6_114 (by rw [hB.2.2.1]; exact ⟨Nat.le_of_ble_eq_true rfl, Nat.le_of_ble_eq_true rfl⟩) rfl (tm_rec2 hC hw1_ρ_0 rfl) rfl (by decide) dX6_cut_7 (fun v_7 w_7 hp_7 => ?_)
  obtain ⟨rfl, rfl⟩ := hp_7
  show tm_V x (tm_H x w1) 0 0 10 [(0, .ref (ρ 0)), (1, .int (I (p))), (2, .int (I (b))), (3, .int (I (pl)))] [.int (I (bi (0 ≤ p ∧ p ≤ s_np σ - 1)))]
  refine tm_ifb_eq 21 hC dX6_cut_10 (by decide) (fun c_10 => ?_) (fun c_10 => ?_)
  · refine tm_aload_n 0 hC dX6_cut_21 rfl rfl ?_
    refine tm_iconst hC dX6_cut_22 ?_
    refine tm_callV (b := 0) (n := 0) (rest := []) hC (c_M_fail (tm_g x) hst w1 ρ 0 sf se σ hM_w1 hw 1) k_X6_49 (by rw [hB.2.2.1]; exact ⟨Nat.le_of_ble_eq_true rfl, Nat.le_of_ble_eq_true rfl⟩) rfl (tm_rec2 hC hw1_ρ_0 rfl) rfl (by decide) dX6_cut_23 (fun v_23 w_23 hp_23 => ?_)
    obtain ⟨hf_23, rfl⟩ := hp_23
    obtain ⟨hm0_23, hm1_23, hm2_23, hm3_23, hm4_23, hm5_23, hm6_23, -⟩ := id hf_23
    show tm_V x (tm_H x w_23) 0 0 26 [(0, .ref (ρ 0)), (1, .int (I (p))), (2, .int (I (b))), (3, .int (I (pl)))] [.int (I (0))]
    exact tm_iret hC hR dX6_cut_26 (⟨1, sf, se, 0, σ, hf_23, rfl, Or.inl ⟨by rw [okPB_i]; omega, rfl, rfl⟩⟩)
  · refine tm_aload_n 0 hC dX6_cut_13 rfl rfl ?_
    refine tm_iload_n 2 hC dX6_cut_14 rfl rfl ?_
    refine tm_callV (b := 0) (n := 0) (rest := []) hC (c_M_isBoard (tm_g x) hst w1 ρ 0 sf se σ hM_w1 hw b (by omega) ) k_X6_53 (by rw [hB.2.2.1]; exact ⟨Nat.le_of_ble_eq_true rfl, Nat.le_of_ble_eq_true rfl⟩) rfl (tm_rec2 hC hw1_ρ_0 rfl) rfl (by decide) dX6_cut_15 (fun v_15 w_15 hp_15 => ?_)
    obtain ⟨rfl, rfl⟩ := hp_15
    show tm_V x (tm_H x w1) 0 0 18 [(0, .ref (ρ 0)), (1, .int (I (p))), (2, .int (I (b))), (3, .int (I (pl)))] [.int (I (bi (0 ≤ b ∧ b ≤ s_nb σ - 1)))]
    refine tm_ifb_ne 27 hC dX6_cut_18 (by decide) (fun c_18 => ?_) (fun c_18 => ?_)
    · refine tm_aload_n 0 hC dX6_cut_27 rfl rfl ?_
      refine tm_iload_n 1 hC dX6_cut_28 rfl rfl ?_
      refine tm_iconst hC dX6_cut_29 ?_
      refine tm_callV (b := 0) (n := 0) (rest := []) hC (c_M_want (tm_g x) hst w1 ρ 0 sf se σ hM_w1 hw p (by omega) 3 (by omega) ) k_X6_79 (by rw [hB.2.2.1]; exact ⟨Nat.le_of_ble_eq_true rfl, Nat.le_of_ble_eq_true rfl⟩) rfl (tm_rec2 hC hw1_ρ_0 rfl) rfl (by decide) dX6_cut_30 (fun v_30 w_30 hp_30 => ?_)
      obtain ⟨rfl, rfl, hb_30⟩ := hp_30
      show tm_V x (tm_H x w1) 0 0 33 [(0, .ref (ρ 0)), (1, .int (I (p))), (2, .int (I (b))), (3, .int (I (pl)))] [.int (I (s_wa σ (4 * p + 3)))]
      refine tm_if_eq 63 hC dX6_cut_33 (by decide) (by omega) (fun c_33 => ?_) (fun c_33 => ?_)
      · refine tm_aload_n 0 hC dX6_cut_63 rfl rfl ?_
        refine tm_iconst hC dX6_cut_64 ?_
        refine tm_callV (b := 0) (n := 0) (rest := []) hC (c_M_fail (tm_g x) hst w1 ρ 0 sf se σ hM_w1 hw 2) k_X6_49 (by rw [hB.2.2.1]; exact ⟨Nat.le_of_ble_eq_true rfl, Nat.le_of_ble_eq_true rfl⟩) rfl (tm_rec2 hC hw1_ρ_0 rfl) rfl (by decide) dX6_cut_65 (fun v_65 w_65 hp_65 => ?_)
        obtain ⟨hf_65, rfl⟩ := hp_65
        obtain ⟨hm0_65, hm1_65, hm2_65, hm3_65, hm4_65, hm5_65, hm6_65, -⟩ := id hf_65
        show tm_V x (tm_H x w_65) 0 0 68 [(0, .ref (ρ 0)), (1, .int (I (p))), (2, .int (I (b))), (3, .int (I (pl)))] [.int (I (0))]
        exact tm_iret hC hR dX6_cut_68 (⟨2, sf, se, 0, σ, hf_65, rfl, Or.inr (Or.inl ⟨by rw [okPB_i]; omega, Or.inl (by omega), rfl, rfl⟩)⟩)
      · have hp9 := wf_p hw p (by omega)
        refine tm_iload_n 3 hC dX6_cut_36 rfl rfl ?_
        refine tm_iconst hC dX6_cut_37 ?_
        refine tm_sipush hC dX6_cut_38 rfl ?_
        refine tm_callS (b := 0) (n := 0) (rest := []) hC (c_M_isIn (tm_g x) hst _ w1 pl 0 3000 (by omega)) k_X6_42 (by rw [hB.2.2.1]; exact ⟨Nat.le_of_ble_eq_true rfl, Nat.le_of_ble_eq_true rfl⟩) rfl rfl (by decide) dX6_cut_41 (fun v_41 w_41 hp_41 => ?_)
        obtain ⟨rfl, rfl⟩ := hp_41
        show tm_V x (tm_H x w1) 0 0 44 [(0, .ref (ρ 0)), (1, .int (I (p))), (2, .int (I (b))), (3, .int (I (pl)))] [.int (I (bi (0 ≤ pl ∧ pl ≤ 3000)))]
        refine tm_ifb_eq 63 hC dX6_cut_44 (by decide) (fun c_44 => ?_) (fun c_44 => ?_)
        · refine tm_aload_n 0 hC dX6_cut_63 rfl rfl ?_
          refine tm_iconst hC dX6_cut_64 ?_
          refine tm_callV (b := 0) (n := 0) (rest := []) hC (c_M_fail (tm_g x) hst w1 ρ 0 sf se σ hM_w1 hw 2) k_X6_49 (by rw [hB.2.2.1]; exact ⟨Nat.le_of_ble_eq_true rfl, Nat.le_of_ble_eq_true rfl⟩) rfl (tm_rec2 hC hw1_ρ_0 rfl) rfl (by decide) dX6_cut_65 (fun v_65 w_65 hp_65 => ?_)
          obtain ⟨hf_65, rfl⟩ := hp_65
          obtain ⟨hm0_65, hm1_65, hm2_65, hm3_65, hm4_65, hm5_65, hm6_65, -⟩ := id hf_65
          show tm_V x (tm_H x w_65) 0 0 68 [(0, .ref (ρ 0)), (1, .int (I (p))), (2, .int (I (b))), (3, .int (I (pl)))] [.int (I (0))]
          exact tm_iret hC hR dX6_cut_68 (⟨2, sf, se, 0, σ, hf_65, rfl, Or.inr (Or.inl ⟨by rw [okPB_i]; omega, Or.inr (fun z => by have h1 := z.1; have h2 := z.2.1; have hp9 := wf_p hw p (by omega); have hb9 := wf_b hw b (by omega); omega), rfl, rfl⟩)⟩)
        · refine tm_aload_n 0 hC dX6_cut_47 rfl rfl ?_
          refine tm_iload_n 1 hC dX6_cut_48 rfl rfl ?_
          refine tm_aload_n 0 hC dX6_cut_49 rfl rfl ?_
          refine tm_iload_n 1 hC dX6_cut_50 rfl rfl ?_
          refine tm_iconst hC dX6_cut_51 ?_
          refine tm_callV (b := 0) (n := 0) (rest := [.int (I (p)), .ref (ρ 0)]) hC (c_M_want (tm_g x) hst w1 ρ 0 sf se σ hM_w1 hw p (by omega) 0 (by omega) ) k_X6_79 (by rw [hB.2.2.1]; exact ⟨Nat.le_of_ble_eq_true rfl, Nat.le_of_ble_eq_true rfl⟩) rfl (tm_rec2 hC hw1_ρ_0 rfl) rfl (by simp [Value.category]) dX6_cut_52 (fun v_52 w_52 hp_52 => ?_)
          obtain ⟨rfl, rfl, hb_52⟩ := hp_52
          show tm_V x (tm_H x w1) 0 0 55 [(0, .ref (ρ 0)), (1, .int (I (p))), (2, .int (I (b))), (3, .int (I (pl)))] [.int (I (s_wa σ (4 * p + 0))), .int (I (p)), .ref (ρ 0)]
          refine tm_iload_n 2 hC dX6_cut_55 rfl rfl ?_
          refine tm_iload_n 3 hC dX6_cut_56 rfl rfl ?_
          refine tm_callV (b := 0) (n := 0) (rest := []) hC (c_M_isPossible (tm_g x) hst w1 ρ 0 sf se σ hM_w1 hw p (by omega) (s_wa σ (4 * p + 0)) b (by omega) pl (by omega)) k_X6_117 (by rw [hB.2.2.1]; exact ⟨Nat.le_of_ble_eq_true rfl, Nat.le_of_ble_eq_true rfl⟩) rfl (tm_rec2 hC hw1_ρ_0 rfl) rfl (by decide) dX6_cut_57 (fun v_57 w_57 hp_57 => ?_)
          obtain ⟨rfl, rfl⟩ := hp_57
          show tm_V x (tm_H x w1) 0 0 60 [(0, .ref (ρ 0)), (1, .int (I (p))), (2, .int (I (b))), (3, .int (I (pl)))] [.int (I (bi (Poss σ p (s_wa σ (4 * p + 0)) b pl)))]
          refine tm_ifb_ne 69 hC dX6_cut_60 (by decide) (fun c_60 => ?_) (fun c_60 => ?_)
          · have hrm := wf_room hW (p := p) (by omega) (by omega)
            have hbz := c_60.2.1
            have hb9 := wf_b hw b (by omega)
            refine tm_aload_n 0 hC dX6_cut_69 rfl rfl ?_
            refine tm_iload_n 1 hC dX6_cut_70 rfl rfl ?_
            refine tm_iload_n 2 hC dX6_cut_71 rfl rfl ?_
            refine tm_iload_n 3 hC dX6_cut_72 rfl rfl ?_
            refine tm_aload_n 0 hC dX6_cut_73 rfl rfl ?_
            refine tm_iload_n 1 hC dX6_cut_74 rfl rfl ?_
            refine tm_iconst hC dX6_cut_75 ?_
            refine tm_callV (b := 0) (n := 0) (rest := [.int (I (pl)), .int (I (b)), .int (I (p)), .ref (ρ 0)]) hC (c_M_want (tm_g x) hst w1 ρ 0 sf se σ hM_w1 hw p (by omega) 0 (by omega) ) k_X6_79 (by rw [hB.2.2.1]; exact ⟨Nat.le_of_ble_eq_true rfl, Nat.le_of_ble_eq_true rfl⟩) rfl (tm_rec2 hC hw1_ρ_0 rfl) rfl (by simp [Value.category]) dX6_cut_76 (fun v_76 w_76 hp_76 => ?_)
            obtain ⟨rfl, rfl, hb_76⟩ := hp_76
            show tm_V x (tm_H x w1) 0 0 79 [(0, .ref (ρ 0)), (1, .int (I (p))), (2, .int (I (b))), (3, .int (I (pl)))] [.int (I (s_wa σ (4 * p + 0))), .int (I (pl)), .int (I (b)), .int (I (p)), .ref (ρ 0)]
            refine tm_iconst hC dX6_cut_79 ?_
            have hwf_80 : WF0 (addC σ p b pl (s_wa σ (4 * p + 0)) 0) := addC_wf hw (by omega) (by omega) (by omega) (by omega) (by omega) c_60
            refine tm_callV (b := 0) (n := 0) (rest := []) hC (c_M_add (tm_g x) hst w1 ρ 0 sf se σ hM_w1 hw p (by omega) b (by omega) pl (s_wa σ (4 * p + 0)) 0 (by omega)) k_X6_124 (by rw [hB.2.2.1]; exact ⟨Nat.le_of_ble_eq_true rfl, Nat.le_of_ble_eq_true rfl⟩) rfl (tm_rec2 hC hw1_ρ_0 rfl) rfl (by decide) dX6_cut_80 (fun v_80 w_80 hp_80 => ?_)
            obtain ⟨ha_80, rfl⟩ := hp_80
            obtain ⟨hm0_80, hm1_80, hm2_80, hm3_80, hm4_80, hm5_80, hm6_80, -⟩ := id ha_80
            have en_80 : s_nm (addC σ p b pl (s_wa σ (4 * p + 0)) 0) = s_nm σ + 1 ∧ s_np (addC σ p b pl (s_wa σ (4 * p + 0)) 0) = s_np σ ∧ s_nb (addC σ p b pl (s_wa σ (4 * p + 0)) 0) = s_nb σ ∧ s_wa (addC σ p b pl (s_wa σ (4 * p + 0)) 0) = s_wa σ ∧ s_wo (addC σ p b pl (s_wa σ (4 * p + 0)) 0) = s_wo σ := ⟨by rfl, rfl, rfl, rfl, rfl⟩
            show tm_V x (tm_H x w_80) 0 0 83 [(0, .ref (ρ 0)), (1, .int (I (p))), (2, .int (I (b))), (3, .int (I (pl)))] []
            refine tm_aload_n 0 hC dX6_cut_83 rfl rfl ?_
            refine tm_iload_n 1 hC dX6_cut_84 rfl rfl ?_
            refine tm_callV (b := 0) (n := 0) (rest := []) hC (c_M_lessLeft (tm_g x) hst w_80 ρ 0 sf se (addC σ p b pl (s_wa σ (4 * p + 0)) 0) ha_80 hwf_80 p (by omega) (by rw [en_80.2.2.2.1]; omega)) k_X6_128 (by rw [hB.2.2.1]; exact ⟨Nat.le_of_ble_eq_true rfl, Nat.le_of_ble_eq_true rfl⟩) rfl (tm_rec2 hC hm0_80 rfl) rfl (by decide) dX6_cut_85 (fun v_85 w_85 hp_85 => ?_)
            obtain ⟨hl_85, rfl⟩ := hp_85
            obtain ⟨hm0_85, hm1_85, hm2_85, hm3_85, hm4_85, hm5_85, hm6_85, -⟩ := id hl_85
            show tm_V x (tm_H x w_85) 0 0 88 [(0, .ref (ρ 0)), (1, .int (I (p))), (2, .int (I (b))), (3, .int (I (pl)))] [.int (I (s_wa (addC σ p b pl (s_wa σ (4 * p + 0)) 0) (4 * p + 3) - 1))]
            exact tm_iret hC hR dX6_cut_88 (⟨0, sf, se, _, (less (addC σ p b pl (s_wa σ (4 * p + 0)) 0) p), hl_85, rfl, Or.inr (Or.inr ⟨by rw [okPB_i]; omega, by omega, c_60, rfl, rfl, rfl⟩)⟩)
          · refine tm_aload_n 0 hC dX6_cut_63 rfl rfl ?_
            refine tm_iconst hC dX6_cut_64 ?_
            refine tm_callV (b := 0) (n := 0) (rest := []) hC (c_M_fail (tm_g x) hst w1 ρ 0 sf se σ hM_w1 hw 2) k_X6_49 (by rw [hB.2.2.1]; exact ⟨Nat.le_of_ble_eq_true rfl, Nat.le_of_ble_eq_true rfl⟩) rfl (tm_rec2 hC hw1_ρ_0 rfl) rfl (by decide) dX6_cut_65 (fun v_65 w_65 hp_65 => ?_)
            obtain ⟨hf_65, rfl⟩ := hp_65
            obtain ⟨hm0_65, hm1_65, hm2_65, hm3_65, hm4_65, hm5_65, hm6_65, -⟩ := id hf_65
            show tm_V x (tm_H x w_65) 0 0 68 [(0, .ref (ρ 0)), (1, .int (I (p))), (2, .int (I (b))), (3, .int (I (pl)))] [.int (I (0))]
            exact tm_iret hC hR dX6_cut_68 (⟨2, sf, se, 0, σ, hf_65, rfl, Or.inr (Or.inl ⟨by rw [okPB_i]; omega, Or.inr c_60, rfl, rfl⟩)⟩)
    · refine tm_aload_n 0 hC dX6_cut_21 rfl rfl ?_
      refine tm_iconst hC dX6_cut_22 ?_
      refine tm_callV (b := 0) (n := 0) (rest := []) hC (c_M_fail (tm_g x) hst w1 ρ 0 sf se σ hM_w1 hw 1) k_X6_49 (by rw [hB.2.2.1]; exact ⟨Nat.le_of_ble_eq_true rfl, Nat.le_of_ble_eq_true rfl⟩) rfl (tm_rec2 hC hw1_ρ_0 rfl) rfl (by decide) dX6_cut_23 (fun v_23 w_23 hp_23 => ?_)
      obtain ⟨hf_23, rfl⟩ := hp_23
      obtain ⟨hm0_23, hm1_23, hm2_23, hm3_23, hm4_23, hm5_23, hm6_23, -⟩ := id hf_23
      show tm_V x (tm_H x w_23) 0 0 26 [(0, .ref (ρ 0)), (1, .int (I (p))), (2, .int (I (b))), (3, .int (I (pl)))] [.int (I (0))]
      exact tm_iret hC hR dX6_cut_26 (⟨1, sf, se, 0, σ, hf_23, rfl, Or.inl ⟨by rw [okPB_i]; omega, rfl, rfl⟩⟩)

set_option maxHeartbeats 4000000 in
set_option maxRecDepth 100000 in
theorem c_M_join (γ : tmG) (hst : γ.1.stackTraces = false) (Λ : tmL) (ρ : Nat → Nat) (th sf se : Int) (σ : ST) (hM : RM γ.2.2.1 Λ ρ th sf se σ) (hw : WF0 σ) (p a pa len b pb : Int) (hr : (-2147483648 ≤ p ∧ p ≤ 2147483647) ∧ (-2147483648 ≤ a ∧ a ≤ 2147483647) ∧ (-2147483648 ≤ pa ∧ pa ≤ 2147483647) ∧ (-2147483648 ≤ len ∧ len ≤ 2147483647) ∧ (-2147483648 ≤ b ∧ b ≤ 2147483647) ∧ (-2147483648 ≤ pb ∧ pb ≤ 2147483647)) (hW : WF σ) : tm_Con γ (tm_h2 γ.2.1 γ.2.2.1 γ.2.2.2.1) M_X6_join 4 0 0 [.ref (ρ 0), .int (I (p)), .int (I (a)), .int (I (pa)), .int (I (len)), .int (I (b)), .int (I (pb))] Λ (fun v w' => ∃ k sf' se' r σ', RM γ.2.2.1 w' ρ k sf' se' σ' ∧ v = some (.int (I r)) ∧ Sp_join σ p a pa len b pb k σ' r) := by
  refine tm_con hst (by decide) (Nat.le_of_ble_eq_true rfl) (fun x hB hR => ?_)
  have hg := hB.1
  subst hg
  have hC : tm_C x cX6_join RX6 (some FieldType.int) := hB.2.2.2.1
  obtain ⟨hm0, hm1, hm2, hm3, hm4, hm5, hm6, hmd⟩ := id hM
  have hn := wf_n hw
  show tm_V x (tm_H x Λ) 0 0 0 [(0, .ref (ρ 0)), (1, .int (I (p))), (2, .int (I (a))), (3, .int (I (pa))), (4, .int (I (len))), (5, .int (I (b))), (6, .int (I (pb)))] []
  refine tm_aload_n 0 hC dX6_join_0 rfl rfl ?_
  refine tm_iconst hC dX6_join_1 ?_
  refine tm_putf2 hC f_X6_36 hm0 (tt_7_0 _) (Nat.le_of_ble_eq_true rfl) dX6_join_2 ?_
  obtain ⟨w1, hw2⟩ : ∃ z, z = tm_u2 Λ (ρ 0) (.inr (7, [.int (I (0)), .int (I (s_nb σ)), .ref (ρ 1), .int (I (s_nd σ)), .ref (ρ 2), .int (I (s_np σ)), .ref (ρ 3), .ref (ρ 4), .int (I (s_sw σ)), .int (I (s_jt σ)), .int (I (s_nm σ)), .ref (ρ 5), .ref (ρ 6), .int (I (sf)), .int (I (se))])) := ⟨_, rfl⟩
  show tm_V x (tm_H x (tm_u2 Λ (ρ 0) (.inr (7, [.int (I (0)), .int (I (s_nb σ)), .ref (ρ 1), .int (I (s_nd σ)), .ref (ρ 2), .int (I (s_np σ)), .ref (ρ 3), .ref (ρ 4), .int (I (s_sw σ)), .int (I (s_jt σ)), .int (I (s_nm σ)), .ref (ρ 5), .ref (ρ 6), .int (I (sf)), .int (I (se))])))) 0 0 5 [(0, .ref (ρ 0)), (1, .int (I (p))), (2, .int (I (a))), (3, .int (I (pa))), (4, .int (I (len))), (5, .int (I (b))), (6, .int (I (pb)))] []
  rw [← hw2]
  have hw1_ρ_0 : w1 (ρ 0) = some (.inl (.inr (7, [.int (I (0)), .int (I (s_nb σ)), .ref (ρ 1), .int (I (s_nd σ)), .ref (ρ 2), .int (I (s_np σ)), .ref (ρ 3), .ref (ρ 4), .int (I (s_sw σ)), .int (I (s_jt σ)), .int (I (s_nm σ)), .ref (ρ 5), .ref (ρ 6), .int (I (sf)), .int (I (se))]))) := by rw [hw2]; first | done | exact tm_u2_s
  have hw1_ρ_1 := (show w1 (ρ 1) = _ by rw [hw2]; exact tm_u2_n (fun z => absurd (hm0.symm.trans (z ▸ hm1)) (by intro q; cases q))).trans hm1
  have hw1_ρ_2 := (show w1 (ρ 2) = _ by rw [hw2]; exact tm_u2_n (fun z => absurd (hm0.symm.trans (z ▸ hm2)) (by intro q; cases q))).trans hm2
  have hw1_ρ_3 := (show w1 (ρ 3) = _ by rw [hw2]; exact tm_u2_n (fun z => absurd (hm0.symm.trans (z ▸ hm3)) (by intro q; cases q))).trans hm3
  have hw1_ρ_4 := (show w1 (ρ 4) = _ by rw [hw2]; exact tm_u2_n (fun z => absurd (hm0.symm.trans (z ▸ hm4)) (by intro q; cases q))).trans hm4
  have hw1_ρ_5 := (show w1 (ρ 5) = _ by rw [hw2]; exact tm_u2_n (fun z => absurd (hm0.symm.trans (z ▸ hm5)) (by intro q; cases q))).trans hm5
  have hw1_ρ_6 := (show w1 (ρ 6) = _ by rw [hw2]; exact tm_u2_n (fun z => absurd (hm0.symm.trans (z ▸ hm6)) (by intro q; cases q))).trans hm6
  have hM_w1 : RM (tm_T x) w1 ρ 0 sf se σ := ⟨hw1_ρ_0, hw1_ρ_1, hw1_ρ_2, hw1_ρ_3, hw1_ρ_4, hw1_ρ_5, hw1_ρ_6, hmd⟩
  refine tm_aload_n 0 hC dX6_join_5 rfl rfl ?_
  refine tm_iload_n 1 hC dX6_join_6 rfl rfl ?_
  refine tm_callV (b := 0) (n := 0) (rest := []) hC (c_M_isPart (tm_g x) hst w1 ρ 0 sf se σ hM_w1 hw p (by omega) ) k_X6_114 (by rw [hB.2.2.1]; exact ⟨Nat.le_of_ble_eq_true rfl, Nat.le_of_ble_eq_true rfl⟩) rfl (tm_rec2 hC hw1_ρ_0 rfl) rfl (by decide) dX6_join_7 (fun v_7 w_7 hp_7 => ?_)
  obtain ⟨rfl, rfl⟩ := hp_7
  show tm_V x (tm_H x w1) 0 0 10 [(0, .ref (ρ 0)), (1, .int (I (p))), (2, .int (I (a))), (3, .int (I (pa))), (4, .int (I (len))), (5, .int (I (b))), (6, .int (I (pb)))] [.int (I (bi (0 ≤ p ∧ p ≤ s_np σ - 1)))]
  refine tm_ifb_eq 30 hC dX6_join_10 (by decide) (fun c_10 => ?_) (fun c_10 => ?_)
  · refine tm_aload_n 0 hC dX6_join_30 rfl rfl ?_
    refine tm_iconst hC dX6_join_31 ?_
    refine tm_callV (b := 0) (n := 0) (rest := []) hC (c_M_fail (tm_g x) hst w1 ρ 0 sf se σ hM_w1 hw 1) k_X6_49 (by rw [hB.2.2.1]; exact ⟨Nat.le_of_ble_eq_true rfl, Nat.le_of_ble_eq_true rfl⟩) rfl (tm_rec2 hC hw1_ρ_0 rfl) rfl (by decide) dX6_join_32 (fun v_32 w_32 hp_32 => ?_)
    obtain ⟨hf_32, rfl⟩ := hp_32
    obtain ⟨hm0_32, hm1_32, hm2_32, hm3_32, hm4_32, hm5_32, hm6_32, -⟩ := id hf_32
    show tm_V x (tm_H x w_32) 0 0 35 [(0, .ref (ρ 0)), (1, .int (I (p))), (2, .int (I (a))), (3, .int (I (pa))), (4, .int (I (len))), (5, .int (I (b))), (6, .int (I (pb)))] [.int (I (0))]
    exact tm_iret hC hR dX6_join_35 (⟨1, sf, se, 0, σ, hf_32, rfl, Or.inl ⟨by rw [okJ_i]; omega, rfl, rfl⟩⟩)
  · refine tm_aload_n 0 hC dX6_join_13 rfl rfl ?_
    refine tm_iload_n 2 hC dX6_join_14 rfl rfl ?_
    refine tm_callV (b := 0) (n := 0) (rest := []) hC (c_M_isBoard (tm_g x) hst w1 ρ 0 sf se σ hM_w1 hw a (by omega) ) k_X6_53 (by rw [hB.2.2.1]; exact ⟨Nat.le_of_ble_eq_true rfl, Nat.le_of_ble_eq_true rfl⟩) rfl (tm_rec2 hC hw1_ρ_0 rfl) rfl (by decide) dX6_join_15 (fun v_15 w_15 hp_15 => ?_)
    obtain ⟨rfl, rfl⟩ := hp_15
    show tm_V x (tm_H x w1) 0 0 18 [(0, .ref (ρ 0)), (1, .int (I (p))), (2, .int (I (a))), (3, .int (I (pa))), (4, .int (I (len))), (5, .int (I (b))), (6, .int (I (pb)))] [.int (I (bi (0 ≤ a ∧ a ≤ s_nb σ - 1)))]
    refine tm_ifb_eq 30 hC dX6_join_18 (by decide) (fun c_18 => ?_) (fun c_18 => ?_)
    · refine tm_aload_n 0 hC dX6_join_30 rfl rfl ?_
      refine tm_iconst hC dX6_join_31 ?_
      refine tm_callV (b := 0) (n := 0) (rest := []) hC (c_M_fail (tm_g x) hst w1 ρ 0 sf se σ hM_w1 hw 1) k_X6_49 (by rw [hB.2.2.1]; exact ⟨Nat.le_of_ble_eq_true rfl, Nat.le_of_ble_eq_true rfl⟩) rfl (tm_rec2 hC hw1_ρ_0 rfl) rfl (by decide) dX6_join_32 (fun v_32 w_32 hp_32 => ?_)
      obtain ⟨hf_32, rfl⟩ := hp_32
      obtain ⟨hm0_32, hm1_32, hm2_32, hm3_32, hm4_32, hm5_32, hm6_32, -⟩ := id hf_32
      show tm_V x (tm_H x w_32) 0 0 35 [(0, .ref (ρ 0)), (1, .int (I (p))), (2, .int (I (a))), (3, .int (I (pa))), (4, .int (I (len))), (5, .int (I (b))), (6, .int (I (pb)))] [.int (I (0))]
      exact tm_iret hC hR dX6_join_35 (⟨1, sf, se, 0, σ, hf_32, rfl, Or.inl ⟨by rw [okJ_i]; omega, rfl, rfl⟩⟩)
    · refine tm_aload_n 0 hC dX6_join_21 rfl rfl ?_
      refine tm_iload 5 hC dX6_join_22 rfl ?_
      refine tm_callV (b := 0) (n := 0) (rest := []) hC (c_M_isBoard (tm_g x) hst w1 ρ 0 sf se σ hM_w1 hw b (by omega) ) k_X6_53 (by rw [hB.2.2.1]; exact ⟨Nat.le_of_ble_eq_true rfl, Nat.le_of_ble_eq_true rfl⟩) rfl (tm_rec2 hC hw1_ρ_0 rfl) rfl (by decide) dX6_join_24 (fun v_24 w_24 hp_24 => ?_)
      obtain ⟨rfl, rfl⟩ := hp_24
      show tm_V x (tm_H x w1) 0 0 27 [(0, .ref (ρ 0)), (1, .int (I (p))), (2, .int (I (a))), (3, .int (I (pa))), (4, .int (I (len))), (5, .int (I (b))), (6, .int (I (pb)))] [.int (I (bi (0 ≤ b ∧ b ≤ s_nb σ - 1)))]
      refine tm_ifb_ne 36 hC dX6_join_27 (by decide) (fun c_27 => ?_) (fun c_27 => ?_)
      · have hp9 := wf_p hw p (by omega)
        have ha9 := wf_b hw a (by omega)
        have hb9 := wf_b hw b (by omega)
        refine tm_iload 4 hC dX6_join_36 rfl ?_
        refine tm_bipush hC dX6_join_38 rfl ?_
        refine tm_icmp_lt 62 hC dX6_join_40 (by decide) (by omega) (fun c_40 => ?_) (fun c_40 => ?_)
        · refine tm_aload_n 0 hC dX6_join_62 rfl rfl ?_
          refine tm_iconst hC dX6_join_63 ?_
          refine tm_callV (b := 0) (n := 0) (rest := []) hC (c_M_fail (tm_g x) hst w1 ρ 0 sf se σ hM_w1 hw 2) k_X6_49 (by rw [hB.2.2.1]; exact ⟨Nat.le_of_ble_eq_true rfl, Nat.le_of_ble_eq_true rfl⟩) rfl (tm_rec2 hC hw1_ρ_0 rfl) rfl (by decide) dX6_join_64 (fun v_64 w_64 hp_64 => ?_)
          obtain ⟨hf_64, rfl⟩ := hp_64
          obtain ⟨hm0_64, hm1_64, hm2_64, hm3_64, hm4_64, hm5_64, hm6_64, -⟩ := id hf_64
          show tm_V x (tm_H x w_64) 0 0 67 [(0, .ref (ρ 0)), (1, .int (I (p))), (2, .int (I (a))), (3, .int (I (pa))), (4, .int (I (len))), (5, .int (I (b))), (6, .int (I (pb)))] [.int (I (0))]
          exact tm_iret hC hR dX6_join_67 (⟨2, sf, se, 0, σ, hf_64, rfl, Or.inr (Or.inl ⟨by rw [okJ_i]; omega, by unfold oth; omega, rfl, rfl⟩)⟩)
        · refine tm_iload 4 hC dX6_join_43 rfl ?_
          refine tm_aload_n 0 hC dX6_join_45 rfl rfl ?_
          refine tm_iload_n 1 hC dX6_join_46 rfl rfl ?_
          refine tm_iconst hC dX6_join_47 ?_
          refine tm_callV (b := 0) (n := 0) (rest := [.int (I (len))]) hC (c_M_want (tm_g x) hst w1 ρ 0 sf se σ hM_w1 hw p (by omega) 0 (by omega) ) k_X6_79 (by rw [hB.2.2.1]; exact ⟨Nat.le_of_ble_eq_true rfl, Nat.le_of_ble_eq_true rfl⟩) rfl (tm_rec2 hC hw1_ρ_0 rfl) rfl (by simp [Value.category]) dX6_join_48 (fun v_48 w_48 hp_48 => ?_)
          obtain ⟨rfl, rfl, hb_48⟩ := hp_48
          show tm_V x (tm_H x w1) 0 0 51 [(0, .ref (ρ 0)), (1, .int (I (p))), (2, .int (I (a))), (3, .int (I (pa))), (4, .int (I (len))), (5, .int (I (b))), (6, .int (I (pb)))] [.int (I (s_wa σ (4 * p + 0))), .int (I (len))]
          refine tm_aload_n 0 hC dX6_join_51 rfl rfl ?_
          refine tm_getf2 hC f_X6_27 hw1_ρ_0 rfl dX6_join_52 ?_
          refine tm_iadd hC dX6_join_55 ?_
          refine tm_bipush hC dX6_join_56 rfl ?_
          refine tm_isub hC dX6_join_58 ?_
          refine tm_icmp_le 68 hC dX6_join_59 (by decide) (by omega) (fun c_59 => ?_) (fun c_59 => ?_)
          · refine tm_aload_n 0 hC dX6_join_68 rfl rfl ?_
            refine tm_iload_n 1 hC dX6_join_69 rfl rfl ?_
            refine tm_iconst hC dX6_join_70 ?_
            refine tm_callV (b := 0) (n := 0) (rest := []) hC (c_M_want (tm_g x) hst w1 ρ 0 sf se σ hM_w1 hw p (by omega) 0 (by omega) ) k_X6_79 (by rw [hB.2.2.1]; exact ⟨Nat.le_of_ble_eq_true rfl, Nat.le_of_ble_eq_true rfl⟩) rfl (tm_rec2 hC hw1_ρ_0 rfl) rfl (by decide) dX6_join_71 (fun v_71 w_71 hp_71 => ?_)
            obtain ⟨rfl, rfl, hb_71⟩ := hp_71
            show tm_V x (tm_H x w1) 0 0 74 [(0, .ref (ρ 0)), (1, .int (I (p))), (2, .int (I (a))), (3, .int (I (pa))), (4, .int (I (len))), (5, .int (I (b))), (6, .int (I (pb)))] [.int (I (s_wa σ (4 * p + 0)))]
            refine tm_aload_n 0 hC dX6_join_74 rfl rfl ?_
            refine tm_getf2 hC f_X6_27 hw1_ρ_0 rfl dX6_join_75 ?_
            refine tm_iadd hC dX6_join_78 ?_
            refine tm_iload 4 hC dX6_join_79 rfl ?_
            refine tm_isub hC dX6_join_81 ?_
            refine tm_istore [(7, .int (I (((s_wa σ (4 * p + 0)) + (s_jt σ)) - len))), (0, .ref (ρ 0)), (1, .int (I (p))), (2, .int (I (a))), (3, .int (I (pa))), (4, .int (I (len))), (5, .int (I (b))), (6, .int (I (pb)))] hC dX6_join_82 (by rw [hB.2.1]; exact Nat.le_of_ble_eq_true rfl) rfl ?_
            refine tm_aload_n 1 hC dX6_join_84 rfl rfl ?_
            refine tm_iload_n 2 hC dX6_join_85 rfl rfl ?_
            refine tm_iconst hC dX6_join_86 ?_
            refine tm_callV (b := 0) (n := 0) (rest := []) hC (c_M_want (tm_g x) hst w1 ρ 0 sf se σ hM_w1 hw p (by omega) 3 (by omega) ) k_X6_79 (by rw [hB.2.2.1]; exact ⟨Nat.le_of_ble_eq_true rfl, Nat.le_of_ble_eq_true rfl⟩) rfl (tm_rec2 hC hw1_ρ_0 rfl) rfl (by decide) dX6_join_87 (fun v_87 w_87 hp_87 => ?_)
            obtain ⟨rfl, rfl, hb_87⟩ := hp_87
            show tm_V x (tm_H x w1) 0 0 90 [(7, .int (I (((s_wa σ (4 * p + 0)) + (s_jt σ)) - len))), (0, .ref (ρ 0)), (1, .int (I (p))), (2, .int (I (a))), (3, .int (I (pa))), (4, .int (I (len))), (5, .int (I (b))), (6, .int (I (pb)))] [.int (I (s_wa σ (4 * p + 3)))]
            refine tm_if_eq 137 hC dX6_join_90 (by decide) (by omega) (fun c_90 => ?_) (fun c_90 => ?_)
            · refine tm_aload_n 1 hC dX6_join_137 rfl rfl ?_
              refine tm_iconst hC dX6_join_138 ?_
              refine tm_callV (b := 0) (n := 0) (rest := []) hC (c_M_fail (tm_g x) hst w1 ρ 0 sf se σ hM_w1 hw 3) k_X6_49 (by rw [hB.2.2.1]; exact ⟨Nat.le_of_ble_eq_true rfl, Nat.le_of_ble_eq_true rfl⟩) rfl (tm_rec2 hC hw1_ρ_0 rfl) rfl (by decide) dX6_join_139 (fun v_139 w_139 hp_139 => ?_)
              obtain ⟨hf_139, rfl⟩ := hp_139
              obtain ⟨hm0_139, hm1_139, hm2_139, hm3_139, hm4_139, hm5_139, hm6_139, -⟩ := id hf_139
              show tm_V x (tm_H x w_139) 0 0 142 [(7, .int (I (((s_wa σ (4 * p + 0)) + (s_jt σ)) - len))), (0, .ref (ρ 0)), (1, .int (I (p))), (2, .int (I (a))), (3, .int (I (pa))), (4, .int (I (len))), (5, .int (I (b))), (6, .int (I (pb)))] [.int (I (0))]
              exact tm_iret hC hR dX6_join_142 (⟨3, sf, se, 0, σ, hf_139, rfl, Or.inr (Or.inr (Or.inl ⟨by rw [okJ_i]; omega, by unfold oth; omega, Or.inl (by omega), rfl, Eqv_r σ⟩))⟩)
            · refine tm_aload_n 1 hC dX6_join_93 rfl rfl ?_
              refine tm_getf2 hC f_X6_19 hw1_ρ_0 rfl dX6_join_94 ?_
              refine tm_iload_n 2 hC dX6_join_97 rfl rfl ?_
              refine tm_zald2 hC hw1_ρ_4 (by omega) dX6_join_98 ?_
              refine tm_if_eq 137 hC dX6_join_99 (by decide) (by omega) (fun c_99 => ?_) (fun c_99 => ?_)
              · refine tm_aload_n 1 hC dX6_join_137 rfl rfl ?_
                refine tm_iconst hC dX6_join_138 ?_
                refine tm_callV (b := 0) (n := 0) (rest := []) hC (c_M_fail (tm_g x) hst w1 ρ 0 sf se σ hM_w1 hw 3) k_X6_49 (by rw [hB.2.2.1]; exact ⟨Nat.le_of_ble_eq_true rfl, Nat.le_of_ble_eq_true rfl⟩) rfl (tm_rec2 hC hw1_ρ_0 rfl) rfl (by decide) dX6_join_139 (fun v_139 w_139 hp_139 => ?_)
                obtain ⟨hf_139, rfl⟩ := hp_139
                obtain ⟨hm0_139, hm1_139, hm2_139, hm3_139, hm4_139, hm5_139, hm6_139, -⟩ := id hf_139
                show tm_V x (tm_H x w_139) 0 0 142 [(7, .int (I (((s_wa σ (4 * p + 0)) + (s_jt σ)) - len))), (0, .ref (ρ 0)), (1, .int (I (p))), (2, .int (I (a))), (3, .int (I (pa))), (4, .int (I (len))), (5, .int (I (b))), (6, .int (I (pb)))] [.int (I (0))]
                exact tm_iret hC hR dX6_join_142 (⟨3, sf, se, 0, σ, hf_139, rfl, Or.inr (Or.inr (Or.inl ⟨by rw [okJ_i]; omega, by unfold oth; omega, Or.inr (Or.inl (by omega)), rfl, Eqv_r σ⟩))⟩)
              · refine tm_iload_n 4 hC dX6_join_102 rfl rfl ?_
                refine tm_iconst hC dX6_join_103 ?_
                refine tm_sipush hC dX6_join_104 rfl ?_
                refine tm_callS (b := 0) (n := 0) (rest := []) hC (c_M_isIn (tm_g x) hst _ w1 pa 0 3000 (by omega)) k_X6_42 (by rw [hB.2.2.1]; exact ⟨Nat.le_of_ble_eq_true rfl, Nat.le_of_ble_eq_true rfl⟩) rfl rfl (by decide) dX6_join_107 (fun v_107 w_107 hp_107 => ?_)
                obtain ⟨rfl, rfl⟩ := hp_107
                show tm_V x (tm_H x w1) 0 0 110 [(7, .int (I (((s_wa σ (4 * p + 0)) + (s_jt σ)) - len))), (0, .ref (ρ 0)), (1, .int (I (p))), (2, .int (I (a))), (3, .int (I (pa))), (4, .int (I (len))), (5, .int (I (b))), (6, .int (I (pb)))] [.int (I (bi (0 ≤ pa ∧ pa ≤ 3000)))]
                refine tm_ifb_eq 137 hC dX6_join_110 (by decide) (fun c_110 => ?_) (fun c_110 => ?_)
                · refine tm_aload_n 1 hC dX6_join_137 rfl rfl ?_
                  refine tm_iconst hC dX6_join_138 ?_
                  refine tm_callV (b := 0) (n := 0) (rest := []) hC (c_M_fail (tm_g x) hst w1 ρ 0 sf se σ hM_w1 hw 3) k_X6_49 (by rw [hB.2.2.1]; exact ⟨Nat.le_of_ble_eq_true rfl, Nat.le_of_ble_eq_true rfl⟩) rfl (tm_rec2 hC hw1_ρ_0 rfl) rfl (by decide) dX6_join_139 (fun v_139 w_139 hp_139 => ?_)
                  obtain ⟨hf_139, rfl⟩ := hp_139
                  obtain ⟨hm0_139, hm1_139, hm2_139, hm3_139, hm4_139, hm5_139, hm6_139, -⟩ := id hf_139
                  show tm_V x (tm_H x w_139) 0 0 142 [(7, .int (I (((s_wa σ (4 * p + 0)) + (s_jt σ)) - len))), (0, .ref (ρ 0)), (1, .int (I (p))), (2, .int (I (a))), (3, .int (I (pa))), (4, .int (I (len))), (5, .int (I (b))), (6, .int (I (pb)))] [.int (I (0))]
                  exact tm_iret hC hR dX6_join_142 (⟨3, sf, se, 0, σ, hf_139, rfl, Or.inr (Or.inr (Or.inl ⟨by rw [okJ_i]; omega, by unfold oth; omega, Or.inr (Or.inr (Or.inl (fun z => by have h1 := z.1; have h2 := z.2.1; have hb9 := wf_b hw a (by omega); omega))), rfl, Eqv_r σ⟩))⟩)
                · refine tm_iload 7 hC dX6_join_113 rfl ?_
                  refine tm_iconst hC dX6_join_115 ?_
                  refine tm_sipush hC dX6_join_116 rfl ?_
                  refine tm_callS (b := 0) (n := 0) (rest := []) hC (c_M_isIn (tm_g x) hst _ w1 pb 0 3000 (by omega)) k_X6_42 (by rw [hB.2.2.1]; exact ⟨Nat.le_of_ble_eq_true rfl, Nat.le_of_ble_eq_true rfl⟩) rfl rfl (by decide) dX6_join_119 (fun v_119 w_119 hp_119 => ?_)
                  obtain ⟨rfl, rfl⟩ := hp_119
                  show tm_V x (tm_H x w1) 0 0 122 [(7, .int (I (((s_wa σ (4 * p + 0)) + (s_jt σ)) - len))), (0, .ref (ρ 0)), (1, .int (I (p))), (2, .int (I (a))), (3, .int (I (pa))), (4, .int (I (len))), (5, .int (I (b))), (6, .int (I (pb)))] [.int (I (bi (0 ≤ pb ∧ pb ≤ 3000)))]
                  refine tm_ifb_eq 137 hC dX6_join_122 (by decide) (fun c_122 => ?_) (fun c_122 => ?_)
                  · refine tm_aload_n 1 hC dX6_join_137 rfl rfl ?_
                    refine tm_iconst hC dX6_join_138 ?_
                    refine tm_callV (b := 0) (n := 0) (rest := []) hC (c_M_fail (tm_g x) hst w1 ρ 0 sf se σ hM_w1 hw 3) k_X6_49 (by rw [hB.2.2.1]; exact ⟨Nat.le_of_ble_eq_true rfl, Nat.le_of_ble_eq_true rfl⟩) rfl (tm_rec2 hC hw1_ρ_0 rfl) rfl (by decide) dX6_join_139 (fun v_139 w_139 hp_139 => ?_)
                    obtain ⟨hf_139, rfl⟩ := hp_139
                    obtain ⟨hm0_139, hm1_139, hm2_139, hm3_139, hm4_139, hm5_139, hm6_139, -⟩ := id hf_139
                    show tm_V x (tm_H x w_139) 0 0 142 [(7, .int (I (((s_wa σ (4 * p + 0)) + (s_jt σ)) - len))), (0, .ref (ρ 0)), (1, .int (I (p))), (2, .int (I (a))), (3, .int (I (pa))), (4, .int (I (len))), (5, .int (I (b))), (6, .int (I (pb)))] [.int (I (0))]
                    exact tm_iret hC hR dX6_join_142 (⟨3, sf, se, 0, σ, hf_139, rfl, Or.inr (Or.inr (Or.inl ⟨by rw [okJ_i]; omega, by unfold oth; omega, Or.inr (Or.inr (Or.inr (fun z => by have h1 := z.1; have h2 : pb + oth σ p len ≤ s_wo σ (3 * b) := z.2.1; have hb9 := wf_b hw b (by omega); unfold oth at h2; omega))), rfl, Eqv_r σ⟩))⟩)
                  · refine tm_aload_n 1 hC dX6_join_125 rfl rfl ?_
                    refine tm_iload_n 2 hC dX6_join_126 rfl rfl ?_
                    refine tm_iload 5 hC dX6_join_127 rfl ?_
                    refine tm_iload_n 3 hC dX6_join_129 rfl rfl ?_
                    refine tm_iload_n 4 hC dX6_join_130 rfl rfl ?_
                    refine tm_callV (b := 0) (n := 0) (rest := []) hC (c_M_isPossible (tm_g x) hst w1 ρ 0 sf se σ hM_w1 hw p (by omega) len a (by omega) pa (by omega)) k_X6_117 (by rw [hB.2.2.1]; exact ⟨Nat.le_of_ble_eq_true rfl, Nat.le_of_ble_eq_true rfl⟩) rfl (tm_rec2 hC hw1_ρ_0 rfl) rfl (by decide) dX6_join_131 (fun v_131 w_131 hp_131 => ?_)
                    obtain ⟨rfl, rfl⟩ := hp_131
                    show tm_V x (tm_H x w1) 0 0 134 [(7, .int (I (((s_wa σ (4 * p + 0)) + (s_jt σ)) - len))), (0, .ref (ρ 0)), (1, .int (I (p))), (2, .int (I (a))), (3, .int (I (pa))), (4, .int (I (len))), (5, .int (I (b))), (6, .int (I (pb)))] [.int (I (bi (Poss σ p len a pa)))]
                    refine tm_ifb_ne 143 hC dX6_join_134 (by decide) (fun c_134 => ?_) (fun c_134 => ?_)
                    · have hrm := wf_room hW (p := p) (by omega) (by omega)
                      have haz := c_134.2.1
                      refine tm_aload_n 1 hC dX6_join_143 rfl rfl ?_
                      refine tm_iload_n 2 hC dX6_join_144 rfl rfl ?_
                      refine tm_iload_n 3 hC dX6_join_145 rfl rfl ?_
                      refine tm_iload_n 4 hC dX6_join_146 rfl rfl ?_
                      refine tm_iload 5 hC dX6_join_147 rfl ?_
                      refine tm_iconst hC dX6_join_149 ?_
                      have hwf_150 : WF0 (addC σ p a pa len 1) := addC_wf hw (by omega) (by omega) (by omega) (by omega) (by omega) c_134
                      refine tm_callV (b := 0) (n := 0) (rest := []) hC (c_M_add (tm_g x) hst w1 ρ 0 sf se σ hM_w1 hw p (by omega) a (by omega) pa len 1 (by omega)) k_X6_124 (by rw [hB.2.2.1]; exact ⟨Nat.le_of_ble_eq_true rfl, Nat.le_of_ble_eq_true rfl⟩) rfl (tm_rec2 hC hw1_ρ_0 rfl) rfl (by decide) dX6_join_150 (fun v_150 w_150 hp_150 => ?_)
                      obtain ⟨ha_150, rfl⟩ := hp_150
                      obtain ⟨hm0_150, hm1_150, hm2_150, hm3_150, hm4_150, hm5_150, hm6_150, -⟩ := id ha_150
                      have en_150 : s_nm (addC σ p a pa len 1) = s_nm σ + 1 ∧ s_np (addC σ p a pa len 1) = s_np σ ∧ s_nb (addC σ p a pa len 1) = s_nb σ ∧ s_wa (addC σ p a pa len 1) = s_wa σ ∧ s_wo (addC σ p a pa len 1) = s_wo σ := ⟨by rfl, rfl, rfl, rfl, rfl⟩
                      show tm_V x (tm_H x w_150) 0 0 153 [(7, .int (I (((s_wa σ (4 * p + 0)) + (s_jt σ)) - len))), (0, .ref (ρ 0)), (1, .int (I (p))), (2, .int (I (a))), (3, .int (I (pa))), (4, .int (I (len))), (5, .int (I (b))), (6, .int (I (pb)))] []
                      refine tm_aload_n 1 hC dX6_join_153 rfl rfl ?_
                      refine tm_iload_n 2 hC dX6_join_154 rfl rfl ?_
                      refine tm_iload 0 hC dX6_join_155 rfl ?_
                      refine tm_iload 6 hC dX6_join_157 rfl ?_
                      refine tm_iload 7 hC dX6_join_159 rfl ?_
                      refine tm_callV (b := 0) (n := 0) (rest := []) hC (c_M_isPossible (tm_g x) hst w_150 ρ 0 sf se (addC σ p a pa len 1) ha_150 hwf_150 p (by omega) (((s_wa σ (4 * p + 0)) + (s_jt σ)) - len) b (by omega) pb (by omega)) k_X6_117 (by rw [hB.2.2.1]; exact ⟨Nat.le_of_ble_eq_true rfl, Nat.le_of_ble_eq_true rfl⟩) rfl (tm_rec2 hC hm0_150 rfl) rfl (by decide) dX6_join_161 (fun v_161 w_161 hp_161 => ?_)
                      obtain ⟨rfl, rfl⟩ := hp_161
                      show tm_V x (tm_H x w_150) 0 0 164 [(7, .int (I (((s_wa σ (4 * p + 0)) + (s_jt σ)) - len))), (0, .ref (ρ 0)), (1, .int (I (p))), (2, .int (I (a))), (3, .int (I (pa))), (4, .int (I (len))), (5, .int (I (b))), (6, .int (I (pb)))] [.int (I (bi (Poss (addC σ p a pa len 1) p (((s_wa σ (4 * p + 0)) + (s_jt σ)) - len) b pb)))]
                      refine tm_ifb_ne 183 hC dX6_join_164 (by decide) (fun c_164 => ?_) (fun c_164 => ?_)
                      · refine tm_aload_n 1 hC dX6_join_183 rfl rfl ?_
                        refine tm_iload_n 2 hC dX6_join_184 rfl rfl ?_
                        refine tm_iload 6 hC dX6_join_185 rfl ?_
                        refine tm_iload 7 hC dX6_join_187 rfl ?_
                        refine tm_iload 0 hC dX6_join_189 rfl ?_
                        refine tm_iconst hC dX6_join_191 ?_
                        have hwf_192 : WF0 (addC (addC σ p a pa len 1) p b pb (((s_wa σ (4 * p + 0)) + (s_jt σ)) - len) 1) := addC_wf hwf_150 (by omega) (by omega) (by omega) (by omega) (by omega) c_164
                        refine tm_callV (b := 0) (n := 0) (rest := []) hC (c_M_add (tm_g x) hst w_150 ρ 0 sf se (addC σ p a pa len 1) ha_150 hwf_150 p (by omega) b (by omega) pb (((s_wa σ (4 * p + 0)) + (s_jt σ)) - len) 1 (by omega)) k_X6_124 (by rw [hB.2.2.1]; exact ⟨Nat.le_of_ble_eq_true rfl, Nat.le_of_ble_eq_true rfl⟩) rfl (tm_rec2 hC hm0_150 rfl) rfl (by decide) dX6_join_192 (fun v_192 w_192 hp_192 => ?_)
                        obtain ⟨ha_192, rfl⟩ := hp_192
                        obtain ⟨hm0_192, hm1_192, hm2_192, hm3_192, hm4_192, hm5_192, hm6_192, -⟩ := id ha_192
                        have en_192 : s_nm (addC (addC σ p a pa len 1) p b pb (((s_wa σ (4 * p + 0)) + (s_jt σ)) - len) 1) = s_nm σ + 2 ∧ s_np (addC (addC σ p a pa len 1) p b pb (((s_wa σ (4 * p + 0)) + (s_jt σ)) - len) 1) = s_np σ ∧ s_nb (addC (addC σ p a pa len 1) p b pb (((s_wa σ (4 * p + 0)) + (s_jt σ)) - len) 1) = s_nb σ ∧ s_wa (addC (addC σ p a pa len 1) p b pb (((s_wa σ (4 * p + 0)) + (s_jt σ)) - len) 1) = s_wa σ ∧ s_wo (addC (addC σ p a pa len 1) p b pb (((s_wa σ (4 * p + 0)) + (s_jt σ)) - len) 1) = s_wo σ := ⟨by show s_nm σ + 1 + 1 = _; omega, rfl, rfl, rfl, rfl⟩
                        show tm_V x (tm_H x w_192) 0 0 195 [(7, .int (I (((s_wa σ (4 * p + 0)) + (s_jt σ)) - len))), (0, .ref (ρ 0)), (1, .int (I (p))), (2, .int (I (a))), (3, .int (I (pa))), (4, .int (I (len))), (5, .int (I (b))), (6, .int (I (pb)))] []
                        refine tm_aload_n 1 hC dX6_join_195 rfl rfl ?_
                        refine tm_iload_n 2 hC dX6_join_196 rfl rfl ?_
                        refine tm_callV (b := 0) (n := 0) (rest := []) hC (c_M_lessLeft (tm_g x) hst w_192 ρ 0 sf se (addC (addC σ p a pa len 1) p b pb (((s_wa σ (4 * p + 0)) + (s_jt σ)) - len) 1) ha_192 hwf_192 p (by omega) (by rw [en_192.2.2.2.1]; omega)) k_X6_128 (by rw [hB.2.2.1]; exact ⟨Nat.le_of_ble_eq_true rfl, Nat.le_of_ble_eq_true rfl⟩) rfl (tm_rec2 hC hm0_192 rfl) rfl (by decide) dX6_join_197 (fun v_197 w_197 hp_197 => ?_)
                        obtain ⟨hl_197, rfl⟩ := hp_197
                        obtain ⟨hm0_197, hm1_197, hm2_197, hm3_197, hm4_197, hm5_197, hm6_197, -⟩ := id hl_197
                        show tm_V x (tm_H x w_197) 0 0 200 [(7, .int (I (((s_wa σ (4 * p + 0)) + (s_jt σ)) - len))), (0, .ref (ρ 0)), (1, .int (I (p))), (2, .int (I (a))), (3, .int (I (pa))), (4, .int (I (len))), (5, .int (I (b))), (6, .int (I (pb)))] [.int (I (s_wa (addC (addC σ p a pa len 1) p b pb (((s_wa σ (4 * p + 0)) + (s_jt σ)) - len) 1) (4 * p + 3) - 1))]
                        exact tm_iret hC hR dX6_join_200 (⟨0, sf, se, _, (less (addC (addC σ p a pa len 1) p b pb (((s_wa σ (4 * p + 0)) + (s_jt σ)) - len) 1) p), hl_197, rfl, Or.inr (Or.inr (Or.inr ⟨by rw [okJ_i]; omega, by unfold oth; omega, by omega, by omega, c_134, c_164, rfl, rfl, rfl⟩))⟩)
                      · refine tm_aload_n 1 hC dX6_join_167 rfl rfl ?_
                        refine tm_dup hC dX6_join_168 rfl ?_
                        refine tm_getf2 hC f_X6_63 hm0_150 rfl dX6_join_169 ?_
                        refine tm_iconst hC dX6_join_172 ?_
                        refine tm_isub hC dX6_join_173 ?_
                        refine tm_putf2 hC f_X6_63 hm0_150 (tt_7_10 _) (Nat.le_of_ble_eq_true rfl) dX6_join_174 ?_
                        obtain ⟨w3, hw4⟩ : ∃ z, z = tm_u2 w_150 (ρ 0) (.inr (7, [.int (I (0)), .int (I (s_nb (addC σ p a pa len 1))), .ref (ρ 1), .int (I (s_nd (addC σ p a pa len 1))), .ref (ρ 2), .int (I (s_np (addC σ p a pa len 1))), .ref (ρ 3), .ref (ρ 4), .int (I (s_sw (addC σ p a pa len 1))), .int (I (s_jt (addC σ p a pa len 1))), .int (I ((s_nm (addC σ p a pa len 1)) - 1)), .ref (ρ 5), .ref (ρ 6), .int (I (sf)), .int (I (se))])) := ⟨_, rfl⟩
                        show tm_V x (tm_H x (tm_u2 w_150 (ρ 0) (.inr (7, [.int (I (0)), .int (I (s_nb (addC σ p a pa len 1))), .ref (ρ 1), .int (I (s_nd (addC σ p a pa len 1))), .ref (ρ 2), .int (I (s_np (addC σ p a pa len 1))), .ref (ρ 3), .ref (ρ 4), .int (I (s_sw (addC σ p a pa len 1))), .int (I (s_jt (addC σ p a pa len 1))), .int (I ((s_nm (addC σ p a pa len 1)) - 1)), .ref (ρ 5), .ref (ρ 6), .int (I (sf)), .int (I (se))])))) 0 0 177 [(7, .int (I (((s_wa σ (4 * p + 0)) + (s_jt σ)) - len))), (0, .ref (ρ 0)), (1, .int (I (p))), (2, .int (I (a))), (3, .int (I (pa))), (4, .int (I (len))), (5, .int (I (b))), (6, .int (I (pb)))] []
                        rw [← hw4]
                        have hw3_ρ_0 : w3 (ρ 0) = some (.inl (.inr (7, [.int (I (0)), .int (I (s_nb (addC σ p a pa len 1))), .ref (ρ 1), .int (I (s_nd (addC σ p a pa len 1))), .ref (ρ 2), .int (I (s_np (addC σ p a pa len 1))), .ref (ρ 3), .ref (ρ 4), .int (I (s_sw (addC σ p a pa len 1))), .int (I (s_jt (addC σ p a pa len 1))), .int (I ((s_nm (addC σ p a pa len 1)) - 1)), .ref (ρ 5), .ref (ρ 6), .int (I (sf)), .int (I (se))]))) := by rw [hw4]; first | done | exact tm_u2_s
                        have hw3_ρ_1 := (show w3 (ρ 1) = _ by rw [hw4]; exact tm_u2_n (fun z => absurd (hm0_150.symm.trans (z ▸ hm1_150)) (by intro q; cases q))).trans hm1_150
                        have hw3_ρ_2 := (show w3 (ρ 2) = _ by rw [hw4]; exact tm_u2_n (fun z => absurd (hm0_150.symm.trans (z ▸ hm2_150)) (by intro q; cases q))).trans hm2_150
                        have hw3_ρ_3 := (show w3 (ρ 3) = _ by rw [hw4]; exact tm_u2_n (fun z => absurd (hm0_150.symm.trans (z ▸ hm3_150)) (by intro q; cases q))).trans hm3_150
                        have hw3_ρ_4 := (show w3 (ρ 4) = _ by rw [hw4]; exact tm_u2_n (fun z => absurd (hm0_150.symm.trans (z ▸ hm4_150)) (by intro q; cases q))).trans hm4_150
                        have hw3_ρ_5 := (show w3 (ρ 5) = _ by rw [hw4]; exact tm_u2_n (fun z => absurd (hm0_150.symm.trans (z ▸ hm5_150)) (by intro q; cases q))).trans hm5_150
                        have hw3_ρ_6 := (show w3 (ρ 6) = _ by rw [hw4]; exact tm_u2_n (fun z => absurd (hm0_150.symm.trans (z ▸ hm6_150)) (by intro q; cases q))).trans hm6_150
                        have hMu : RM (tm_T x) w3 ρ 0 sf se (setNm (addC σ p a pa len 1) (s_nm (addC σ p a pa len 1) - 1)) := ⟨hw3_ρ_0, hw3_ρ_1, hw3_ρ_2, hw3_ρ_3, hw3_ρ_4, hw3_ρ_5, hw3_ρ_6, hmd⟩
                        have hwu : WF0 (setNm (addC σ p a pa len 1) (s_nm (addC σ p a pa len 1) - 1)) := Eqv_wf unC_eqv hw
                        refine tm_aload_n 1 hC dX6_join_177 rfl rfl ?_
                        refine tm_iconst hC dX6_join_178 ?_
                        refine tm_callV (b := 0) (n := 0) (rest := []) hC (c_M_fail (tm_g x) hst w3 ρ 0 sf se (setNm (addC σ p a pa len 1) (s_nm (addC σ p a pa len 1) - 1)) hMu hwu 3) k_X6_49 (by rw [hB.2.2.1]; exact ⟨Nat.le_of_ble_eq_true rfl, Nat.le_of_ble_eq_true rfl⟩) rfl (tm_rec2 hC hw3_ρ_0 rfl) rfl (by decide) dX6_join_179 (fun v_179 w_179 hp_179 => ?_)
                        obtain ⟨hf_179, rfl⟩ := hp_179
                        obtain ⟨hm0_179, hm1_179, hm2_179, hm3_179, hm4_179, hm5_179, hm6_179, -⟩ := id hf_179
                        show tm_V x (tm_H x w_179) 0 0 182 [(7, .int (I (((s_wa σ (4 * p + 0)) + (s_jt σ)) - len))), (0, .ref (ρ 0)), (1, .int (I (p))), (2, .int (I (a))), (3, .int (I (pa))), (4, .int (I (len))), (5, .int (I (b))), (6, .int (I (pb)))] [.int (I (0))]
                        exact tm_iret hC hR dX6_join_182 (⟨3, sf, se, 0, (setNm (addC σ p a pa len 1) (s_nm (addC σ p a pa len 1) - 1)), hf_179, rfl, Or.inr (Or.inr (Or.inl ⟨by rw [okJ_i]; omega, by unfold oth; omega, Or.inr (Or.inr (Or.inr c_164)), rfl, unC_eqv⟩))⟩)
                    · refine tm_aload_n 1 hC dX6_join_137 rfl rfl ?_
                      refine tm_iconst hC dX6_join_138 ?_
                      refine tm_callV (b := 0) (n := 0) (rest := []) hC (c_M_fail (tm_g x) hst w1 ρ 0 sf se σ hM_w1 hw 3) k_X6_49 (by rw [hB.2.2.1]; exact ⟨Nat.le_of_ble_eq_true rfl, Nat.le_of_ble_eq_true rfl⟩) rfl (tm_rec2 hC hw1_ρ_0 rfl) rfl (by decide) dX6_join_139 (fun v_139 w_139 hp_139 => ?_)
                      obtain ⟨hf_139, rfl⟩ := hp_139
                      obtain ⟨hm0_139, hm1_139, hm2_139, hm3_139, hm4_139, hm5_139, hm6_139, -⟩ := id hf_139
                      show tm_V x (tm_H x w_139) 0 0 142 [(7, .int (I (((s_wa σ (4 * p + 0)) + (s_jt σ)) - len))), (0, .ref (ρ 0)), (1, .int (I (p))), (2, .int (I (a))), (3, .int (I (pa))), (4, .int (I (len))), (5, .int (I (b))), (6, .int (I (pb)))] [.int (I (0))]
                      exact tm_iret hC hR dX6_join_142 (⟨3, sf, se, 0, σ, hf_139, rfl, Or.inr (Or.inr (Or.inl ⟨by rw [okJ_i]; omega, by unfold oth; omega, Or.inr (Or.inr (Or.inl c_134)), rfl, Eqv_r σ⟩))⟩)
          · refine tm_aload_n 0 hC dX6_join_62 rfl rfl ?_
            refine tm_iconst hC dX6_join_63 ?_
            refine tm_callV (b := 0) (n := 0) (rest := []) hC (c_M_fail (tm_g x) hst w1 ρ 0 sf se σ hM_w1 hw 2) k_X6_49 (by rw [hB.2.2.1]; exact ⟨Nat.le_of_ble_eq_true rfl, Nat.le_of_ble_eq_true rfl⟩) rfl (tm_rec2 hC hw1_ρ_0 rfl) rfl (by decide) dX6_join_64 (fun v_64 w_64 hp_64 => ?_)
            obtain ⟨hf_64, rfl⟩ := hp_64
            obtain ⟨hm0_64, hm1_64, hm2_64, hm3_64, hm4_64, hm5_64, hm6_64, -⟩ := id hf_64
            show tm_V x (tm_H x w_64) 0 0 67 [(0, .ref (ρ 0)), (1, .int (I (p))), (2, .int (I (a))), (3, .int (I (pa))), (4, .int (I (len))), (5, .int (I (b))), (6, .int (I (pb)))] [.int (I (0))]
            exact tm_iret hC hR dX6_join_67 (⟨2, sf, se, 0, σ, hf_64, rfl, Or.inr (Or.inl ⟨by rw [okJ_i]; omega, by unfold oth; omega, rfl, rfl⟩)⟩)
      · refine tm_aload_n 0 hC dX6_join_30 rfl rfl ?_
        refine tm_iconst hC dX6_join_31 ?_
        refine tm_callV (b := 0) (n := 0) (rest := []) hC (c_M_fail (tm_g x) hst w1 ρ 0 sf se σ hM_w1 hw 1) k_X6_49 (by rw [hB.2.2.1]; exact ⟨Nat.le_of_ble_eq_true rfl, Nat.le_of_ble_eq_true rfl⟩) rfl (tm_rec2 hC hw1_ρ_0 rfl) rfl (by decide) dX6_join_32 (fun v_32 w_32 hp_32 => ?_)
        obtain ⟨hf_32, rfl⟩ := hp_32
        obtain ⟨hm0_32, hm1_32, hm2_32, hm3_32, hm4_32, hm5_32, hm6_32, -⟩ := id hf_32
        show tm_V x (tm_H x w_32) 0 0 35 [(0, .ref (ρ 0)), (1, .int (I (p))), (2, .int (I (a))), (3, .int (I (pa))), (4, .int (I (len))), (5, .int (I (b))), (6, .int (I (pb)))] [.int (I (0))]
        exact tm_iret hC hR dX6_join_35 (⟨1, sf, se, 0, σ, hf_32, rfl, Or.inl ⟨by rw [okJ_i]; omega, rfl, rfl⟩⟩)

set_option maxHeartbeats 4000000 in
set_option maxRecDepth 100000 in
theorem c_M_undo (γ : tmG) (hst : γ.1.stackTraces = false) (Λ : tmL) (ρ : Nat → Nat) (th sf se : Int) (σ : ST) (hM : RM γ.2.2.1 Λ ρ th sf se σ) (hw : WF0 σ) (hW : WF σ) : tm_Con γ (tm_h2 γ.2.1 γ.2.2.1 γ.2.2.2.1) M_X6_undo 4 0 0 [.ref (ρ 0)] Λ (fun v w' => ∃ k sf' se' r σ', RM γ.2.2.1 w' ρ k sf' se' σ' ∧ v = some (.int (I r)) ∧ Sp_undo σ k σ' r) := by
  refine tm_con hst (by decide) (Nat.le_of_ble_eq_true rfl) (fun x hB hR => ?_)
  have hg := hB.1
  subst hg
  have hC : tm_C x cX6_undo RX6 (some FieldType.int) := hB.2.2.2.1
  obtain ⟨hm0, hm1, hm2, hm3, hm4, hm5, hm6, hmd⟩ := id hM
  have hn := wf_n hw
  show tm_V x (tm_H x Λ) 0 0 0 [(0, .ref (ρ 0))] []
  refine tm_aload_n 0 hC dX6_undo_0 rfl rfl ?_
  refine tm_iconst hC dX6_undo_1 ?_
  refine tm_putf2 hC f_X6_36 hm0 (tt_7_0 _) (Nat.le_of_ble_eq_true rfl) dX6_undo_2 ?_
  obtain ⟨w1, hw2⟩ : ∃ z, z = tm_u2 Λ (ρ 0) (.inr (7, [.int (I (0)), .int (I (s_nb σ)), .ref (ρ 1), .int (I (s_nd σ)), .ref (ρ 2), .int (I (s_np σ)), .ref (ρ 3), .ref (ρ 4), .int (I (s_sw σ)), .int (I (s_jt σ)), .int (I (s_nm σ)), .ref (ρ 5), .ref (ρ 6), .int (I (sf)), .int (I (se))])) := ⟨_, rfl⟩
  show tm_V x (tm_H x (tm_u2 Λ (ρ 0) (.inr (7, [.int (I (0)), .int (I (s_nb σ)), .ref (ρ 1), .int (I (s_nd σ)), .ref (ρ 2), .int (I (s_np σ)), .ref (ρ 3), .ref (ρ 4), .int (I (s_sw σ)), .int (I (s_jt σ)), .int (I (s_nm σ)), .ref (ρ 5), .ref (ρ 6), .int (I (sf)), .int (I (se))])))) 0 0 5 [(0, .ref (ρ 0))] []
  rw [← hw2]
  have hw1_ρ_0 : w1 (ρ 0) = some (.inl (.inr (7, [.int (I (0)), .int (I (s_nb σ)), .ref (ρ 1), .int (I (s_nd σ)), .ref (ρ 2), .int (I (s_np σ)), .ref (ρ 3), .ref (ρ 4), .int (I (s_sw σ)), .int (I (s_jt σ)), .int (I (s_nm σ)), .ref (ρ 5), .ref (ρ 6), .int (I (sf)), .int (I (se))]))) := by rw [hw2]; first | done | exact tm_u2_s
  have hw1_ρ_1 := (show w1 (ρ 1) = _ by rw [hw2]; exact tm_u2_n (fun z => absurd (hm0.symm.trans (z ▸ hm1)) (by intro q; cases q))).trans hm1
  have hw1_ρ_2 := (show w1 (ρ 2) = _ by rw [hw2]; exact tm_u2_n (fun z => absurd (hm0.symm.trans (z ▸ hm2)) (by intro q; cases q))).trans hm2
  have hw1_ρ_3 := (show w1 (ρ 3) = _ by rw [hw2]; exact tm_u2_n (fun z => absurd (hm0.symm.trans (z ▸ hm3)) (by intro q; cases q))).trans hm3
  have hw1_ρ_4 := (show w1 (ρ 4) = _ by rw [hw2]; exact tm_u2_n (fun z => absurd (hm0.symm.trans (z ▸ hm4)) (by intro q; cases q))).trans hm4
  have hw1_ρ_5 := (show w1 (ρ 5) = _ by rw [hw2]; exact tm_u2_n (fun z => absurd (hm0.symm.trans (z ▸ hm5)) (by intro q; cases q))).trans hm5
  have hw1_ρ_6 := (show w1 (ρ 6) = _ by rw [hw2]; exact tm_u2_n (fun z => absurd (hm0.symm.trans (z ▸ hm6)) (by intro q; cases q))).trans hm6
  have hM_w1 : RM (tm_T x) w1 ρ 0 sf se σ := ⟨hw1_ρ_0, hw1_ρ_1, hw1_ρ_2, hw1_ρ_3, hw1_ρ_4, hw1_ρ_5, hw1_ρ_6, hmd⟩
  refine tm_aload_n 0 hC dX6_undo_5 rfl rfl ?_
  refine tm_getf2 hC f_X6_63 hw1_ρ_0 rfl dX6_undo_6 ?_
  refine tm_if_ne 18 hC dX6_undo_9 (by decide) (by omega) (fun c_9 => ?_) (fun c_9 => ?_)
  · have hk9 := wf_k hw (s_nm σ - 1) (by omega)
    have hp9 := wf_p hw (s_cu σ (4 * (s_nm σ - 1) + 3)) (by omega)
    refine tm_aload_n 0 hC dX6_undo_18 rfl rfl ?_
    refine tm_aload_n 0 hC dX6_undo_19 rfl rfl ?_
    refine tm_getf2 hC f_X6_63 hw1_ρ_0 rfl dX6_undo_20 ?_
    refine tm_iconst hC dX6_undo_23 ?_
    refine tm_isub hC dX6_undo_24 ?_
    refine tm_callV (b := 0) (n := 0) (rest := []) hC (c_M_partOf (tm_g x) hst w1 ρ 0 sf se σ hM_w1 hw ((s_nm σ) - 1) (by omega) ) k_X6_76 (by rw [hB.2.2.1]; exact ⟨Nat.le_of_ble_eq_true rfl, Nat.le_of_ble_eq_true rfl⟩) rfl (tm_rec2 hC hw1_ρ_0 rfl) rfl (by decide) dX6_undo_25 (fun v_25 w_25 hp_25 => ?_)
    obtain ⟨rfl, rfl, hb_25⟩ := hp_25
    show tm_V x (tm_H x w1) 0 0 28 [(0, .ref (ρ 0))] [.int (I (s_cu σ (4 * ((s_nm σ) - 1) + 3)))]
    refine tm_istore_n [(1, .int (I (s_cu σ (4 * ((s_nm σ) - 1) + 3)))), (0, .ref (ρ 0))] hC dX6_undo_28 rfl (by rw [hB.2.1]; exact Nat.le_of_ble_eq_true rfl) rfl ?_
    refine tm_aload_n 1 hC dX6_undo_29 rfl rfl ?_
    refine tm_dup hC dX6_undo_30 rfl ?_
    refine tm_getf2 hC f_X6_63 hw1_ρ_0 rfl dX6_undo_31 ?_
    refine tm_aload_n 1 hC dX6_undo_34 rfl rfl ?_
    refine tm_getf2 hC f_X6_33 hw1_ρ_0 rfl dX6_undo_35 ?_
    refine tm_aload_n 1 hC dX6_undo_38 rfl rfl ?_
    refine tm_getf2 hC f_X6_63 hw1_ρ_0 rfl dX6_undo_39 ?_
    refine tm_iconst hC dX6_undo_42 ?_
    refine tm_isub hC dX6_undo_43 ?_
    refine tm_zald2 hC hw1_ρ_6 (by omega) dX6_undo_44 ?_
    refine tm_if_eq 52 hC dX6_undo_45 (by decide) (by omega) (fun c_45 => ?_) (fun c_45 => ?_)
    · refine tm_iconst hC dX6_undo_52 ?_
      refine tm_isub hC dX6_undo_53 ?_
      refine tm_putf2 hC f_X6_63 hw1_ρ_0 (tt_7_10 _) (Nat.le_of_ble_eq_true rfl) dX6_undo_54 ?_
      obtain ⟨w3, hw4⟩ : ∃ z, z = tm_u2 w1 (ρ 0) (.inr (7, [.int (I (0)), .int (I (s_nb σ)), .ref (ρ 1), .int (I (s_nd σ)), .ref (ρ 2), .int (I (s_np σ)), .ref (ρ 3), .ref (ρ 4), .int (I (s_sw σ)), .int (I (s_jt σ)), .int (I ((s_nm σ) - 1)), .ref (ρ 5), .ref (ρ 6), .int (I (sf)), .int (I (se))])) := ⟨_, rfl⟩
      show tm_V x (tm_H x (tm_u2 w1 (ρ 0) (.inr (7, [.int (I (0)), .int (I (s_nb σ)), .ref (ρ 1), .int (I (s_nd σ)), .ref (ρ 2), .int (I (s_np σ)), .ref (ρ 3), .ref (ρ 4), .int (I (s_sw σ)), .int (I (s_jt σ)), .int (I ((s_nm σ) - 1)), .ref (ρ 5), .ref (ρ 6), .int (I (sf)), .int (I (se))])))) 0 0 57 [(1, .int (I (s_cu σ (4 * ((s_nm σ) - 1) + 3)))), (0, .ref (ρ 0))] []
      rw [← hw4]
      have hw3_ρ_0 : w3 (ρ 0) = some (.inl (.inr (7, [.int (I (0)), .int (I (s_nb σ)), .ref (ρ 1), .int (I (s_nd σ)), .ref (ρ 2), .int (I (s_np σ)), .ref (ρ 3), .ref (ρ 4), .int (I (s_sw σ)), .int (I (s_jt σ)), .int (I ((s_nm σ) - 1)), .ref (ρ 5), .ref (ρ 6), .int (I (sf)), .int (I (se))]))) := by rw [hw4]; first | done | exact tm_u2_s
      have hw3_ρ_1 := (show w3 (ρ 1) = _ by rw [hw4]; exact tm_u2_n (fun z => absurd (hw1_ρ_0.symm.trans (z ▸ hw1_ρ_1)) (by intro q; cases q))).trans hw1_ρ_1
      have hw3_ρ_2 := (show w3 (ρ 2) = _ by rw [hw4]; exact tm_u2_n (fun z => absurd (hw1_ρ_0.symm.trans (z ▸ hw1_ρ_2)) (by intro q; cases q))).trans hw1_ρ_2
      have hw3_ρ_3 := (show w3 (ρ 3) = _ by rw [hw4]; exact tm_u2_n (fun z => absurd (hw1_ρ_0.symm.trans (z ▸ hw1_ρ_3)) (by intro q; cases q))).trans hw1_ρ_3
      have hw3_ρ_4 := (show w3 (ρ 4) = _ by rw [hw4]; exact tm_u2_n (fun z => absurd (hw1_ρ_0.symm.trans (z ▸ hw1_ρ_4)) (by intro q; cases q))).trans hw1_ρ_4
      have hw3_ρ_5 := (show w3 (ρ 5) = _ by rw [hw4]; exact tm_u2_n (fun z => absurd (hw1_ρ_0.symm.trans (z ▸ hw1_ρ_5)) (by intro q; cases q))).trans hw1_ρ_5
      have hw3_ρ_6 := (show w3 (ρ 6) = _ by rw [hw4]; exact tm_u2_n (fun z => absurd (hw1_ρ_0.symm.trans (z ▸ hw1_ρ_6)) (by intro q; cases q))).trans hw1_ρ_6
      refine tm_aload_n 1 hC dX6_undo_57 rfl rfl ?_
      refine tm_getf2 hC f_X6_16 hw3_ρ_0 rfl dX6_undo_58 ?_
      refine tm_iconst hC dX6_undo_61 ?_
      refine tm_iload_n 0 hC dX6_undo_62 rfl rfl ?_
      refine tm_imul hC dX6_undo_63 ?_
      refine tm_iconst hC dX6_undo_64 ?_
      refine tm_iadd hC dX6_undo_65 ?_
      refine tm_dup2 hC dX6_undo_66 rfl rfl ?_
      refine tm_iald2 hC hw3_ρ_3 (by omega) dX6_undo_67 ?_
      refine tm_iconst hC dX6_undo_68 ?_
      refine tm_iadd hC dX6_undo_69 ?_
      refine tm_iast2 hC hw3_ρ_3 (by omega) dX6_undo_70 ?_
      obtain ⟨w5, hw6⟩ : ∃ z, z = tm_u2 w3 (ρ 3) (tm_ai (tm_T x) 48 (tm_ui (s_wa σ) ((4 * (s_cu σ (4 * ((s_nm σ) - 1) + 3))) + 3) (((s_wa σ) ((4 * (s_cu σ (4 * ((s_nm σ) - 1) + 3))) + 3)) + 1))) := ⟨_, rfl⟩
      show tm_V x (tm_H x (tm_u2 w3 (ρ 3) (tm_ai (tm_T x) 48 (tm_ui (s_wa σ) ((4 * (s_cu σ (4 * ((s_nm σ) - 1) + 3))) + 3) (((s_wa σ) ((4 * (s_cu σ (4 * ((s_nm σ) - 1) + 3))) + 3)) + 1))))) 0 0 71 [(1, .int (I (s_cu σ (4 * ((s_nm σ) - 1) + 3)))), (0, .ref (ρ 0))] []
      rw [← hw6]
      have hw5_ρ_3 : w5 (ρ 3) = some (.inl (tm_ai (tm_T x) 48 (tm_ui (s_wa σ) ((4 * (s_cu σ (4 * ((s_nm σ) - 1) + 3))) + 3) (((s_wa σ) ((4 * (s_cu σ (4 * ((s_nm σ) - 1) + 3))) + 3)) + 1)))) := by rw [hw6]; first | done | exact tm_u2_s
      have hw5_ρ_0 := (show w5 (ρ 0) = _ by rw [hw6]; exact tm_u2_n (fun z => absurd (hw3_ρ_3.symm.trans (z ▸ hw3_ρ_0)) (by intro q; cases q))).trans hw3_ρ_0
      have hw5_ρ_1 := (show w5 (ρ 1) = _ by rw [hw6]; exact tm_u2_n (hmd 1 3 (by decide) (by decide) (by decide))).trans hw3_ρ_1
      have hw5_ρ_2 := (show w5 (ρ 2) = _ by rw [hw6]; exact tm_u2_n (hmd 2 3 (by decide) (by decide) (by decide))).trans hw3_ρ_2
      have hw5_ρ_4 := (show w5 (ρ 4) = _ by rw [hw6]; exact tm_u2_n (hmd 4 3 (by decide) (by decide) (by decide))).trans hw3_ρ_4
      have hw5_ρ_5 := (show w5 (ρ 5) = _ by rw [hw6]; exact tm_u2_n (hmd 5 3 (by decide) (by decide) (by decide))).trans hw3_ρ_5
      have hw5_ρ_6 := (show w5 (ρ 6) = _ by rw [hw6]; exact tm_u2_n (hmd 6 3 (by decide) (by decide) (by decide))).trans hw3_ρ_6
      refine tm_iload_n 0 hC dX6_undo_71 rfl rfl ?_
      exact tm_iret hC hR dX6_undo_72 (⟨0, sf, se, s_cu σ (4 * (s_nm σ - 1) + 3), more (setNm σ (s_nm σ - 1)) (s_cu σ (4 * (s_nm σ - 1) + 3)), ⟨hw5_ρ_0, hw5_ρ_1, hw5_ρ_2, hw5_ρ_3, hw5_ρ_4, hw5_ρ_5, hw5_ρ_6, hmd⟩, rfl, Or.inr ⟨by omega, rfl, rfl, by rw [if_pos (by omega)]⟩⟩)
    · refine tm_iconst hC dX6_undo_48 ?_
      refine tm_goto 53 hC dX6_undo_49 (by decide) ?_
      refine tm_isub hC dX6_undo_53 ?_
      refine tm_putf2 hC f_X6_63 hw1_ρ_0 (tt_7_10 _) (Nat.le_of_ble_eq_true rfl) dX6_undo_54 ?_
      obtain ⟨w7, hw8⟩ : ∃ z, z = tm_u2 w1 (ρ 0) (.inr (7, [.int (I (0)), .int (I (s_nb σ)), .ref (ρ 1), .int (I (s_nd σ)), .ref (ρ 2), .int (I (s_np σ)), .ref (ρ 3), .ref (ρ 4), .int (I (s_sw σ)), .int (I (s_jt σ)), .int (I ((s_nm σ) - 2)), .ref (ρ 5), .ref (ρ 6), .int (I (sf)), .int (I (se))])) := ⟨_, rfl⟩
      show tm_V x (tm_H x (tm_u2 w1 (ρ 0) (.inr (7, [.int (I (0)), .int (I (s_nb σ)), .ref (ρ 1), .int (I (s_nd σ)), .ref (ρ 2), .int (I (s_np σ)), .ref (ρ 3), .ref (ρ 4), .int (I (s_sw σ)), .int (I (s_jt σ)), .int (I ((s_nm σ) - 2)), .ref (ρ 5), .ref (ρ 6), .int (I (sf)), .int (I (se))])))) 0 0 57 [(1, .int (I (s_cu σ (4 * ((s_nm σ) - 1) + 3)))), (0, .ref (ρ 0))] []
      rw [← hw8]
      have hw7_ρ_0 : w7 (ρ 0) = some (.inl (.inr (7, [.int (I (0)), .int (I (s_nb σ)), .ref (ρ 1), .int (I (s_nd σ)), .ref (ρ 2), .int (I (s_np σ)), .ref (ρ 3), .ref (ρ 4), .int (I (s_sw σ)), .int (I (s_jt σ)), .int (I ((s_nm σ) - 2)), .ref (ρ 5), .ref (ρ 6), .int (I (sf)), .int (I (se))]))) := by rw [hw8]; first | done | exact tm_u2_s
      have hw7_ρ_1 := (show w7 (ρ 1) = _ by rw [hw8]; exact tm_u2_n (fun z => absurd (hw1_ρ_0.symm.trans (z ▸ hw1_ρ_1)) (by intro q; cases q))).trans hw1_ρ_1
      have hw7_ρ_2 := (show w7 (ρ 2) = _ by rw [hw8]; exact tm_u2_n (fun z => absurd (hw1_ρ_0.symm.trans (z ▸ hw1_ρ_2)) (by intro q; cases q))).trans hw1_ρ_2
      have hw7_ρ_3 := (show w7 (ρ 3) = _ by rw [hw8]; exact tm_u2_n (fun z => absurd (hw1_ρ_0.symm.trans (z ▸ hw1_ρ_3)) (by intro q; cases q))).trans hw1_ρ_3
      have hw7_ρ_4 := (show w7 (ρ 4) = _ by rw [hw8]; exact tm_u2_n (fun z => absurd (hw1_ρ_0.symm.trans (z ▸ hw1_ρ_4)) (by intro q; cases q))).trans hw1_ρ_4
      have hw7_ρ_5 := (show w7 (ρ 5) = _ by rw [hw8]; exact tm_u2_n (fun z => absurd (hw1_ρ_0.symm.trans (z ▸ hw1_ρ_5)) (by intro q; cases q))).trans hw1_ρ_5
      have hw7_ρ_6 := (show w7 (ρ 6) = _ by rw [hw8]; exact tm_u2_n (fun z => absurd (hw1_ρ_0.symm.trans (z ▸ hw1_ρ_6)) (by intro q; cases q))).trans hw1_ρ_6
      refine tm_aload_n 1 hC dX6_undo_57 rfl rfl ?_
      refine tm_getf2 hC f_X6_16 hw7_ρ_0 rfl dX6_undo_58 ?_
      refine tm_iconst hC dX6_undo_61 ?_
      refine tm_iload_n 0 hC dX6_undo_62 rfl rfl ?_
      refine tm_imul hC dX6_undo_63 ?_
      refine tm_iconst hC dX6_undo_64 ?_
      refine tm_iadd hC dX6_undo_65 ?_
      refine tm_dup2 hC dX6_undo_66 rfl rfl ?_
      refine tm_iald2 hC hw7_ρ_3 (by omega) dX6_undo_67 ?_
      refine tm_iconst hC dX6_undo_68 ?_
      refine tm_iadd hC dX6_undo_69 ?_
      refine tm_iast2 hC hw7_ρ_3 (by omega) dX6_undo_70 ?_
      obtain ⟨w9, hw10⟩ : ∃ z, z = tm_u2 w7 (ρ 3) (tm_ai (tm_T x) 48 (tm_ui (s_wa σ) ((4 * (s_cu σ (4 * ((s_nm σ) - 1) + 3))) + 3) (((s_wa σ) ((4 * (s_cu σ (4 * ((s_nm σ) - 1) + 3))) + 3)) + 1))) := ⟨_, rfl⟩
      show tm_V x (tm_H x (tm_u2 w7 (ρ 3) (tm_ai (tm_T x) 48 (tm_ui (s_wa σ) ((4 * (s_cu σ (4 * ((s_nm σ) - 1) + 3))) + 3) (((s_wa σ) ((4 * (s_cu σ (4 * ((s_nm σ) - 1) + 3))) + 3)) + 1))))) 0 0 71 [(1, .int (I (s_cu σ (4 * ((s_nm σ) - 1) + 3)))), (0, .ref (ρ 0))] []
      rw [← hw10]
      have hw9_ρ_3 : w9 (ρ 3) = some (.inl (tm_ai (tm_T x) 48 (tm_ui (s_wa σ) ((4 * (s_cu σ (4 * ((s_nm σ) - 1) + 3))) + 3) (((s_wa σ) ((4 * (s_cu σ (4 * ((s_nm σ) - 1) + 3))) + 3)) + 1)))) := by rw [hw10]; first | done | exact tm_u2_s
      have hw9_ρ_0 := (show w9 (ρ 0) = _ by rw [hw10]; exact tm_u2_n (fun z => absurd (hw7_ρ_3.symm.trans (z ▸ hw7_ρ_0)) (by intro q; cases q))).trans hw7_ρ_0
      have hw9_ρ_1 := (show w9 (ρ 1) = _ by rw [hw10]; exact tm_u2_n (hmd 1 3 (by decide) (by decide) (by decide))).trans hw7_ρ_1
      have hw9_ρ_2 := (show w9 (ρ 2) = _ by rw [hw10]; exact tm_u2_n (hmd 2 3 (by decide) (by decide) (by decide))).trans hw7_ρ_2
      have hw9_ρ_4 := (show w9 (ρ 4) = _ by rw [hw10]; exact tm_u2_n (hmd 4 3 (by decide) (by decide) (by decide))).trans hw7_ρ_4
      have hw9_ρ_5 := (show w9 (ρ 5) = _ by rw [hw10]; exact tm_u2_n (hmd 5 3 (by decide) (by decide) (by decide))).trans hw7_ρ_5
      have hw9_ρ_6 := (show w9 (ρ 6) = _ by rw [hw10]; exact tm_u2_n (hmd 6 3 (by decide) (by decide) (by decide))).trans hw7_ρ_6
      refine tm_iload_n 0 hC dX6_undo_71 rfl rfl ?_
      exact tm_iret hC hR dX6_undo_72 (⟨0, sf, se, s_cu σ (4 * (s_nm σ - 1) + 3), more (setNm σ (s_nm σ - 2)) (s_cu σ (4 * (s_nm σ - 1) + 3)), ⟨hw9_ρ_0, hw9_ρ_1, hw9_ρ_2, hw9_ρ_3, hw9_ρ_4, hw9_ρ_5, hw9_ρ_6, hmd⟩, rfl, Or.inr ⟨by omega, rfl, rfl, by rw [if_neg (by omega)]⟩⟩)
  · refine tm_aload_n 0 hC dX6_undo_12 rfl rfl ?_
    refine tm_iconst hC dX6_undo_13 ?_
    refine tm_callV (b := 0) (n := 0) (rest := []) hC (c_M_fail (tm_g x) hst w1 ρ 0 sf se σ hM_w1 hw 1) k_X6_49 (by rw [hB.2.2.1]; exact ⟨Nat.le_of_ble_eq_true rfl, Nat.le_of_ble_eq_true rfl⟩) rfl (tm_rec2 hC hw1_ρ_0 rfl) rfl (by decide) dX6_undo_14 (fun v_14 w_14 hp_14 => ?_)
    obtain ⟨hf_14, rfl⟩ := hp_14
    obtain ⟨hm0_14, hm1_14, hm2_14, hm3_14, hm4_14, hm5_14, hm6_14, -⟩ := id hf_14
    show tm_V x (tm_H x w_14) 0 0 17 [(0, .ref (ρ 0))] [.int (I (0))]
    exact tm_iret hC hR dX6_undo_17 (⟨1, sf, se, 0, σ, hf_14, rfl, Or.inl ⟨by omega, rfl, rfl⟩⟩)

set_option maxHeartbeats 4000000 in
set_option maxRecDepth 100000 in
theorem c_M_addDefect (γ : tmG) (hst : γ.1.stackTraces = false) (Λ : tmL) (ρ : Nat → Nat) (th sf se : Int) (σ : ST) (hM : RM γ.2.2.1 Λ ρ th sf se σ) (hw : WF0 σ) (b f t g : Int) (hr : (-2147483648 ≤ b ∧ b ≤ 2147483647) ∧ (-2147483648 ≤ f ∧ f ≤ 2147483647) ∧ (-2147483648 ≤ t ∧ t ≤ 2147483647) ∧ (-2147483648 ≤ g ∧ g ≤ 2147483647)) : tm_Con γ (tm_h2 γ.2.1 γ.2.2.1 γ.2.2.2.1) M_X6_addDefect 4 0 0 [.ref (ρ 0), .int (I (b)), .int (I (f)), .int (I (t)), .int (I (g))] Λ (fun v w' => ∃ k sf' se' r σ', RM γ.2.2.1 w' ρ k sf' se' σ' ∧ v = some (.int (I r)) ∧ Sp_addDefect σ b f t g k σ' r) := by
  refine tm_con hst (by decide) (Nat.le_of_ble_eq_true rfl) (fun x hB hR => ?_)
  have hg := hB.1
  subst hg
  have hC : tm_C x cX6_addDefect RX6 (some FieldType.int) := hB.2.2.2.1
  obtain ⟨hm0, hm1, hm2, hm3, hm4, hm5, hm6, hmd⟩ := id hM
  have hn := wf_n hw
  show tm_V x (tm_H x Λ) 0 0 0 [(0, .ref (ρ 0)), (1, .int (I (b))), (2, .int (I (f))), (3, .int (I (t))), (4, .int (I (g)))] []
  refine tm_aload_n 0 hC dX6_addDefect_0 rfl rfl ?_
  refine tm_iconst hC dX6_addDefect_1 ?_
  refine tm_putf2 hC f_X6_36 hm0 (tt_7_0 _) (Nat.le_of_ble_eq_true rfl) dX6_addDefect_2 ?_
  obtain ⟨w1, hw2⟩ : ∃ z, z = tm_u2 Λ (ρ 0) (.inr (7, [.int (I (0)), .int (I (s_nb σ)), .ref (ρ 1), .int (I (s_nd σ)), .ref (ρ 2), .int (I (s_np σ)), .ref (ρ 3), .ref (ρ 4), .int (I (s_sw σ)), .int (I (s_jt σ)), .int (I (s_nm σ)), .ref (ρ 5), .ref (ρ 6), .int (I (sf)), .int (I (se))])) := ⟨_, rfl⟩
  show tm_V x (tm_H x (tm_u2 Λ (ρ 0) (.inr (7, [.int (I (0)), .int (I (s_nb σ)), .ref (ρ 1), .int (I (s_nd σ)), .ref (ρ 2), .int (I (s_np σ)), .ref (ρ 3), .ref (ρ 4), .int (I (s_sw σ)), .int (I (s_jt σ)), .int (I (s_nm σ)), .ref (ρ 5), .ref (ρ 6), .int (I (sf)), .int (I (se))])))) 0 0 5 [(0, .ref (ρ 0)), (1, .int (I (b))), (2, .int (I (f))), (3, .int (I (t))), (4, .int (I (g)))] []
  rw [← hw2]
  have hw1_ρ_0 : w1 (ρ 0) = some (.inl (.inr (7, [.int (I (0)), .int (I (s_nb σ)), .ref (ρ 1), .int (I (s_nd σ)), .ref (ρ 2), .int (I (s_np σ)), .ref (ρ 3), .ref (ρ 4), .int (I (s_sw σ)), .int (I (s_jt σ)), .int (I (s_nm σ)), .ref (ρ 5), .ref (ρ 6), .int (I (sf)), .int (I (se))]))) := by rw [hw2]; first | done | exact tm_u2_s
  have hw1_ρ_1 := (show w1 (ρ 1) = _ by rw [hw2]; exact tm_u2_n (fun z => absurd (hm0.symm.trans (z ▸ hm1)) (by intro q; cases q))).trans hm1
  have hw1_ρ_2 := (show w1 (ρ 2) = _ by rw [hw2]; exact tm_u2_n (fun z => absurd (hm0.symm.trans (z ▸ hm2)) (by intro q; cases q))).trans hm2
  have hw1_ρ_3 := (show w1 (ρ 3) = _ by rw [hw2]; exact tm_u2_n (fun z => absurd (hm0.symm.trans (z ▸ hm3)) (by intro q; cases q))).trans hm3
  have hw1_ρ_4 := (show w1 (ρ 4) = _ by rw [hw2]; exact tm_u2_n (fun z => absurd (hm0.symm.trans (z ▸ hm4)) (by intro q; cases q))).trans hm4
  have hw1_ρ_5 := (show w1 (ρ 5) = _ by rw [hw2]; exact tm_u2_n (fun z => absurd (hm0.symm.trans (z ▸ hm5)) (by intro q; cases q))).trans hm5
  have hw1_ρ_6 := (show w1 (ρ 6) = _ by rw [hw2]; exact tm_u2_n (fun z => absurd (hm0.symm.trans (z ▸ hm6)) (by intro q; cases q))).trans hm6
  have hM_w1 : RM (tm_T x) w1 ρ 0 sf se σ := ⟨hw1_ρ_0, hw1_ρ_1, hw1_ρ_2, hw1_ρ_3, hw1_ρ_4, hw1_ρ_5, hw1_ρ_6, hmd⟩
  refine tm_aload_n 0 hC dX6_addDefect_5 rfl rfl ?_
  refine tm_iload_n 1 hC dX6_addDefect_6 rfl rfl ?_
  refine tm_callV (b := 0) (n := 0) (rest := []) hC (c_M_isBoard (tm_g x) hst w1 ρ 0 sf se σ hM_w1 hw b (by omega) ) k_X6_53 (by rw [hB.2.2.1]; exact ⟨Nat.le_of_ble_eq_true rfl, Nat.le_of_ble_eq_true rfl⟩) rfl (tm_rec2 hC hw1_ρ_0 rfl) rfl (by decide) dX6_addDefect_7 (fun v_7 w_7 hp_7 => ?_)
  obtain ⟨rfl, rfl⟩ := hp_7
  show tm_V x (tm_H x w1) 0 0 10 [(0, .ref (ρ 0)), (1, .int (I (b))), (2, .int (I (f))), (3, .int (I (t))), (4, .int (I (g)))] [.int (I (bi (0 ≤ b ∧ b ≤ s_nb σ - 1)))]
  refine tm_ifb_ne 19 hC dX6_addDefect_10 (by decide) (fun c_10 => ?_) (fun c_10 => ?_)
  · have hb9 := wf_b hw b (by omega)
    refine tm_iload_n 2 hC dX6_addDefect_19 rfl rfl ?_
    refine tm_if_lt 47 hC dX6_addDefect_20 (by decide) (by omega) (fun c_20 => ?_) (fun c_20 => ?_)
    · refine tm_aload_n 0 hC dX6_addDefect_47 rfl rfl ?_
      refine tm_iconst hC dX6_addDefect_48 ?_
      refine tm_callV (b := 0) (n := 0) (rest := []) hC (c_M_fail (tm_g x) hst w1 ρ 0 sf se σ hM_w1 hw 2) k_X6_49 (by rw [hB.2.2.1]; exact ⟨Nat.le_of_ble_eq_true rfl, Nat.le_of_ble_eq_true rfl⟩) rfl (tm_rec2 hC hw1_ρ_0 rfl) rfl (by decide) dX6_addDefect_49 (fun v_49 w_49 hp_49 => ?_)
      obtain ⟨hf_49, rfl⟩ := hp_49
      obtain ⟨hm0_49, hm1_49, hm2_49, hm3_49, hm4_49, hm5_49, hm6_49, -⟩ := id hf_49
      show tm_V x (tm_H x w_49) 0 0 52 [(0, .ref (ρ 0)), (1, .int (I (b))), (2, .int (I (f))), (3, .int (I (t))), (4, .int (I (g)))] [.int (I (0))]
      exact tm_iret hC hR dX6_addDefect_52 (⟨2, sf, se, 0, σ, hf_49, rfl, Or.inr (Or.inl ⟨by omega, by rw [okD_i]; omega, rfl, rfl⟩)⟩)
    · refine tm_iload_n 3 hC dX6_addDefect_23 rfl rfl ?_
      refine tm_iload_n 2 hC dX6_addDefect_24 rfl rfl ?_
      refine tm_icmp_le 47 hC dX6_addDefect_25 (by decide) (by omega) (fun c_25 => ?_) (fun c_25 => ?_)
      · refine tm_aload_n 0 hC dX6_addDefect_47 rfl rfl ?_
        refine tm_iconst hC dX6_addDefect_48 ?_
        refine tm_callV (b := 0) (n := 0) (rest := []) hC (c_M_fail (tm_g x) hst w1 ρ 0 sf se σ hM_w1 hw 2) k_X6_49 (by rw [hB.2.2.1]; exact ⟨Nat.le_of_ble_eq_true rfl, Nat.le_of_ble_eq_true rfl⟩) rfl (tm_rec2 hC hw1_ρ_0 rfl) rfl (by decide) dX6_addDefect_49 (fun v_49 w_49 hp_49 => ?_)
        obtain ⟨hf_49, rfl⟩ := hp_49
        obtain ⟨hm0_49, hm1_49, hm2_49, hm3_49, hm4_49, hm5_49, hm6_49, -⟩ := id hf_49
        show tm_V x (tm_H x w_49) 0 0 52 [(0, .ref (ρ 0)), (1, .int (I (b))), (2, .int (I (f))), (3, .int (I (t))), (4, .int (I (g)))] [.int (I (0))]
        exact tm_iret hC hR dX6_addDefect_52 (⟨2, sf, se, 0, σ, hf_49, rfl, Or.inr (Or.inl ⟨by omega, by rw [okD_i]; omega, rfl, rfl⟩)⟩)
      · refine tm_iload_n 3 hC dX6_addDefect_28 rfl rfl ?_
        refine tm_aload_n 0 hC dX6_addDefect_29 rfl rfl ?_
        refine tm_iload_n 1 hC dX6_addDefect_30 rfl rfl ?_
        refine tm_callV (b := 0) (n := 0) (rest := [.int (I (t))]) hC (c_M_length (tm_g x) hst w1 ρ 0 sf se σ hM_w1 hw b (by omega) ) k_X6_57 (by rw [hB.2.2.1]; exact ⟨Nat.le_of_ble_eq_true rfl, Nat.le_of_ble_eq_true rfl⟩) rfl (tm_rec2 hC hw1_ρ_0 rfl) rfl (by simp [Value.category]) dX6_addDefect_31 (fun v_31 w_31 hp_31 => ?_)
        obtain ⟨rfl, rfl, hb_31⟩ := hp_31
        show tm_V x (tm_H x w1) 0 0 34 [(0, .ref (ρ 0)), (1, .int (I (b))), (2, .int (I (f))), (3, .int (I (t))), (4, .int (I (g)))] [.int (I (s_wo σ (3 * b))), .int (I (t))]
        refine tm_icmp_gt 47 hC dX6_addDefect_34 (by decide) (by omega) (fun c_34 => ?_) (fun c_34 => ?_)
        · refine tm_aload_n 0 hC dX6_addDefect_47 rfl rfl ?_
          refine tm_iconst hC dX6_addDefect_48 ?_
          refine tm_callV (b := 0) (n := 0) (rest := []) hC (c_M_fail (tm_g x) hst w1 ρ 0 sf se σ hM_w1 hw 2) k_X6_49 (by rw [hB.2.2.1]; exact ⟨Nat.le_of_ble_eq_true rfl, Nat.le_of_ble_eq_true rfl⟩) rfl (tm_rec2 hC hw1_ρ_0 rfl) rfl (by decide) dX6_addDefect_49 (fun v_49 w_49 hp_49 => ?_)
          obtain ⟨hf_49, rfl⟩ := hp_49
          obtain ⟨hm0_49, hm1_49, hm2_49, hm3_49, hm4_49, hm5_49, hm6_49, -⟩ := id hf_49
          show tm_V x (tm_H x w_49) 0 0 52 [(0, .ref (ρ 0)), (1, .int (I (b))), (2, .int (I (f))), (3, .int (I (t))), (4, .int (I (g)))] [.int (I (0))]
          exact tm_iret hC hR dX6_addDefect_52 (⟨2, sf, se, 0, σ, hf_49, rfl, Or.inr (Or.inl ⟨by omega, by rw [okD_i]; omega, rfl, rfl⟩)⟩)
        · refine tm_iload 4 hC dX6_addDefect_37 rfl ?_
          refine tm_iconst hC dX6_addDefect_39 ?_
          refine tm_iconst hC dX6_addDefect_40 ?_
          refine tm_callS (b := 0) (n := 0) (rest := []) hC (c_M_isIn (tm_g x) hst _ w1 g 1 3 (by omega)) k_X6_42 (by rw [hB.2.2.1]; exact ⟨Nat.le_of_ble_eq_true rfl, Nat.le_of_ble_eq_true rfl⟩) rfl rfl (by decide) dX6_addDefect_41 (fun v_41 w_41 hp_41 => ?_)
          obtain ⟨rfl, rfl⟩ := hp_41
          show tm_V x (tm_H x w1) 0 0 44 [(0, .ref (ρ 0)), (1, .int (I (b))), (2, .int (I (f))), (3, .int (I (t))), (4, .int (I (g)))] [.int (I (bi (1 ≤ g ∧ g ≤ 3)))]
          refine tm_ifb_ne 53 hC dX6_addDefect_44 (by decide) (fun c_44 => ?_) (fun c_44 => ?_)
          · refine tm_aload_n 0 hC dX6_addDefect_53 rfl rfl ?_
            refine tm_getf2 hC f_X6_60 hw1_ρ_0 rfl dX6_addDefect_54 ?_
            refine tm_bipush hC dX6_addDefect_57 rfl ?_
            refine tm_icmp_ne 66 hC dX6_addDefect_59 (by decide) (by omega) (fun c_59 => ?_) (fun c_59 => ?_)
            · refine tm_iconst hC dX6_addDefect_66 ?_
              refine tm_istore [(5, .int (I (0))), (0, .ref (ρ 0)), (1, .int (I (b))), (2, .int (I (f))), (3, .int (I (t))), (4, .int (I (g)))] hC dX6_addDefect_67 (by rw [hB.2.1]; exact Nat.le_of_ble_eq_true rfl) rfl ?_
              refine tm_iconst hC dX6_addDefect_69 ?_
              refine tm_istore [(6, .int (I (0))), (5, .int (I (0))), (0, .ref (ρ 0)), (1, .int (I (b))), (2, .int (I (f))), (3, .int (I (t))), (4, .int (I (g)))] hC dX6_addDefect_70 (by rw [hB.2.1]; exact Nat.le_of_ble_eq_true rfl) rfl ?_
              have hL_72 : ∀ (fu : Nat) (rf : Int) (q : Int), ((0 ≤ q ∧ q ≤ s_nm σ) ∧ ((rf = 1 ∧ (s_nd σ = 24 ∨ spoil σ b f t g (s_nm σ))) ∨ (rf = 0 ∧ s_nd σ ≠ 24 ∧ ¬ spoil σ b f t g q))) → ((s_nm σ - q).toNat) < fu → tm_V x (tm_H x w1) 0 0 72 [(0, .ref (ρ 0)), (1, .int (I (b))), (2, .int (I (f))), (3, .int (I (t))), (4, .int (I (g))), (5, .int (I (rf))), (6, .int (I (q)))] [] := by
                intro fu
                induction fu with
                | zero => intro rf q hinv hm; exact absurd hm (Nat.not_lt_zero _)
                | succ fu ih_72 =>
                  intro rf q hinv_72 hm_72
                  obtain ⟨hq, hrf⟩ := hinv_72
                  have hrf2 : rf = 0 ∨ rf = 1 := by rcases hrf with h | h; exact Or.inr h.1; exact Or.inl h.1
                  refine tm_iload 6 hC dX6_addDefect_72 rfl ?_
                  refine tm_aload_n 0 hC dX6_addDefect_74 rfl rfl ?_
                  refine tm_getf2 hC f_X6_63 hw1_ρ_0 rfl dX6_addDefect_75 ?_
                  refine tm_icmp_ge 145 hC dX6_addDefect_78 (by decide) (by omega) (fun c_78 => ?_) (fun c_78 => ?_)
                  · refine tm_iload 5 hC dX6_addDefect_145 rfl ?_
                    refine tm_if_eq 156 hC dX6_addDefect_147 (by decide) (by omega) (fun c_147 => ?_) (fun c_147 => ?_)
                    · refine tm_aload_n 0 hC dX6_addDefect_156 rfl rfl ?_
                      refine tm_getf2 hC f_X6_13 hw1_ρ_0 rfl dX6_addDefect_157 ?_
                      refine tm_iconst hC dX6_addDefect_160 ?_
                      refine tm_aload_n 0 hC dX6_addDefect_161 rfl rfl ?_
                      refine tm_getf2 hC f_X6_60 hw1_ρ_0 rfl dX6_addDefect_162 ?_
                      refine tm_imul hC dX6_addDefect_165 ?_
                      refine tm_iload_n 1 hC dX6_addDefect_166 rfl rfl ?_
                      refine tm_iast2 hC hw1_ρ_2 (by omega) dX6_addDefect_167 ?_
                      obtain ⟨w3, hw4⟩ : ∃ z, z = tm_u2 w1 (ρ 2) (tm_ai (tm_T x) 96 (tm_ui (s_fl σ) (4 * (s_nd σ)) (b))) := ⟨_, rfl⟩
                      show tm_V x (tm_H x (tm_u2 w1 (ρ 2) (tm_ai (tm_T x) 96 (tm_ui (s_fl σ) (4 * (s_nd σ)) (b))))) 0 0 168 [(0, .ref (ρ 0)), (1, .int (I (b))), (2, .int (I (f))), (3, .int (I (t))), (4, .int (I (g))), (5, .int (I (rf))), (6, .int (I (q)))] []
                      rw [← hw4]
                      have hw3_ρ_2 : w3 (ρ 2) = some (.inl (tm_ai (tm_T x) 96 (tm_ui (s_fl σ) (4 * (s_nd σ)) (b)))) := by rw [hw4]; first | done | exact tm_u2_s
                      have hw3_ρ_0 := (show w3 (ρ 0) = _ by rw [hw4]; exact tm_u2_n (fun z => absurd (hw1_ρ_2.symm.trans (z ▸ hw1_ρ_0)) (by intro q; cases q))).trans hw1_ρ_0
                      have hw3_ρ_1 := (show w3 (ρ 1) = _ by rw [hw4]; exact tm_u2_n (hmd 1 2 (by decide) (by decide) (by decide))).trans hw1_ρ_1
                      have hw3_ρ_3 := (show w3 (ρ 3) = _ by rw [hw4]; exact tm_u2_n (hmd 3 2 (by decide) (by decide) (by decide))).trans hw1_ρ_3
                      have hw3_ρ_4 := (show w3 (ρ 4) = _ by rw [hw4]; exact tm_u2_n (hmd 4 2 (by decide) (by decide) (by decide))).trans hw1_ρ_4
                      have hw3_ρ_5 := (show w3 (ρ 5) = _ by rw [hw4]; exact tm_u2_n (hmd 5 2 (by decide) (by decide) (by decide))).trans hw1_ρ_5
                      have hw3_ρ_6 := (show w3 (ρ 6) = _ by rw [hw4]; exact tm_u2_n (hmd 6 2 (by decide) (by decide) (by decide))).trans hw1_ρ_6
                      refine tm_aload_n 0 hC dX6_addDefect_168 rfl rfl ?_
                      refine tm_getf2 hC f_X6_13 hw3_ρ_0 rfl dX6_addDefect_169 ?_
                      refine tm_iconst hC dX6_addDefect_172 ?_
                      refine tm_aload_n 0 hC dX6_addDefect_173 rfl rfl ?_
                      refine tm_getf2 hC f_X6_60 hw3_ρ_0 rfl dX6_addDefect_174 ?_
                      refine tm_imul hC dX6_addDefect_177 ?_
                      refine tm_iconst hC dX6_addDefect_178 ?_
                      refine tm_iadd hC dX6_addDefect_179 ?_
                      refine tm_iload_n 2 hC dX6_addDefect_180 rfl rfl ?_
                      refine tm_iast2 hC hw3_ρ_2 (by omega) dX6_addDefect_181 ?_
                      obtain ⟨w5, hw6⟩ : ∃ z, z = tm_u2 w3 (ρ 2) (tm_ai (tm_T x) 96 (tm_ui (tm_ui (s_fl σ) (4 * (s_nd σ)) (b)) ((4 * (s_nd σ)) + 1) (f))) := ⟨_, rfl⟩
                      show tm_V x (tm_H x (tm_u2 w3 (ρ 2) (tm_ai (tm_T x) 96 (tm_ui (tm_ui (s_fl σ) (4 * (s_nd σ)) (b)) ((4 * (s_nd σ)) + 1) (f))))) 0 0 182 [(0, .ref (ρ 0)), (1, .int (I (b))), (2, .int (I (f))), (3, .int (I (t))), (4, .int (I (g))), (5, .int (I (rf))), (6, .int (I (q)))] []
                      rw [← hw6]
                      have hw5_ρ_2 : w5 (ρ 2) = some (.inl (tm_ai (tm_T x) 96 (tm_ui (tm_ui (s_fl σ) (4 * (s_nd σ)) (b)) ((4 * (s_nd σ)) + 1) (f)))) := by rw [hw6]; first | done | exact tm_u2_s
                      have hw5_ρ_0 := (show w5 (ρ 0) = _ by rw [hw6]; exact tm_u2_n (fun z => absurd (hw3_ρ_2.symm.trans (z ▸ hw3_ρ_0)) (by intro q; cases q))).trans hw3_ρ_0
                      have hw5_ρ_1 := (show w5 (ρ 1) = _ by rw [hw6]; exact tm_u2_n (hmd 1 2 (by decide) (by decide) (by decide))).trans hw3_ρ_1
                      have hw5_ρ_3 := (show w5 (ρ 3) = _ by rw [hw6]; exact tm_u2_n (hmd 3 2 (by decide) (by decide) (by decide))).trans hw3_ρ_3
                      have hw5_ρ_4 := (show w5 (ρ 4) = _ by rw [hw6]; exact tm_u2_n (hmd 4 2 (by decide) (by decide) (by decide))).trans hw3_ρ_4
                      have hw5_ρ_5 := (show w5 (ρ 5) = _ by rw [hw6]; exact tm_u2_n (hmd 5 2 (by decide) (by decide) (by decide))).trans hw3_ρ_5
                      have hw5_ρ_6 := (show w5 (ρ 6) = _ by rw [hw6]; exact tm_u2_n (hmd 6 2 (by decide) (by decide) (by decide))).trans hw3_ρ_6
                      refine tm_aload_n 0 hC dX6_addDefect_182 rfl rfl ?_
                      refine tm_getf2 hC f_X6_13 hw5_ρ_0 rfl dX6_addDefect_183 ?_
                      refine tm_iconst hC dX6_addDefect_186 ?_
                      refine tm_aload_n 0 hC dX6_addDefect_187 rfl rfl ?_
                      refine tm_getf2 hC f_X6_60 hw5_ρ_0 rfl dX6_addDefect_188 ?_
                      refine tm_imul hC dX6_addDefect_191 ?_
                      refine tm_iconst hC dX6_addDefect_192 ?_
                      refine tm_iadd hC dX6_addDefect_193 ?_
                      refine tm_iload_n 3 hC dX6_addDefect_194 rfl rfl ?_
                      refine tm_iast2 hC hw5_ρ_2 (by omega) dX6_addDefect_195 ?_
                      obtain ⟨w7, hw8⟩ : ∃ z, z = tm_u2 w5 (ρ 2) (tm_ai (tm_T x) 96 (tm_ui (tm_ui (tm_ui (s_fl σ) (4 * (s_nd σ)) (b)) ((4 * (s_nd σ)) + 1) (f)) ((4 * (s_nd σ)) + 2) (t))) := ⟨_, rfl⟩
                      show tm_V x (tm_H x (tm_u2 w5 (ρ 2) (tm_ai (tm_T x) 96 (tm_ui (tm_ui (tm_ui (s_fl σ) (4 * (s_nd σ)) (b)) ((4 * (s_nd σ)) + 1) (f)) ((4 * (s_nd σ)) + 2) (t))))) 0 0 196 [(0, .ref (ρ 0)), (1, .int (I (b))), (2, .int (I (f))), (3, .int (I (t))), (4, .int (I (g))), (5, .int (I (rf))), (6, .int (I (q)))] []
                      rw [← hw8]
                      have hw7_ρ_2 : w7 (ρ 2) = some (.inl (tm_ai (tm_T x) 96 (tm_ui (tm_ui (tm_ui (s_fl σ) (4 * (s_nd σ)) (b)) ((4 * (s_nd σ)) + 1) (f)) ((4 * (s_nd σ)) + 2) (t)))) := by rw [hw8]; first | done | exact tm_u2_s
                      have hw7_ρ_0 := (show w7 (ρ 0) = _ by rw [hw8]; exact tm_u2_n (fun z => absurd (hw5_ρ_2.symm.trans (z ▸ hw5_ρ_0)) (by intro q; cases q))).trans hw5_ρ_0
                      have hw7_ρ_1 := (show w7 (ρ 1) = _ by rw [hw8]; exact tm_u2_n (hmd 1 2 (by decide) (by decide) (by decide))).trans hw5_ρ_1
                      have hw7_ρ_3 := (show w7 (ρ 3) = _ by rw [hw8]; exact tm_u2_n (hmd 3 2 (by decide) (by decide) (by decide))).trans hw5_ρ_3
                      have hw7_ρ_4 := (show w7 (ρ 4) = _ by rw [hw8]; exact tm_u2_n (hmd 4 2 (by decide) (by decide) (by decide))).trans hw5_ρ_4
                      have hw7_ρ_5 := (show w7 (ρ 5) = _ by rw [hw8]; exact tm_u2_n (hmd 5 2 (by decide) (by decide) (by decide))).trans hw5_ρ_5
                      have hw7_ρ_6 := (show w7 (ρ 6) = _ by rw [hw8]; exact tm_u2_n (hmd 6 2 (by decide) (by decide) (by decide))).trans hw5_ρ_6
                      refine tm_aload_n 0 hC dX6_addDefect_196 rfl rfl ?_
                      refine tm_getf2 hC f_X6_13 hw7_ρ_0 rfl dX6_addDefect_197 ?_
                      refine tm_iconst hC dX6_addDefect_200 ?_
                      refine tm_aload_n 0 hC dX6_addDefect_201 rfl rfl ?_
                      refine tm_getf2 hC f_X6_60 hw7_ρ_0 rfl dX6_addDefect_202 ?_
                      refine tm_imul hC dX6_addDefect_205 ?_
                      refine tm_iconst hC dX6_addDefect_206 ?_
                      refine tm_iadd hC dX6_addDefect_207 ?_
                      refine tm_iload 4 hC dX6_addDefect_208 rfl ?_
                      refine tm_iast2 hC hw7_ρ_2 (by omega) dX6_addDefect_210 ?_
                      obtain ⟨w9, hw10⟩ : ∃ z, z = tm_u2 w7 (ρ 2) (tm_ai (tm_T x) 96 (tm_ui (tm_ui (tm_ui (tm_ui (s_fl σ) (4 * (s_nd σ)) (b)) ((4 * (s_nd σ)) + 1) (f)) ((4 * (s_nd σ)) + 2) (t)) ((4 * (s_nd σ)) + 3) (g))) := ⟨_, rfl⟩
                      show tm_V x (tm_H x (tm_u2 w7 (ρ 2) (tm_ai (tm_T x) 96 (tm_ui (tm_ui (tm_ui (tm_ui (s_fl σ) (4 * (s_nd σ)) (b)) ((4 * (s_nd σ)) + 1) (f)) ((4 * (s_nd σ)) + 2) (t)) ((4 * (s_nd σ)) + 3) (g))))) 0 0 211 [(0, .ref (ρ 0)), (1, .int (I (b))), (2, .int (I (f))), (3, .int (I (t))), (4, .int (I (g))), (5, .int (I (rf))), (6, .int (I (q)))] []
                      rw [← hw10]
                      have hw9_ρ_2 : w9 (ρ 2) = some (.inl (tm_ai (tm_T x) 96 (tm_ui (tm_ui (tm_ui (tm_ui (s_fl σ) (4 * (s_nd σ)) (b)) ((4 * (s_nd σ)) + 1) (f)) ((4 * (s_nd σ)) + 2) (t)) ((4 * (s_nd σ)) + 3) (g)))) := by rw [hw10]; first | done | exact tm_u2_s
                      have hw9_ρ_0 := (show w9 (ρ 0) = _ by rw [hw10]; exact tm_u2_n (fun z => absurd (hw7_ρ_2.symm.trans (z ▸ hw7_ρ_0)) (by intro q; cases q))).trans hw7_ρ_0
                      have hw9_ρ_1 := (show w9 (ρ 1) = _ by rw [hw10]; exact tm_u2_n (hmd 1 2 (by decide) (by decide) (by decide))).trans hw7_ρ_1
                      have hw9_ρ_3 := (show w9 (ρ 3) = _ by rw [hw10]; exact tm_u2_n (hmd 3 2 (by decide) (by decide) (by decide))).trans hw7_ρ_3
                      have hw9_ρ_4 := (show w9 (ρ 4) = _ by rw [hw10]; exact tm_u2_n (hmd 4 2 (by decide) (by decide) (by decide))).trans hw7_ρ_4
                      have hw9_ρ_5 := (show w9 (ρ 5) = _ by rw [hw10]; exact tm_u2_n (hmd 5 2 (by decide) (by decide) (by decide))).trans hw7_ρ_5
                      have hw9_ρ_6 := (show w9 (ρ 6) = _ by rw [hw10]; exact tm_u2_n (hmd 6 2 (by decide) (by decide) (by decide))).trans hw7_ρ_6
                      refine tm_aload_n 0 hC dX6_addDefect_211 rfl rfl ?_
                      refine tm_dup hC dX6_addDefect_212 rfl ?_
                      refine tm_getf2 hC f_X6_60 hw9_ρ_0 rfl dX6_addDefect_213 ?_
                      refine tm_iconst hC dX6_addDefect_216 ?_
                      refine tm_iadd hC dX6_addDefect_217 ?_
                      refine tm_putf2 hC f_X6_60 hw9_ρ_0 (tt_7_3 _) (Nat.le_of_ble_eq_true rfl) dX6_addDefect_218 ?_
                      obtain ⟨w11, hw12⟩ : ∃ z, z = tm_u2 w9 (ρ 0) (.inr (7, [.int (I (0)), .int (I (s_nb σ)), .ref (ρ 1), .int (I ((s_nd σ) + 1)), .ref (ρ 2), .int (I (s_np σ)), .ref (ρ 3), .ref (ρ 4), .int (I (s_sw σ)), .int (I (s_jt σ)), .int (I (s_nm σ)), .ref (ρ 5), .ref (ρ 6), .int (I (sf)), .int (I (se))])) := ⟨_, rfl⟩
                      show tm_V x (tm_H x (tm_u2 w9 (ρ 0) (.inr (7, [.int (I (0)), .int (I (s_nb σ)), .ref (ρ 1), .int (I ((s_nd σ) + 1)), .ref (ρ 2), .int (I (s_np σ)), .ref (ρ 3), .ref (ρ 4), .int (I (s_sw σ)), .int (I (s_jt σ)), .int (I (s_nm σ)), .ref (ρ 5), .ref (ρ 6), .int (I (sf)), .int (I (se))])))) 0 0 221 [(0, .ref (ρ 0)), (1, .int (I (b))), (2, .int (I (f))), (3, .int (I (t))), (4, .int (I (g))), (5, .int (I (rf))), (6, .int (I (q)))] []
                      rw [← hw12]
                      have hw11_ρ_0 : w11 (ρ 0) = some (.inl (.inr (7, [.int (I (0)), .int (I (s_nb σ)), .ref (ρ 1), .int (I ((s_nd σ) + 1)), .ref (ρ 2), .int (I (s_np σ)), .ref (ρ 3), .ref (ρ 4), .int (I (s_sw σ)), .int (I (s_jt σ)), .int (I (s_nm σ)), .ref (ρ 5), .ref (ρ 6), .int (I (sf)), .int (I (se))]))) := by rw [hw12]; first | done | exact tm_u2_s
                      have hw11_ρ_1 := (show w11 (ρ 1) = _ by rw [hw12]; exact tm_u2_n (fun z => absurd (hw9_ρ_0.symm.trans (z ▸ hw9_ρ_1)) (by intro q; cases q))).trans hw9_ρ_1
                      have hw11_ρ_2 := (show w11 (ρ 2) = _ by rw [hw12]; exact tm_u2_n (fun z => absurd (hw9_ρ_0.symm.trans (z ▸ hw9_ρ_2)) (by intro q; cases q))).trans hw9_ρ_2
                      have hw11_ρ_3 := (show w11 (ρ 3) = _ by rw [hw12]; exact tm_u2_n (fun z => absurd (hw9_ρ_0.symm.trans (z ▸ hw9_ρ_3)) (by intro q; cases q))).trans hw9_ρ_3
                      have hw11_ρ_4 := (show w11 (ρ 4) = _ by rw [hw12]; exact tm_u2_n (fun z => absurd (hw9_ρ_0.symm.trans (z ▸ hw9_ρ_4)) (by intro q; cases q))).trans hw9_ρ_4
                      have hw11_ρ_5 := (show w11 (ρ 5) = _ by rw [hw12]; exact tm_u2_n (fun z => absurd (hw9_ρ_0.symm.trans (z ▸ hw9_ρ_5)) (by intro q; cases q))).trans hw9_ρ_5
                      have hw11_ρ_6 := (show w11 (ρ 6) = _ by rw [hw12]; exact tm_u2_n (fun z => absurd (hw9_ρ_0.symm.trans (z ▸ hw9_ρ_6)) (by intro q; cases q))).trans hw9_ρ_6
                      refine tm_aload_n 0 hC dX6_addDefect_221 rfl rfl ?_
                      refine tm_getf2 hC f_X6_60 hw11_ρ_0 rfl dX6_addDefect_222 ?_
                      exact tm_iret hC hR dX6_addDefect_225 (⟨0, sf, se, ((s_nd σ) + 1), (addD σ b f t g), ⟨hw11_ρ_0, hw11_ρ_1, hw11_ρ_2, hw11_ρ_3, hw11_ρ_4, hw11_ρ_5, hw11_ρ_6, hmd⟩, rfl, Or.inr (Or.inr (Or.inr ⟨by omega, by rw [okD_i]; omega, by rcases hrf with h | h; omega; exact h.2.1, by rcases hrf with h | h; omega; exact spoil_at (by omega) (by omega) h.2.2, rfl, rfl, rfl⟩))⟩)
                    · refine tm_aload_n 0 hC dX6_addDefect_150 rfl rfl ?_
                      refine tm_iconst hC dX6_addDefect_151 ?_
                      refine tm_callV (b := 0) (n := 0) (rest := []) hC (c_M_fail (tm_g x) hst w1 ρ 0 sf se σ hM_w1 hw 3) k_X6_49 (by rw [hB.2.2.1]; exact ⟨Nat.le_of_ble_eq_true rfl, Nat.le_of_ble_eq_true rfl⟩) rfl (tm_rec2 hC hw1_ρ_0 rfl) rfl (by decide) dX6_addDefect_152 (fun v_152 w_152 hp_152 => ?_)
                      obtain ⟨hf_152, rfl⟩ := hp_152
                      obtain ⟨hm0_152, hm1_152, hm2_152, hm3_152, hm4_152, hm5_152, hm6_152, -⟩ := id hf_152
                      show tm_V x (tm_H x w_152) 0 0 155 [(0, .ref (ρ 0)), (1, .int (I (b))), (2, .int (I (f))), (3, .int (I (t))), (4, .int (I (g))), (5, .int (I (rf))), (6, .int (I (q)))] [.int (I (0))]
                      exact tm_iret hC hR dX6_addDefect_155 (⟨3, sf, se, 0, σ, hf_152, rfl, Or.inr (Or.inr (Or.inl ⟨by omega, by rw [okD_i]; omega, by rcases hrf with h | h; exact h.2; omega, rfl, rfl⟩))⟩)
                  · have hk9 := wf_k hw q (by omega)
                    refine tm_iload 5 hC dX6_addDefect_81 rfl ?_
                    refine tm_if_ne 132 hC dX6_addDefect_83 (by decide) (by omega) (fun c_83 => ?_) (fun c_83 => ?_)
                    · refine tm_iconst hC dX6_addDefect_132 ?_
                      refine tm_goto 137 hC dX6_addDefect_133 (by decide) ?_
                      refine tm_istore [(5, .int (I (1))), (0, .ref (ρ 0)), (1, .int (I (b))), (2, .int (I (f))), (3, .int (I (t))), (4, .int (I (g))), (6, .int (I (q)))] hC dX6_addDefect_137 (by rw [hB.2.1]; exact Nat.le_of_ble_eq_true rfl) rfl ?_
                      refine tm_iinc 6 [(6, .int (I (q + 1))), (5, .int (I (1))), (0, .ref (ρ 0)), (1, .int (I (b))), (2, .int (I (f))), (3, .int (I (t))), (4, .int (I (g)))] hC dX6_addDefect_139 rfl (by rw [hB.2.1]; exact Nat.le_of_ble_eq_true rfl) rfl ?_
                      refine tm_goto 72 hC dX6_addDefect_142 (by decide) ?_
                      refine tm_sub (L' := [(0, .ref (ρ 0)), (1, .int (I (b))), (2, .int (I (f))), (3, .int (I (t))), (4, .int (I (g))), (5, .int (I (1))), (6, .int (I (q + 1)))]) [2, 3, 4, 5, 6, 1, 0] rfl ?_
                      exact ih_72  1 (q + 1) (⟨by omega, Or.inl ⟨rfl, by rcases hrf with h | h; exact h.2; omega⟩⟩) (by omega)
                    · have hns : s_nd σ ≠ 24 ∧ ¬ spoil σ b f t g q := by rcases hrf with h | h; omega; exact h.2
                      refine tm_aload_n 0 hC dX6_addDefect_86 rfl rfl ?_
                      refine tm_iload 6 hC dX6_addDefect_87 rfl ?_
                      refine tm_iload_n 1 hC dX6_addDefect_89 rfl rfl ?_
                      refine tm_callV (b := 0) (n := 0) (rest := []) hC (c_M_isOn (tm_g x) hst w1 ρ 0 sf se σ hM_w1 hw q (by omega) b (by omega) ) k_X6_66 (by rw [hB.2.2.1]; exact ⟨Nat.le_of_ble_eq_true rfl, Nat.le_of_ble_eq_true rfl⟩) rfl (tm_rec2 hC hw1_ρ_0 rfl) rfl (by decide) dX6_addDefect_90 (fun v_90 w_90 hp_90 => ?_)
                      obtain ⟨rfl, rfl, hb_90⟩ := hp_90
                      show tm_V x (tm_H x w1) 0 0 93 [(0, .ref (ρ 0)), (1, .int (I (b))), (2, .int (I (f))), (3, .int (I (t))), (4, .int (I (g))), (5, .int (I (rf))), (6, .int (I (q)))] [.int (I (bi (s_cu σ (4 * q) = b)))]
                      refine tm_ifb_eq 136 hC dX6_addDefect_93 (by decide) (fun c_93 => ?_) (fun c_93 => ?_)
                      · refine tm_iconst hC dX6_addDefect_136 ?_
                        refine tm_istore [(5, .int (I (0))), (0, .ref (ρ 0)), (1, .int (I (b))), (2, .int (I (f))), (3, .int (I (t))), (4, .int (I (g))), (6, .int (I (q)))] hC dX6_addDefect_137 (by rw [hB.2.1]; exact Nat.le_of_ble_eq_true rfl) rfl ?_
                        refine tm_iinc 6 [(6, .int (I (q + 1))), (5, .int (I (0))), (0, .ref (ρ 0)), (1, .int (I (b))), (2, .int (I (f))), (3, .int (I (t))), (4, .int (I (g)))] hC dX6_addDefect_139 rfl (by rw [hB.2.1]; exact Nat.le_of_ble_eq_true rfl) rfl ?_
                        refine tm_goto 72 hC dX6_addDefect_142 (by decide) ?_
                        refine tm_sub (L' := [(0, .ref (ρ 0)), (1, .int (I (b))), (2, .int (I (f))), (3, .int (I (t))), (4, .int (I (g))), (5, .int (I (0))), (6, .int (I (q + 1)))]) [2, 3, 4, 5, 6, 1, 0] rfl ?_
                        exact ih_72  0 (q + 1) (⟨by omega, Or.inr ⟨rfl, hns.1, spoil_no hns.2 (fun z => c_93 z.1)⟩⟩) (by omega)
                      · refine tm_aload_n 0 hC dX6_addDefect_96 rfl rfl ?_
                        refine tm_iload 6 hC dX6_addDefect_97 rfl ?_
                        refine tm_callV (b := 0) (n := 0) (rest := []) hC (c_M_from (tm_g x) hst w1 ρ 0 sf se σ hM_w1 hw q (by omega) ) k_X6_70 (by rw [hB.2.2.1]; exact ⟨Nat.le_of_ble_eq_true rfl, Nat.le_of_ble_eq_true rfl⟩) rfl (tm_rec2 hC hw1_ρ_0 rfl) rfl (by decide) dX6_addDefect_99 (fun v_99 w_99 hp_99 => ?_)
                        obtain ⟨rfl, rfl, hb_99⟩ := hp_99
                        show tm_V x (tm_H x w1) 0 0 102 [(0, .ref (ρ 0)), (1, .int (I (b))), (2, .int (I (f))), (3, .int (I (t))), (4, .int (I (g))), (5, .int (I (rf))), (6, .int (I (q)))] [.int (I (s_cu σ (4 * q + 1)))]
                        refine tm_iload_n 3 hC dX6_addDefect_102 rfl rfl ?_
                        refine tm_icmp_ge 136 hC dX6_addDefect_103 (by decide) (by omega) (fun c_103 => ?_) (fun c_103 => ?_)
                        · refine tm_iconst hC dX6_addDefect_136 ?_
                          refine tm_istore [(5, .int (I (0))), (0, .ref (ρ 0)), (1, .int (I (b))), (2, .int (I (f))), (3, .int (I (t))), (4, .int (I (g))), (6, .int (I (q)))] hC dX6_addDefect_137 (by rw [hB.2.1]; exact Nat.le_of_ble_eq_true rfl) rfl ?_
                          refine tm_iinc 6 [(6, .int (I (q + 1))), (5, .int (I (0))), (0, .ref (ρ 0)), (1, .int (I (b))), (2, .int (I (f))), (3, .int (I (t))), (4, .int (I (g)))] hC dX6_addDefect_139 rfl (by rw [hB.2.1]; exact Nat.le_of_ble_eq_true rfl) rfl ?_
                          refine tm_goto 72 hC dX6_addDefect_142 (by decide) ?_
                          refine tm_sub (L' := [(0, .ref (ρ 0)), (1, .int (I (b))), (2, .int (I (f))), (3, .int (I (t))), (4, .int (I (g))), (5, .int (I (0))), (6, .int (I (q + 1)))]) [2, 3, 4, 5, 6, 1, 0] rfl ?_
                          exact ih_72  0 (q + 1) (⟨by omega, Or.inr ⟨rfl, hns.1, spoil_no hns.2 (fun z => by omega)⟩⟩) (by omega)
                        · refine tm_iload_n 2 hC dX6_addDefect_106 rfl rfl ?_
                          refine tm_aload_n 0 hC dX6_addDefect_107 rfl rfl ?_
                          refine tm_iload 6 hC dX6_addDefect_108 rfl ?_
                          refine tm_callV (b := 0) (n := 0) (rest := [.int (I (f))]) hC (c_M_to (tm_g x) hst w1 ρ 0 sf se σ hM_w1 hw q (by omega) ) k_X6_73 (by rw [hB.2.2.1]; exact ⟨Nat.le_of_ble_eq_true rfl, Nat.le_of_ble_eq_true rfl⟩) rfl (tm_rec2 hC hw1_ρ_0 rfl) rfl (by simp [Value.category]) dX6_addDefect_110 (fun v_110 w_110 hp_110 => ?_)
                          obtain ⟨rfl, rfl, hb_110⟩ := hp_110
                          show tm_V x (tm_H x w1) 0 0 113 [(0, .ref (ρ 0)), (1, .int (I (b))), (2, .int (I (f))), (3, .int (I (t))), (4, .int (I (g))), (5, .int (I (rf))), (6, .int (I (q)))] [.int (I (s_cu σ (4 * q + 2))), .int (I (f))]
                          refine tm_icmp_ge 136 hC dX6_addDefect_113 (by decide) (by omega) (fun c_113 => ?_) (fun c_113 => ?_)
                          · refine tm_iconst hC dX6_addDefect_136 ?_
                            refine tm_istore [(5, .int (I (0))), (0, .ref (ρ 0)), (1, .int (I (b))), (2, .int (I (f))), (3, .int (I (t))), (4, .int (I (g))), (6, .int (I (q)))] hC dX6_addDefect_137 (by rw [hB.2.1]; exact Nat.le_of_ble_eq_true rfl) rfl ?_
                            refine tm_iinc 6 [(6, .int (I (q + 1))), (5, .int (I (0))), (0, .ref (ρ 0)), (1, .int (I (b))), (2, .int (I (f))), (3, .int (I (t))), (4, .int (I (g)))] hC dX6_addDefect_139 rfl (by rw [hB.2.1]; exact Nat.le_of_ble_eq_true rfl) rfl ?_
                            refine tm_goto 72 hC dX6_addDefect_142 (by decide) ?_
                            refine tm_sub (L' := [(0, .ref (ρ 0)), (1, .int (I (b))), (2, .int (I (f))), (3, .int (I (t))), (4, .int (I (g))), (5, .int (I (0))), (6, .int (I (q + 1)))]) [2, 3, 4, 5, 6, 1, 0] rfl ?_
                            exact ih_72  0 (q + 1) (⟨by omega, Or.inr ⟨rfl, hns.1, spoil_no hns.2 (fun z => by omega)⟩⟩) (by omega)
                          · refine tm_iload 4 hC dX6_addDefect_116 rfl ?_
                            refine tm_aload_n 0 hC dX6_addDefect_118 rfl rfl ?_
                            refine tm_aload_n 0 hC dX6_addDefect_119 rfl rfl ?_
                            refine tm_iload 6 hC dX6_addDefect_120 rfl ?_
                            refine tm_callV (b := 0) (n := 0) (rest := [.ref (ρ 0), .int (I (g))]) hC (c_M_partOf (tm_g x) hst w1 ρ 0 sf se σ hM_w1 hw q (by omega) ) k_X6_76 (by rw [hB.2.2.1]; exact ⟨Nat.le_of_ble_eq_true rfl, Nat.le_of_ble_eq_true rfl⟩) rfl (tm_rec2 hC hw1_ρ_0 rfl) rfl (by simp [Value.category]) dX6_addDefect_122 (fun v_122 w_122 hp_122 => ?_)
                            obtain ⟨rfl, rfl, hb_122⟩ := hp_122
                            show tm_V x (tm_H x w1) 0 0 125 [(0, .ref (ρ 0)), (1, .int (I (b))), (2, .int (I (f))), (3, .int (I (t))), (4, .int (I (g))), (5, .int (I (rf))), (6, .int (I (q)))] [.int (I (s_cu σ (4 * q + 3))), .ref (ρ 0), .int (I (g))]
                            refine tm_iconst hC dX6_addDefect_125 ?_
                            refine tm_callV (b := 0) (n := 0) (rest := [.int (I (g))]) hC (c_M_want (tm_g x) hst w1 ρ 0 sf se σ hM_w1 hw (s_cu σ (4 * q + 3)) (by omega) 2 (by omega) ) k_X6_79 (by rw [hB.2.2.1]; exact ⟨Nat.le_of_ble_eq_true rfl, Nat.le_of_ble_eq_true rfl⟩) rfl (tm_rec2 hC hw1_ρ_0 rfl) rfl (by simp [Value.category]) dX6_addDefect_126 (fun v_126 w_126 hp_126 => ?_)
                            obtain ⟨rfl, rfl, hb_126⟩ := hp_126
                            show tm_V x (tm_H x w1) 0 0 129 [(0, .ref (ρ 0)), (1, .int (I (b))), (2, .int (I (f))), (3, .int (I (t))), (4, .int (I (g))), (5, .int (I (rf))), (6, .int (I (q)))] [.int (I (s_wa σ (4 * (s_cu σ (4 * q + 3)) + 2))), .int (I (g))]
                            refine tm_icmp_le 136 hC dX6_addDefect_129 (by decide) (by omega) (fun c_129 => ?_) (fun c_129 => ?_)
                            · refine tm_iconst hC dX6_addDefect_136 ?_
                              refine tm_istore [(5, .int (I (0))), (0, .ref (ρ 0)), (1, .int (I (b))), (2, .int (I (f))), (3, .int (I (t))), (4, .int (I (g))), (6, .int (I (q)))] hC dX6_addDefect_137 (by rw [hB.2.1]; exact Nat.le_of_ble_eq_true rfl) rfl ?_
                              refine tm_iinc 6 [(6, .int (I (q + 1))), (5, .int (I (0))), (0, .ref (ρ 0)), (1, .int (I (b))), (2, .int (I (f))), (3, .int (I (t))), (4, .int (I (g)))] hC dX6_addDefect_139 rfl (by rw [hB.2.1]; exact Nat.le_of_ble_eq_true rfl) rfl ?_
                              refine tm_goto 72 hC dX6_addDefect_142 (by decide) ?_
                              refine tm_sub (L' := [(0, .ref (ρ 0)), (1, .int (I (b))), (2, .int (I (f))), (3, .int (I (t))), (4, .int (I (g))), (5, .int (I (0))), (6, .int (I (q + 1)))]) [2, 3, 4, 5, 6, 1, 0] rfl ?_
                              exact ih_72  0 (q + 1) (⟨by omega, Or.inr ⟨rfl, hns.1, spoil_no hns.2 (fun z => by omega)⟩⟩) (by omega)
                            · refine tm_iconst hC dX6_addDefect_132 ?_
                              refine tm_goto 137 hC dX6_addDefect_133 (by decide) ?_
                              refine tm_istore [(5, .int (I (1))), (0, .ref (ρ 0)), (1, .int (I (b))), (2, .int (I (f))), (3, .int (I (t))), (4, .int (I (g))), (6, .int (I (q)))] hC dX6_addDefect_137 (by rw [hB.2.1]; exact Nat.le_of_ble_eq_true rfl) rfl ?_
                              refine tm_iinc 6 [(6, .int (I (q + 1))), (5, .int (I (1))), (0, .ref (ρ 0)), (1, .int (I (b))), (2, .int (I (f))), (3, .int (I (t))), (4, .int (I (g)))] hC dX6_addDefect_139 rfl (by rw [hB.2.1]; exact Nat.le_of_ble_eq_true rfl) rfl ?_
                              refine tm_goto 72 hC dX6_addDefect_142 (by decide) ?_
                              refine tm_sub (L' := [(0, .ref (ρ 0)), (1, .int (I (b))), (2, .int (I (f))), (3, .int (I (t))), (4, .int (I (g))), (5, .int (I (1))), (6, .int (I (q + 1)))]) [2, 3, 4, 5, 6, 1, 0] rfl ?_
                              exact ih_72  1 (q + 1) (⟨by omega, Or.inl ⟨rfl, Or.inr ⟨q, by omega, c_93, by omega, by omega, by omega⟩⟩⟩) (by omega)
              refine tm_sub (L' := [(0, .ref (ρ 0)), (1, .int (I (b))), (2, .int (I (f))), (3, .int (I (t))), (4, .int (I (g))), (5, .int (I (0))), (6, .int (I (0)))]) [2, 3, 4, 5, 6, 1, 0] rfl ?_
              exact hL_72 _ 0 0 (⟨by omega, Or.inr ⟨rfl, by omega, fun z => by obtain ⟨q, hq, _⟩ := z; omega⟩⟩) (Nat.lt_succ_self _)
            · refine tm_iconst hC dX6_addDefect_62 ?_
              refine tm_goto 67 hC dX6_addDefect_63 (by decide) ?_
              refine tm_istore [(5, .int (I (1))), (0, .ref (ρ 0)), (1, .int (I (b))), (2, .int (I (f))), (3, .int (I (t))), (4, .int (I (g)))] hC dX6_addDefect_67 (by rw [hB.2.1]; exact Nat.le_of_ble_eq_true rfl) rfl ?_
              refine tm_iconst hC dX6_addDefect_69 ?_
              refine tm_istore [(6, .int (I (0))), (5, .int (I (1))), (0, .ref (ρ 0)), (1, .int (I (b))), (2, .int (I (f))), (3, .int (I (t))), (4, .int (I (g)))] hC dX6_addDefect_70 (by rw [hB.2.1]; exact Nat.le_of_ble_eq_true rfl) rfl ?_
              have hL_72 : ∀ (fu : Nat) (rf : Int) (q : Int), ((0 ≤ q ∧ q ≤ s_nm σ) ∧ ((rf = 1 ∧ (s_nd σ = 24 ∨ spoil σ b f t g (s_nm σ))) ∨ (rf = 0 ∧ s_nd σ ≠ 24 ∧ ¬ spoil σ b f t g q))) → ((s_nm σ - q).toNat) < fu → tm_V x (tm_H x w1) 0 0 72 [(0, .ref (ρ 0)), (1, .int (I (b))), (2, .int (I (f))), (3, .int (I (t))), (4, .int (I (g))), (5, .int (I (rf))), (6, .int (I (q)))] [] := by
                intro fu
                induction fu with
                | zero => intro rf q hinv hm; exact absurd hm (Nat.not_lt_zero _)
                | succ fu ih_72 =>
                  intro rf q hinv_72 hm_72
                  obtain ⟨hq, hrf⟩ := hinv_72
                  have hrf2 : rf = 0 ∨ rf = 1 := by rcases hrf with h | h; exact Or.inr h.1; exact Or.inl h.1
                  refine tm_iload 6 hC dX6_addDefect_72 rfl ?_
                  refine tm_aload_n 0 hC dX6_addDefect_74 rfl rfl ?_
                  refine tm_getf2 hC f_X6_63 hw1_ρ_0 rfl dX6_addDefect_75 ?_
                  refine tm_icmp_ge 145 hC dX6_addDefect_78 (by decide) (by omega) (fun c_78 => ?_) (fun c_78 => ?_)
                  · refine tm_iload 5 hC dX6_addDefect_145 rfl ?_
                    refine tm_if_eq 156 hC dX6_addDefect_147 (by decide) (by omega) (fun c_147 => ?_) (fun c_147 => ?_)
                    · refine tm_aload_n 0 hC dX6_addDefect_156 rfl rfl ?_
                      refine tm_getf2 hC f_X6_13 hw1_ρ_0 rfl dX6_addDefect_157 ?_
                      refine tm_iconst hC dX6_addDefect_160 ?_
                      refine tm_aload_n 0 hC dX6_addDefect_161 rfl rfl ?_
                      refine tm_getf2 hC f_X6_60 hw1_ρ_0 rfl dX6_addDefect_162 ?_
                      refine tm_imul hC dX6_addDefect_165 ?_
                      refine tm_iload_n 1 hC dX6_addDefect_166 rfl rfl ?_
                      refine tm_iast2 hC hw1_ρ_2 (by omega) dX6_addDefect_167 ?_
                      obtain ⟨w13, hw14⟩ : ∃ z, z = tm_u2 w1 (ρ 2) (tm_ai (tm_T x) 96 (tm_ui (s_fl σ) (4 * (s_nd σ)) (b))) := ⟨_, rfl⟩
                      show tm_V x (tm_H x (tm_u2 w1 (ρ 2) (tm_ai (tm_T x) 96 (tm_ui (s_fl σ) (4 * (s_nd σ)) (b))))) 0 0 168 [(0, .ref (ρ 0)), (1, .int (I (b))), (2, .int (I (f))), (3, .int (I (t))), (4, .int (I (g))), (5, .int (I (rf))), (6, .int (I (q)))] []
                      rw [← hw14]
                      have hw13_ρ_2 : w13 (ρ 2) = some (.inl (tm_ai (tm_T x) 96 (tm_ui (s_fl σ) (4 * (s_nd σ)) (b)))) := by rw [hw14]; first | done | exact tm_u2_s
                      have hw13_ρ_0 := (show w13 (ρ 0) = _ by rw [hw14]; exact tm_u2_n (fun z => absurd (hw1_ρ_2.symm.trans (z ▸ hw1_ρ_0)) (by intro q; cases q))).trans hw1_ρ_0
                      have hw13_ρ_1 := (show w13 (ρ 1) = _ by rw [hw14]; exact tm_u2_n (hmd 1 2 (by decide) (by decide) (by decide))).trans hw1_ρ_1
                      have hw13_ρ_3 := (show w13 (ρ 3) = _ by rw [hw14]; exact tm_u2_n (hmd 3 2 (by decide) (by decide) (by decide))).trans hw1_ρ_3
                      have hw13_ρ_4 := (show w13 (ρ 4) = _ by rw [hw14]; exact tm_u2_n (hmd 4 2 (by decide) (by decide) (by decide))).trans hw1_ρ_4
                      have hw13_ρ_5 := (show w13 (ρ 5) = _ by rw [hw14]; exact tm_u2_n (hmd 5 2 (by decide) (by decide) (by decide))).trans hw1_ρ_5
                      have hw13_ρ_6 := (show w13 (ρ 6) = _ by rw [hw14]; exact tm_u2_n (hmd 6 2 (by decide) (by decide) (by decide))).trans hw1_ρ_6
                      refine tm_aload_n 0 hC dX6_addDefect_168 rfl rfl ?_
                      refine tm_getf2 hC f_X6_13 hw13_ρ_0 rfl dX6_addDefect_169 ?_
                      refine tm_iconst hC dX6_addDefect_172 ?_
                      refine tm_aload_n 0 hC dX6_addDefect_173 rfl rfl ?_
                      refine tm_getf2 hC f_X6_60 hw13_ρ_0 rfl dX6_addDefect_174 ?_
                      refine tm_imul hC dX6_addDefect_177 ?_
                      refine tm_iconst hC dX6_addDefect_178 ?_
                      refine tm_iadd hC dX6_addDefect_179 ?_
                      refine tm_iload_n 2 hC dX6_addDefect_180 rfl rfl ?_
                      refine tm_iast2 hC hw13_ρ_2 (by omega) dX6_addDefect_181 ?_
                      obtain ⟨w15, hw16⟩ : ∃ z, z = tm_u2 w13 (ρ 2) (tm_ai (tm_T x) 96 (tm_ui (tm_ui (s_fl σ) (4 * (s_nd σ)) (b)) ((4 * (s_nd σ)) + 1) (f))) := ⟨_, rfl⟩
                      show tm_V x (tm_H x (tm_u2 w13 (ρ 2) (tm_ai (tm_T x) 96 (tm_ui (tm_ui (s_fl σ) (4 * (s_nd σ)) (b)) ((4 * (s_nd σ)) + 1) (f))))) 0 0 182 [(0, .ref (ρ 0)), (1, .int (I (b))), (2, .int (I (f))), (3, .int (I (t))), (4, .int (I (g))), (5, .int (I (rf))), (6, .int (I (q)))] []
                      rw [← hw16]
                      have hw15_ρ_2 : w15 (ρ 2) = some (.inl (tm_ai (tm_T x) 96 (tm_ui (tm_ui (s_fl σ) (4 * (s_nd σ)) (b)) ((4 * (s_nd σ)) + 1) (f)))) := by rw [hw16]; first | done | exact tm_u2_s
                      have hw15_ρ_0 := (show w15 (ρ 0) = _ by rw [hw16]; exact tm_u2_n (fun z => absurd (hw13_ρ_2.symm.trans (z ▸ hw13_ρ_0)) (by intro q; cases q))).trans hw13_ρ_0
                      have hw15_ρ_1 := (show w15 (ρ 1) = _ by rw [hw16]; exact tm_u2_n (hmd 1 2 (by decide) (by decide) (by decide))).trans hw13_ρ_1
                      have hw15_ρ_3 := (show w15 (ρ 3) = _ by rw [hw16]; exact tm_u2_n (hmd 3 2 (by decide) (by decide) (by decide))).trans hw13_ρ_3
                      have hw15_ρ_4 := (show w15 (ρ 4) = _ by rw [hw16]; exact tm_u2_n (hmd 4 2 (by decide) (by decide) (by decide))).trans hw13_ρ_4
                      have hw15_ρ_5 := (show w15 (ρ 5) = _ by rw [hw16]; exact tm_u2_n (hmd 5 2 (by decide) (by decide) (by decide))).trans hw13_ρ_5
                      have hw15_ρ_6 := (show w15 (ρ 6) = _ by rw [hw16]; exact tm_u2_n (hmd 6 2 (by decide) (by decide) (by decide))).trans hw13_ρ_6
                      refine tm_aload_n 0 hC dX6_addDefect_182 rfl rfl ?_
                      refine tm_getf2 hC f_X6_13 hw15_ρ_0 rfl dX6_addDefect_183 ?_
                      refine tm_iconst hC dX6_addDefect_186 ?_
                      refine tm_aload_n 0 hC dX6_addDefect_187 rfl rfl ?_
                      refine tm_getf2 hC f_X6_60 hw15_ρ_0 rfl dX6_addDefect_188 ?_
                      refine tm_imul hC dX6_addDefect_191 ?_
                      refine tm_iconst hC dX6_addDefect_192 ?_
                      refine tm_iadd hC dX6_addDefect_193 ?_
                      refine tm_iload_n 3 hC dX6_addDefect_194 rfl rfl ?_
                      refine tm_iast2 hC hw15_ρ_2 (by omega) dX6_addDefect_195 ?_
                      obtain ⟨w17, hw18⟩ : ∃ z, z = tm_u2 w15 (ρ 2) (tm_ai (tm_T x) 96 (tm_ui (tm_ui (tm_ui (s_fl σ) (4 * (s_nd σ)) (b)) ((4 * (s_nd σ)) + 1) (f)) ((4 * (s_nd σ)) + 2) (t))) := ⟨_, rfl⟩
                      show tm_V x (tm_H x (tm_u2 w15 (ρ 2) (tm_ai (tm_T x) 96 (tm_ui (tm_ui (tm_ui (s_fl σ) (4 * (s_nd σ)) (b)) ((4 * (s_nd σ)) + 1) (f)) ((4 * (s_nd σ)) + 2) (t))))) 0 0 196 [(0, .ref (ρ 0)), (1, .int (I (b))), (2, .int (I (f))), (3, .int (I (t))), (4, .int (I (g))), (5, .int (I (rf))), (6, .int (I (q)))] []
                      rw [← hw18]
                      have hw17_ρ_2 : w17 (ρ 2) = some (.inl (tm_ai (tm_T x) 96 (tm_ui (tm_ui (tm_ui (s_fl σ) (4 * (s_nd σ)) (b)) ((4 * (s_nd σ)) + 1) (f)) ((4 * (s_nd σ)) + 2) (t)))) := by rw [hw18]; first | done | exact tm_u2_s
                      have hw17_ρ_0 := (show w17 (ρ 0) = _ by rw [hw18]; exact tm_u2_n (fun z => absurd (hw15_ρ_2.symm.trans (z ▸ hw15_ρ_0)) (by intro q; cases q))).trans hw15_ρ_0
                      have hw17_ρ_1 := (show w17 (ρ 1) = _ by rw [hw18]; exact tm_u2_n (hmd 1 2 (by decide) (by decide) (by decide))).trans hw15_ρ_1
                      have hw17_ρ_3 := (show w17 (ρ 3) = _ by rw [hw18]; exact tm_u2_n (hmd 3 2 (by decide) (by decide) (by decide))).trans hw15_ρ_3
                      have hw17_ρ_4 := (show w17 (ρ 4) = _ by rw [hw18]; exact tm_u2_n (hmd 4 2 (by decide) (by decide) (by decide))).trans hw15_ρ_4
                      have hw17_ρ_5 := (show w17 (ρ 5) = _ by rw [hw18]; exact tm_u2_n (hmd 5 2 (by decide) (by decide) (by decide))).trans hw15_ρ_5
                      have hw17_ρ_6 := (show w17 (ρ 6) = _ by rw [hw18]; exact tm_u2_n (hmd 6 2 (by decide) (by decide) (by decide))).trans hw15_ρ_6
                      refine tm_aload_n 0 hC dX6_addDefect_196 rfl rfl ?_
                      refine tm_getf2 hC f_X6_13 hw17_ρ_0 rfl dX6_addDefect_197 ?_
                      refine tm_iconst hC dX6_addDefect_200 ?_
                      refine tm_aload_n 0 hC dX6_addDefect_201 rfl rfl ?_
                      refine tm_getf2 hC f_X6_60 hw17_ρ_0 rfl dX6_addDefect_202 ?_
                      refine tm_imul hC dX6_addDefect_205 ?_
                      refine tm_iconst hC dX6_addDefect_206 ?_
                      refine tm_iadd hC dX6_addDefect_207 ?_
                      refine tm_iload 4 hC dX6_addDefect_208 rfl ?_
                      refine tm_iast2 hC hw17_ρ_2 (by omega) dX6_addDefect_210 ?_
                      obtain ⟨w19, hw20⟩ : ∃ z, z = tm_u2 w17 (ρ 2) (tm_ai (tm_T x) 96 (tm_ui (tm_ui (tm_ui (tm_ui (s_fl σ) (4 * (s_nd σ)) (b)) ((4 * (s_nd σ)) + 1) (f)) ((4 * (s_nd σ)) + 2) (t)) ((4 * (s_nd σ)) + 3) (g))) := ⟨_, rfl⟩
                      show tm_V x (tm_H x (tm_u2 w17 (ρ 2) (tm_ai (tm_T x) 96 (tm_ui (tm_ui (tm_ui (tm_ui (s_fl σ) (4 * (s_nd σ)) (b)) ((4 * (s_nd σ)) + 1) (f)) ((4 * (s_nd σ)) + 2) (t)) ((4 * (s_nd σ)) + 3) (g))))) 0 0 211 [(0, .ref (ρ 0)), (1, .int (I (b))), (2, .int (I (f))), (3, .int (I (t))), (4, .int (I (g))), (5, .int (I (rf))), (6, .int (I (q)))] []
                      rw [← hw20]
                      have hw19_ρ_2 : w19 (ρ 2) = some (.inl (tm_ai (tm_T x) 96 (tm_ui (tm_ui (tm_ui (tm_ui (s_fl σ) (4 * (s_nd σ)) (b)) ((4 * (s_nd σ)) + 1) (f)) ((4 * (s_nd σ)) + 2) (t)) ((4 * (s_nd σ)) + 3) (g)))) := by rw [hw20]; first | done | exact tm_u2_s
                      have hw19_ρ_0 := (show w19 (ρ 0) = _ by rw [hw20]; exact tm_u2_n (fun z => absurd (hw17_ρ_2.symm.trans (z ▸ hw17_ρ_0)) (by intro q; cases q))).trans hw17_ρ_0
                      have hw19_ρ_1 := (show w19 (ρ 1) = _ by rw [hw20]; exact tm_u2_n (hmd 1 2 (by decide) (by decide) (by decide))).trans hw17_ρ_1
                      have hw19_ρ_3 := (show w19 (ρ 3) = _ by rw [hw20]; exact tm_u2_n (hmd 3 2 (by decide) (by decide) (by decide))).trans hw17_ρ_3
                      have hw19_ρ_4 := (show w19 (ρ 4) = _ by rw [hw20]; exact tm_u2_n (hmd 4 2 (by decide) (by decide) (by decide))).trans hw17_ρ_4
                      have hw19_ρ_5 := (show w19 (ρ 5) = _ by rw [hw20]; exact tm_u2_n (hmd 5 2 (by decide) (by decide) (by decide))).trans hw17_ρ_5
                      have hw19_ρ_6 := (show w19 (ρ 6) = _ by rw [hw20]; exact tm_u2_n (hmd 6 2 (by decide) (by decide) (by decide))).trans hw17_ρ_6
                      refine tm_aload_n 0 hC dX6_addDefect_211 rfl rfl ?_
                      refine tm_dup hC dX6_addDefect_212 rfl ?_
                      refine tm_getf2 hC f_X6_60 hw19_ρ_0 rfl dX6_addDefect_213 ?_
                      refine tm_iconst hC dX6_addDefect_216 ?_
                      refine tm_iadd hC dX6_addDefect_217 ?_
                      refine tm_putf2 hC f_X6_60 hw19_ρ_0 (tt_7_3 _) (Nat.le_of_ble_eq_true rfl) dX6_addDefect_218 ?_
                      obtain ⟨w21, hw22⟩ : ∃ z, z = tm_u2 w19 (ρ 0) (.inr (7, [.int (I (0)), .int (I (s_nb σ)), .ref (ρ 1), .int (I ((s_nd σ) + 1)), .ref (ρ 2), .int (I (s_np σ)), .ref (ρ 3), .ref (ρ 4), .int (I (s_sw σ)), .int (I (s_jt σ)), .int (I (s_nm σ)), .ref (ρ 5), .ref (ρ 6), .int (I (sf)), .int (I (se))])) := ⟨_, rfl⟩
                      show tm_V x (tm_H x (tm_u2 w19 (ρ 0) (.inr (7, [.int (I (0)), .int (I (s_nb σ)), .ref (ρ 1), .int (I ((s_nd σ) + 1)), .ref (ρ 2), .int (I (s_np σ)), .ref (ρ 3), .ref (ρ 4), .int (I (s_sw σ)), .int (I (s_jt σ)), .int (I (s_nm σ)), .ref (ρ 5), .ref (ρ 6), .int (I (sf)), .int (I (se))])))) 0 0 221 [(0, .ref (ρ 0)), (1, .int (I (b))), (2, .int (I (f))), (3, .int (I (t))), (4, .int (I (g))), (5, .int (I (rf))), (6, .int (I (q)))] []
                      rw [← hw22]
                      have hw21_ρ_0 : w21 (ρ 0) = some (.inl (.inr (7, [.int (I (0)), .int (I (s_nb σ)), .ref (ρ 1), .int (I ((s_nd σ) + 1)), .ref (ρ 2), .int (I (s_np σ)), .ref (ρ 3), .ref (ρ 4), .int (I (s_sw σ)), .int (I (s_jt σ)), .int (I (s_nm σ)), .ref (ρ 5), .ref (ρ 6), .int (I (sf)), .int (I (se))]))) := by rw [hw22]; first | done | exact tm_u2_s
                      have hw21_ρ_1 := (show w21 (ρ 1) = _ by rw [hw22]; exact tm_u2_n (fun z => absurd (hw19_ρ_0.symm.trans (z ▸ hw19_ρ_1)) (by intro q; cases q))).trans hw19_ρ_1
                      have hw21_ρ_2 := (show w21 (ρ 2) = _ by rw [hw22]; exact tm_u2_n (fun z => absurd (hw19_ρ_0.symm.trans (z ▸ hw19_ρ_2)) (by intro q; cases q))).trans hw19_ρ_2
                      have hw21_ρ_3 := (show w21 (ρ 3) = _ by rw [hw22]; exact tm_u2_n (fun z => absurd (hw19_ρ_0.symm.trans (z ▸ hw19_ρ_3)) (by intro q; cases q))).trans hw19_ρ_3
                      have hw21_ρ_4 := (show w21 (ρ 4) = _ by rw [hw22]; exact tm_u2_n (fun z => absurd (hw19_ρ_0.symm.trans (z ▸ hw19_ρ_4)) (by intro q; cases q))).trans hw19_ρ_4
                      have hw21_ρ_5 := (show w21 (ρ 5) = _ by rw [hw22]; exact tm_u2_n (fun z => absurd (hw19_ρ_0.symm.trans (z ▸ hw19_ρ_5)) (by intro q; cases q))).trans hw19_ρ_5
                      have hw21_ρ_6 := (show w21 (ρ 6) = _ by rw [hw22]; exact tm_u2_n (fun z => absurd (hw19_ρ_0.symm.trans (z ▸ hw19_ρ_6)) (by intro q; cases q))).trans hw19_ρ_6
                      refine tm_aload_n 0 hC dX6_addDefect_221 rfl rfl ?_
                      refine tm_getf2 hC f_X6_60 hw21_ρ_0 rfl dX6_addDefect_222 ?_
                      exact tm_iret hC hR dX6_addDefect_225 (⟨0, sf, se, ((s_nd σ) + 1), (addD σ b f t g), ⟨hw21_ρ_0, hw21_ρ_1, hw21_ρ_2, hw21_ρ_3, hw21_ρ_4, hw21_ρ_5, hw21_ρ_6, hmd⟩, rfl, Or.inr (Or.inr (Or.inr ⟨by omega, by rw [okD_i]; omega, by rcases hrf with h | h; omega; exact h.2.1, by rcases hrf with h | h; omega; exact spoil_at (by omega) (by omega) h.2.2, rfl, rfl, rfl⟩))⟩)
                    · refine tm_aload_n 0 hC dX6_addDefect_150 rfl rfl ?_
                      refine tm_iconst hC dX6_addDefect_151 ?_
                      refine tm_callV (b := 0) (n := 0) (rest := []) hC (c_M_fail (tm_g x) hst w1 ρ 0 sf se σ hM_w1 hw 3) k_X6_49 (by rw [hB.2.2.1]; exact ⟨Nat.le_of_ble_eq_true rfl, Nat.le_of_ble_eq_true rfl⟩) rfl (tm_rec2 hC hw1_ρ_0 rfl) rfl (by decide) dX6_addDefect_152 (fun v_152 w_152 hp_152 => ?_)
                      obtain ⟨hf_152, rfl⟩ := hp_152
                      obtain ⟨hm0_152, hm1_152, hm2_152, hm3_152, hm4_152, hm5_152, hm6_152, -⟩ := id hf_152
                      show tm_V x (tm_H x w_152) 0 0 155 [(0, .ref (ρ 0)), (1, .int (I (b))), (2, .int (I (f))), (3, .int (I (t))), (4, .int (I (g))), (5, .int (I (rf))), (6, .int (I (q)))] [.int (I (0))]
                      exact tm_iret hC hR dX6_addDefect_155 (⟨3, sf, se, 0, σ, hf_152, rfl, Or.inr (Or.inr (Or.inl ⟨by omega, by rw [okD_i]; omega, by rcases hrf with h | h; exact h.2; omega, rfl, rfl⟩))⟩)
                  · have hk9 := wf_k hw q (by omega)
                    refine tm_iload 5 hC dX6_addDefect_81 rfl ?_
                    refine tm_if_ne 132 hC dX6_addDefect_83 (by decide) (by omega) (fun c_83 => ?_) (fun c_83 => ?_)
                    · refine tm_iconst hC dX6_addDefect_132 ?_
                      refine tm_goto 137 hC dX6_addDefect_133 (by decide) ?_
                      refine tm_istore [(5, .int (I (1))), (0, .ref (ρ 0)), (1, .int (I (b))), (2, .int (I (f))), (3, .int (I (t))), (4, .int (I (g))), (6, .int (I (q)))] hC dX6_addDefect_137 (by rw [hB.2.1]; exact Nat.le_of_ble_eq_true rfl) rfl ?_
                      refine tm_iinc 6 [(6, .int (I (q + 1))), (5, .int (I (1))), (0, .ref (ρ 0)), (1, .int (I (b))), (2, .int (I (f))), (3, .int (I (t))), (4, .int (I (g)))] hC dX6_addDefect_139 rfl (by rw [hB.2.1]; exact Nat.le_of_ble_eq_true rfl) rfl ?_
                      refine tm_goto 72 hC dX6_addDefect_142 (by decide) ?_
                      refine tm_sub (L' := [(0, .ref (ρ 0)), (1, .int (I (b))), (2, .int (I (f))), (3, .int (I (t))), (4, .int (I (g))), (5, .int (I (1))), (6, .int (I (q + 1)))]) [2, 3, 4, 5, 6, 1, 0] rfl ?_
                      exact ih_72  1 (q + 1) (⟨by omega, Or.inl ⟨rfl, by rcases hrf with h | h; exact h.2; omega⟩⟩) (by omega)
                    · have hns : s_nd σ ≠ 24 ∧ ¬ spoil σ b f t g q := by rcases hrf with h | h; omega; exact h.2
                      refine tm_aload_n 0 hC dX6_addDefect_86 rfl rfl ?_
                      refine tm_iload 6 hC dX6_addDefect_87 rfl ?_
                      refine tm_iload_n 1 hC dX6_addDefect_89 rfl rfl ?_
                      refine tm_callV (b := 0) (n := 0) (rest := []) hC (c_M_isOn (tm_g x) hst w1 ρ 0 sf se σ hM_w1 hw q (by omega) b (by omega) ) k_X6_66 (by rw [hB.2.2.1]; exact ⟨Nat.le_of_ble_eq_true rfl, Nat.le_of_ble_eq_true rfl⟩) rfl (tm_rec2 hC hw1_ρ_0 rfl) rfl (by decide) dX6_addDefect_90 (fun v_90 w_90 hp_90 => ?_)
                      obtain ⟨rfl, rfl, hb_90⟩ := hp_90
                      show tm_V x (tm_H x w1) 0 0 93 [(0, .ref (ρ 0)), (1, .int (I (b))), (2, .int (I (f))), (3, .int (I (t))), (4, .int (I (g))), (5, .int (I (rf))), (6, .int (I (q)))] [.int (I (bi (s_cu σ (4 * q) = b)))]
                      refine tm_ifb_eq 136 hC dX6_addDefect_93 (by decide) (fun c_93 => ?_) (fun c_93 => ?_)
                      · refine tm_iconst hC dX6_addDefect_136 ?_
                        refine tm_istore [(5, .int (I (0))), (0, .ref (ρ 0)), (1, .int (I (b))), (2, .int (I (f))), (3, .int (I (t))), (4, .int (I (g))), (6, .int (I (q)))] hC dX6_addDefect_137 (by rw [hB.2.1]; exact Nat.le_of_ble_eq_true rfl) rfl ?_
                        refine tm_iinc 6 [(6, .int (I (q + 1))), (5, .int (I (0))), (0, .ref (ρ 0)), (1, .int (I (b))), (2, .int (I (f))), (3, .int (I (t))), (4, .int (I (g)))] hC dX6_addDefect_139 rfl (by rw [hB.2.1]; exact Nat.le_of_ble_eq_true rfl) rfl ?_
                        refine tm_goto 72 hC dX6_addDefect_142 (by decide) ?_
                        refine tm_sub (L' := [(0, .ref (ρ 0)), (1, .int (I (b))), (2, .int (I (f))), (3, .int (I (t))), (4, .int (I (g))), (5, .int (I (0))), (6, .int (I (q + 1)))]) [2, 3, 4, 5, 6, 1, 0] rfl ?_
                        exact ih_72  0 (q + 1) (⟨by omega, Or.inr ⟨rfl, hns.1, spoil_no hns.2 (fun z => c_93 z.1)⟩⟩) (by omega)
                      · refine tm_aload_n 0 hC dX6_addDefect_96 rfl rfl ?_
                        refine tm_iload 6 hC dX6_addDefect_97 rfl ?_
                        refine tm_callV (b := 0) (n := 0) (rest := []) hC (c_M_from (tm_g x) hst w1 ρ 0 sf se σ hM_w1 hw q (by omega) ) k_X6_70 (by rw [hB.2.2.1]; exact ⟨Nat.le_of_ble_eq_true rfl, Nat.le_of_ble_eq_true rfl⟩) rfl (tm_rec2 hC hw1_ρ_0 rfl) rfl (by decide) dX6_addDefect_99 (fun v_99 w_99 hp_99 => ?_)
                        obtain ⟨rfl, rfl, hb_99⟩ := hp_99
                        show tm_V x (tm_H x w1) 0 0 102 [(0, .ref (ρ 0)), (1, .int (I (b))), (2, .int (I (f))), (3, .int (I (t))), (4, .int (I (g))), (5, .int (I (rf))), (6, .int (I (q)))] [.int (I (s_cu σ (4 * q + 1)))]
                        refine tm_iload_n 3 hC dX6_addDefect_102 rfl rfl ?_
                        refine tm_icmp_ge 136 hC dX6_addDefect_103 (by decide) (by omega) (fun c_103 => ?_) (fun c_103 => ?_)
                        · refine tm_iconst hC dX6_addDefect_136 ?_
                          refine tm_istore [(5, .int (I (0))), (0, .ref (ρ 0)), (1, .int (I (b))), (2, .int (I (f))), (3, .int (I (t))), (4, .int (I (g))), (6, .int (I (q)))] hC dX6_addDefect_137 (by rw [hB.2.1]; exact Nat.le_of_ble_eq_true rfl) rfl ?_
                          refine tm_iinc 6 [(6, .int (I (q + 1))), (5, .int (I (0))), (0, .ref (ρ 0)), (1, .int (I (b))), (2, .int (I (f))), (3, .int (I (t))), (4, .int (I (g)))] hC dX6_addDefect_139 rfl (by rw [hB.2.1]; exact Nat.le_of_ble_eq_true rfl) rfl ?_
                          refine tm_goto 72 hC dX6_addDefect_142 (by decide) ?_
                          refine tm_sub (L' := [(0, .ref (ρ 0)), (1, .int (I (b))), (2, .int (I (f))), (3, .int (I (t))), (4, .int (I (g))), (5, .int (I (0))), (6, .int (I (q + 1)))]) [2, 3, 4, 5, 6, 1, 0] rfl ?_
                          exact ih_72  0 (q + 1) (⟨by omega, Or.inr ⟨rfl, hns.1, spoil_no hns.2 (fun z => by omega)⟩⟩) (by omega)
                        · refine tm_iload_n 2 hC dX6_addDefect_106 rfl rfl ?_
                          refine tm_aload_n 0 hC dX6_addDefect_107 rfl rfl ?_
                          refine tm_iload 6 hC dX6_addDefect_108 rfl ?_
                          refine tm_callV (b := 0) (n := 0) (rest := [.int (I (f))]) hC (c_M_to (tm_g x) hst w1 ρ 0 sf se σ hM_w1 hw q (by omega) ) k_X6_73 (by rw [hB.2.2.1]; exact ⟨Nat.le_of_ble_eq_true rfl, Nat.le_of_ble_eq_true rfl⟩) rfl (tm_rec2 hC hw1_ρ_0 rfl) rfl (by simp [Value.category]) dX6_addDefect_110 (fun v_110 w_110 hp_110 => ?_)
                          obtain ⟨rfl, rfl, hb_110⟩ := hp_110
                          show tm_V x (tm_H x w1) 0 0 113 [(0, .ref (ρ 0)), (1, .int (I (b))), (2, .int (I (f))), (3, .int (I (t))), (4, .int (I (g))), (5, .int (I (rf))), (6, .int (I (q)))] [.int (I (s_cu σ (4 * q + 2))), .int (I (f))]
                          refine tm_icmp_ge 136 hC dX6_addDefect_113 (by decide) (by omega) (fun c_113 => ?_) (fun c_113 => ?_)
                          · refine tm_iconst hC dX6_addDefect_136 ?_
                            refine tm_istore [(5, .int (I (0))), (0, .ref (ρ 0)), (1, .int (I (b))), (2, .int (I (f))), (3, .int (I (t))), (4, .int (I (g))), (6, .int (I (q)))] hC dX6_addDefect_137 (by rw [hB.2.1]; exact Nat.le_of_ble_eq_true rfl) rfl ?_
                            refine tm_iinc 6 [(6, .int (I (q + 1))), (5, .int (I (0))), (0, .ref (ρ 0)), (1, .int (I (b))), (2, .int (I (f))), (3, .int (I (t))), (4, .int (I (g)))] hC dX6_addDefect_139 rfl (by rw [hB.2.1]; exact Nat.le_of_ble_eq_true rfl) rfl ?_
                            refine tm_goto 72 hC dX6_addDefect_142 (by decide) ?_
                            refine tm_sub (L' := [(0, .ref (ρ 0)), (1, .int (I (b))), (2, .int (I (f))), (3, .int (I (t))), (4, .int (I (g))), (5, .int (I (0))), (6, .int (I (q + 1)))]) [2, 3, 4, 5, 6, 1, 0] rfl ?_
                            exact ih_72  0 (q + 1) (⟨by omega, Or.inr ⟨rfl, hns.1, spoil_no hns.2 (fun z => by omega)⟩⟩) (by omega)
                          · refine tm_iload 4 hC dX6_addDefect_116 rfl ?_
                            refine tm_aload_n 0 hC dX6_addDefect_118 rfl rfl ?_
                            refine tm_aload_n 0 hC dX6_addDefect_119 rfl rfl ?_
                            refine tm_iload 6 hC dX6_addDefect_120 rfl ?_
                            refine tm_callV (b := 0) (n := 0) (rest := [.ref (ρ 0), .int (I (g))]) hC (c_M_partOf (tm_g x) hst w1 ρ 0 sf se σ hM_w1 hw q (by omega) ) k_X6_76 (by rw [hB.2.2.1]; exact ⟨Nat.le_of_ble_eq_true rfl, Nat.le_of_ble_eq_true rfl⟩) rfl (tm_rec2 hC hw1_ρ_0 rfl) rfl (by simp [Value.category]) dX6_addDefect_122 (fun v_122 w_122 hp_122 => ?_)
                            obtain ⟨rfl, rfl, hb_122⟩ := hp_122
                            show tm_V x (tm_H x w1) 0 0 125 [(0, .ref (ρ 0)), (1, .int (I (b))), (2, .int (I (f))), (3, .int (I (t))), (4, .int (I (g))), (5, .int (I (rf))), (6, .int (I (q)))] [.int (I (s_cu σ (4 * q + 3))), .ref (ρ 0), .int (I (g))]
                            refine tm_iconst hC dX6_addDefect_125 ?_
                            refine tm_callV (b := 0) (n := 0) (rest := [.int (I (g))]) hC (c_M_want (tm_g x) hst w1 ρ 0 sf se σ hM_w1 hw (s_cu σ (4 * q + 3)) (by omega) 2 (by omega) ) k_X6_79 (by rw [hB.2.2.1]; exact ⟨Nat.le_of_ble_eq_true rfl, Nat.le_of_ble_eq_true rfl⟩) rfl (tm_rec2 hC hw1_ρ_0 rfl) rfl (by simp [Value.category]) dX6_addDefect_126 (fun v_126 w_126 hp_126 => ?_)
                            obtain ⟨rfl, rfl, hb_126⟩ := hp_126
                            show tm_V x (tm_H x w1) 0 0 129 [(0, .ref (ρ 0)), (1, .int (I (b))), (2, .int (I (f))), (3, .int (I (t))), (4, .int (I (g))), (5, .int (I (rf))), (6, .int (I (q)))] [.int (I (s_wa σ (4 * (s_cu σ (4 * q + 3)) + 2))), .int (I (g))]
                            refine tm_icmp_le 136 hC dX6_addDefect_129 (by decide) (by omega) (fun c_129 => ?_) (fun c_129 => ?_)
                            · refine tm_iconst hC dX6_addDefect_136 ?_
                              refine tm_istore [(5, .int (I (0))), (0, .ref (ρ 0)), (1, .int (I (b))), (2, .int (I (f))), (3, .int (I (t))), (4, .int (I (g))), (6, .int (I (q)))] hC dX6_addDefect_137 (by rw [hB.2.1]; exact Nat.le_of_ble_eq_true rfl) rfl ?_
                              refine tm_iinc 6 [(6, .int (I (q + 1))), (5, .int (I (0))), (0, .ref (ρ 0)), (1, .int (I (b))), (2, .int (I (f))), (3, .int (I (t))), (4, .int (I (g)))] hC dX6_addDefect_139 rfl (by rw [hB.2.1]; exact Nat.le_of_ble_eq_true rfl) rfl ?_
                              refine tm_goto 72 hC dX6_addDefect_142 (by decide) ?_
                              refine tm_sub (L' := [(0, .ref (ρ 0)), (1, .int (I (b))), (2, .int (I (f))), (3, .int (I (t))), (4, .int (I (g))), (5, .int (I (0))), (6, .int (I (q + 1)))]) [2, 3, 4, 5, 6, 1, 0] rfl ?_
                              exact ih_72  0 (q + 1) (⟨by omega, Or.inr ⟨rfl, hns.1, spoil_no hns.2 (fun z => by omega)⟩⟩) (by omega)
                            · refine tm_iconst hC dX6_addDefect_132 ?_
                              refine tm_goto 137 hC dX6_addDefect_133 (by decide) ?_
                              refine tm_istore [(5, .int (I (1))), (0, .ref (ρ 0)), (1, .int (I (b))), (2, .int (I (f))), (3, .int (I (t))), (4, .int (I (g))), (6, .int (I (q)))] hC dX6_addDefect_137 (by rw [hB.2.1]; exact Nat.le_of_ble_eq_true rfl) rfl ?_
                              refine tm_iinc 6 [(6, .int (I (q + 1))), (5, .int (I (1))), (0, .ref (ρ 0)), (1, .int (I (b))), (2, .int (I (f))), (3, .int (I (t))), (4, .int (I (g)))] hC dX6_addDefect_139 rfl (by rw [hB.2.1]; exact Nat.le_of_ble_eq_true rfl) rfl ?_
                              refine tm_goto 72 hC dX6_addDefect_142 (by decide) ?_
                              refine tm_sub (L' := [(0, .ref (ρ 0)), (1, .int (I (b))), (2, .int (I (f))), (3, .int (I (t))), (4, .int (I (g))), (5, .int (I (1))), (6, .int (I (q + 1)))]) [2, 3, 4, 5, 6, 1, 0] rfl ?_
                              exact ih_72  1 (q + 1) (⟨by omega, Or.inl ⟨rfl, Or.inr ⟨q, by omega, c_93, by omega, by omega, by omega⟩⟩⟩) (by omega)
              refine tm_sub (L' := [(0, .ref (ρ 0)), (1, .int (I (b))), (2, .int (I (f))), (3, .int (I (t))), (4, .int (I (g))), (5, .int (I (1))), (6, .int (I (0)))]) [2, 3, 4, 5, 6, 1, 0] rfl ?_
              exact hL_72 _ 1 0 (⟨by omega, Or.inl ⟨rfl, Or.inl (by omega)⟩⟩) (Nat.lt_succ_self _)
          · refine tm_aload_n 0 hC dX6_addDefect_47 rfl rfl ?_
            refine tm_iconst hC dX6_addDefect_48 ?_
            refine tm_callV (b := 0) (n := 0) (rest := []) hC (c_M_fail (tm_g x) hst w1 ρ 0 sf se σ hM_w1 hw 2) k_X6_49 (by rw [hB.2.2.1]; exact ⟨Nat.le_of_ble_eq_true rfl, Nat.le_of_ble_eq_true rfl⟩) rfl (tm_rec2 hC hw1_ρ_0 rfl) rfl (by decide) dX6_addDefect_49 (fun v_49 w_49 hp_49 => ?_)
            obtain ⟨hf_49, rfl⟩ := hp_49
            obtain ⟨hm0_49, hm1_49, hm2_49, hm3_49, hm4_49, hm5_49, hm6_49, -⟩ := id hf_49
            show tm_V x (tm_H x w_49) 0 0 52 [(0, .ref (ρ 0)), (1, .int (I (b))), (2, .int (I (f))), (3, .int (I (t))), (4, .int (I (g)))] [.int (I (0))]
            exact tm_iret hC hR dX6_addDefect_52 (⟨2, sf, se, 0, σ, hf_49, rfl, Or.inr (Or.inl ⟨by omega, by rw [okD_i]; omega, rfl, rfl⟩)⟩)
  · refine tm_aload_n 0 hC dX6_addDefect_13 rfl rfl ?_
    refine tm_iconst hC dX6_addDefect_14 ?_
    refine tm_callV (b := 0) (n := 0) (rest := []) hC (c_M_fail (tm_g x) hst w1 ρ 0 sf se σ hM_w1 hw 1) k_X6_49 (by rw [hB.2.2.1]; exact ⟨Nat.le_of_ble_eq_true rfl, Nat.le_of_ble_eq_true rfl⟩) rfl (tm_rec2 hC hw1_ρ_0 rfl) rfl (by decide) dX6_addDefect_15 (fun v_15 w_15 hp_15 => ?_)
    obtain ⟨hf_15, rfl⟩ := hp_15
    obtain ⟨hm0_15, hm1_15, hm2_15, hm3_15, hm4_15, hm5_15, hm6_15, -⟩ := id hf_15
    show tm_V x (tm_H x w_15) 0 0 18 [(0, .ref (ρ 0)), (1, .int (I (b))), (2, .int (I (f))), (3, .int (I (t))), (4, .int (I (g)))] [.int (I (0))]
    exact tm_iret hC hR dX6_addDefect_18 (⟨1, sf, se, 0, σ, hf_15, rfl, Or.inl ⟨by omega, rfl, rfl⟩⟩)
