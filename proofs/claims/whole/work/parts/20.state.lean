/-! The state of the list, as numbers: boards, defects, parts, saw, joint, pieces made; and the rows that hold them. -/
abbrev ST : Type := Int × Int × Int × Int × Int × Int × (Int → Int) × (Int → Int) × (Int → Int) × (Int → Int) × (Int → Int) × (Int → Int)
def mkS (nb nd np sw jt nm : Int) (wo fl wa cu mj aj : Int → Int) : ST := (nb, nd, np, sw, jt, nm, wo, fl, wa, cu, mj, aj)
def s_nb (σ : ST) : Int := σ.1
def s_nd (σ : ST) : Int := σ.2.1
def s_np (σ : ST) : Int := σ.2.2.1
def s_sw (σ : ST) : Int := σ.2.2.2.1
def s_jt (σ : ST) : Int := σ.2.2.2.2.1
def s_nm (σ : ST) : Int := σ.2.2.2.2.2.1
def s_wo (σ : ST) : Int → Int := σ.2.2.2.2.2.2.1
def s_fl (σ : ST) : Int → Int := σ.2.2.2.2.2.2.2.1
def s_wa (σ : ST) : Int → Int := σ.2.2.2.2.2.2.2.2.1
def s_cu (σ : ST) : Int → Int := σ.2.2.2.2.2.2.2.2.2.1
def s_mj (σ : ST) : Int → Int := σ.2.2.2.2.2.2.2.2.2.2.1
def s_aj (σ : ST) : Int → Int := σ.2.2.2.2.2.2.2.2.2.2.2
/-- how often the parts ahead of n are left, in all -/
def tsum (f : Int → Int) : Nat → Int
  | 0 => 0
  | n + 1 => tsum f n + f (4 * (n : Int) + 3)
def s_tl (σ : ST) : Int := tsum (s_wa σ) (s_np σ).toNat
/-- the cuttings, by the number of their first piece: they lie one behind the other from a place on -/
def grp (aj cu : Int → Int) : List Int → Int → Int → Prop
  | [], k, m => k = m
  | j :: r, k, m => j = k ∧ ((aj k = 0 ∧ grp aj cu r (k + 1) m) ∨ (aj k = 1 ∧ aj (k + 1) = 1 ∧ cu (4 * (k + 1) + 3) = cu (4 * k + 3) ∧ grp aj cu r (k + 2) m))
def WF0 (σ : ST) : Prop :=
  (0 ≤ s_nb σ ∧ s_nb σ ≤ 10 ∧ 0 ≤ s_nd σ ∧ s_nd σ ≤ 24 ∧ 0 ≤ s_np σ ∧ s_np σ ≤ 12 ∧ 0 ≤ s_sw σ ∧ s_sw σ ≤ 10 ∧ 0 ≤ s_jt σ ∧ s_jt σ ≤ 50 ∧ 0 ≤ s_nm σ ∧ s_nm σ ≤ 216) ∧
  (∀ b, 0 ≤ b ∧ b < s_nb σ → 100 ≤ s_wo σ (3 * b) ∧ s_wo σ (3 * b) ≤ 3000 ∧ 10 ≤ s_wo σ (3 * b + 1) ∧ s_wo σ (3 * b + 1) ≤ 400 ∧ 0 ≤ s_wo σ (3 * b + 2) ∧ s_wo σ (3 * b + 2) ≤ 3) ∧
  (∀ d, 0 ≤ d ∧ d < s_nd σ → 0 ≤ s_fl σ (4 * d) ∧ s_fl σ (4 * d) < s_nb σ ∧ 0 ≤ s_fl σ (4 * d + 1) ∧ s_fl σ (4 * d + 1) < s_fl σ (4 * d + 2) ∧ s_fl σ (4 * d + 2) ≤ s_wo σ (3 * s_fl σ (4 * d)) ∧ 1 ≤ s_fl σ (4 * d + 3) ∧ s_fl σ (4 * d + 3) ≤ 3) ∧
  (∀ p, 0 ≤ p ∧ p < s_np σ → 20 ≤ s_wa σ (4 * p + 0) ∧ s_wa σ (4 * p + 0) ≤ 3000 ∧ 10 ≤ s_wa σ (4 * p + 1) ∧ s_wa σ (4 * p + 1) ≤ 400 ∧ 0 ≤ s_wa σ (4 * p + 2) ∧ s_wa σ (4 * p + 2) ≤ 3 ∧ 0 ≤ s_wa σ (4 * p + 3) ∧ s_wa σ (4 * p + 3) ≤ 108 ∧ (s_mj σ p = 0 ∨ s_mj σ p = 1)) ∧
  (∀ k, 0 ≤ k ∧ k < s_nm σ → 0 ≤ s_cu σ (4 * k) ∧ s_cu σ (4 * k) < s_nb σ ∧ 0 ≤ s_cu σ (4 * k + 1) ∧ s_cu σ (4 * k + 1) < s_cu σ (4 * k + 2) ∧ s_cu σ (4 * k + 2) ≤ s_wo σ (3 * s_cu σ (4 * k)) ∧ 0 ≤ s_cu σ (4 * k + 3) ∧ s_cu σ (4 * k + 3) < s_np σ ∧ (s_aj σ k = 0 ∨ s_aj σ k = 1)) ∧
  (∀ i j, 0 ≤ i → i < j → j < s_nm σ → s_cu σ (4 * i) = s_cu σ (4 * j) → s_cu σ (4 * i + 2) + s_sw σ ≤ s_cu σ (4 * j + 1) ∨ s_cu σ (4 * j + 2) + s_sw σ ≤ s_cu σ (4 * i + 1))
def WF (σ : ST) : Prop := WF0 σ ∧ (∃ cs, grp (s_aj σ) (s_cu σ) cs 0 (s_nm σ) ∧ s_tl σ + cs.length ≤ 9 * s_np σ)
theorem wf_n {σ : ST} (h : WF0 σ) : 0 ≤ s_nb σ ∧ s_nb σ ≤ 10 ∧ 0 ≤ s_nd σ ∧ s_nd σ ≤ 24 ∧ 0 ≤ s_np σ ∧ s_np σ ≤ 12 ∧ 0 ≤ s_sw σ ∧ s_sw σ ≤ 10 ∧ 0 ≤ s_jt σ ∧ s_jt σ ≤ 50 ∧ 0 ≤ s_nm σ ∧ s_nm σ ≤ 216 := h.1
theorem wf_b {σ : ST} (h : WF0 σ) (b : Int) (hb : 0 ≤ b ∧ b < s_nb σ) : 100 ≤ s_wo σ (3 * b) ∧ s_wo σ (3 * b) ≤ 3000 ∧ 10 ≤ s_wo σ (3 * b + 1) ∧ s_wo σ (3 * b + 1) ≤ 400 ∧ 0 ≤ s_wo σ (3 * b + 2) ∧ s_wo σ (3 * b + 2) ≤ 3 := h.2.1 b hb
theorem wf_d {σ : ST} (h : WF0 σ) (d : Int) (hd : 0 ≤ d ∧ d < s_nd σ) : 0 ≤ s_fl σ (4 * d) ∧ s_fl σ (4 * d) < s_nb σ ∧ 0 ≤ s_fl σ (4 * d + 1) ∧ s_fl σ (4 * d + 1) < s_fl σ (4 * d + 2) ∧ s_fl σ (4 * d + 2) ≤ s_wo σ (3 * s_fl σ (4 * d)) ∧ 1 ≤ s_fl σ (4 * d + 3) ∧ s_fl σ (4 * d + 3) ≤ 3 ∧ s_fl σ (4 * d + 2) ≤ 3000 := by
  have h1 := h.2.2.1 d hd
  have h2 := wf_b h (s_fl σ (4 * d)) ⟨h1.1, h1.2.1⟩
  omega
theorem wf_p {σ : ST} (h : WF0 σ) (p : Int) (hp : 0 ≤ p ∧ p < s_np σ) : 20 ≤ s_wa σ (4 * p + 0) ∧ s_wa σ (4 * p + 0) ≤ 3000 ∧ 10 ≤ s_wa σ (4 * p + 1) ∧ s_wa σ (4 * p + 1) ≤ 400 ∧ 0 ≤ s_wa σ (4 * p + 2) ∧ s_wa σ (4 * p + 2) ≤ 3 ∧ 0 ≤ s_wa σ (4 * p + 3) ∧ s_wa σ (4 * p + 3) ≤ 108 ∧ (s_mj σ p = 0 ∨ s_mj σ p = 1) := h.2.2.2.1 p hp
theorem wf_k {σ : ST} (h : WF0 σ) (k : Int) (hk : 0 ≤ k ∧ k < s_nm σ) : 0 ≤ s_cu σ (4 * k) ∧ s_cu σ (4 * k) < s_nb σ ∧ 0 ≤ s_cu σ (4 * k + 1) ∧ s_cu σ (4 * k + 1) < s_cu σ (4 * k + 2) ∧ s_cu σ (4 * k + 2) ≤ s_wo σ (3 * s_cu σ (4 * k)) ∧ 0 ≤ s_cu σ (4 * k + 3) ∧ s_cu σ (4 * k + 3) < s_np σ ∧ (s_aj σ k = 0 ∨ s_aj σ k = 1) ∧ s_cu σ (4 * k + 2) ≤ 3000 := by
  have h1 := h.2.2.2.2.1 k hk
  have h2 := wf_b h (s_cu σ (4 * k)) ⟨h1.1, h1.2.1⟩
  omega
/-- the check's own list holds the state: the addresses of its object and its rows are ρ 0 .. ρ 6 -/
def RM (T : ClassId × ClassId × ClassId × ClassId) (Λ : tmL) (ρ : Nat → Nat) (th sf se : Int) (σ : ST) : Prop :=
  Λ (ρ 0) = some (.inl (.inr (7, [.int (I th), .int (I (s_nb σ)), .ref (ρ 1), .int (I (s_nd σ)), .ref (ρ 2), .int (I (s_np σ)), .ref (ρ 3), .ref (ρ 4), .int (I (s_sw σ)), .int (I (s_jt σ)), .int (I (s_nm σ)), .ref (ρ 5), .ref (ρ 6), .int (I sf), .int (I se)]))) ∧
  Λ (ρ 1) = some (.inl (tm_ai T 30 (s_wo σ))) ∧ Λ (ρ 2) = some (.inl (tm_ai T 96 (s_fl σ))) ∧ Λ (ρ 3) = some (.inl (tm_ai T 48 (s_wa σ))) ∧ Λ (ρ 4) = some (.inl (tm_az T 12 (s_mj σ))) ∧ Λ (ρ 5) = some (.inl (tm_ai T 864 (s_cu σ))) ∧ Λ (ρ 6) = some (.inl (tm_az T 216 (s_aj σ))) ∧
  ∀ i j, i < 7 → j < 7 → i ≠ j → ρ i ≠ ρ j
theorem wf_s {σ : ST} (h : WF0 σ) (i j : Int) (h0 : 0 ≤ i) (h1 : i < j) (h2 : j < s_nm σ) (h3 : s_cu σ (4 * i) = s_cu σ (4 * j)) : s_cu σ (4 * i + 2) + s_sw σ ≤ s_cu σ (4 * j + 1) ∨ s_cu σ (4 * j + 2) + s_sw σ ≤ s_cu σ (4 * i + 1) := h.2.2.2.2.2 i j h0 h1 h2 h3
theorem grp_le {aj cu : Int → Int} : ∀ (cs : List Int) (k m : Int), grp aj cu cs k m → k + cs.length ≤ m ∧ m ≤ k + 2 * cs.length := by
  intro cs
  induction cs with
  | nil => intro k m h; have : k = m := h; simp; omega
  | cons j r ih =>
    intro k m h
    obtain ⟨-, ⟨-, h⟩ | ⟨-, -, -, h⟩⟩ := h
    · have := ih _ _ h; simp; omega
    · have := ih _ _ h; simp; omega
theorem tsum_nn {f : Int → Int} : ∀ n : Nat, (∀ p : Int, 0 ≤ p → p < n → 0 ≤ f (4 * p + 3)) → 0 ≤ tsum f n ∧ ∀ p : Int, 0 ≤ p → p < n → f (4 * p + 3) ≤ tsum f n := by
  intro n
  induction n with
  | zero => intro h; exact ⟨Int.le_refl _, fun p h1 h2 => by omega⟩
  | succ n ih =>
    intro h
    obtain ⟨h1, h2⟩ := ih (fun p p1 p2 => h p p1 (by omega))
    have h3 := h n (by omega) (by omega)
    refine ⟨by show 0 ≤ tsum f n + f (4 * (n : Int) + 3); omega, fun p p1 p2 => ?_⟩
    show _ ≤ tsum f n + f (4 * (n : Int) + 3)
    by_cases hp : p = n
    · subst hp; omega
    · have := h2 p p1 (by omega); omega
/-- where a part is left, there is room for two pieces more -/
theorem wf_room {σ : ST} (h : WF σ) {p : Int} (hp : 0 ≤ p ∧ p < s_np σ) (hl : 1 ≤ s_wa σ (4 * p + 3)) : s_nm σ + 2 ≤ 216 ∧ 1 ≤ s_tl σ := by
  obtain ⟨h0, cs, hg, hc⟩ := h
  have h1 := grp_le cs _ _ hg
  have h2 := (tsum_nn (f := s_wa σ) (s_np σ).toNat (fun q q1 q2 => by have := wf_p h0 q (by omega); omega)).2 p hp.1 (by omega)
  have h3 := wf_n h0
  have h4 : s_tl σ = tsum (s_wa σ) (s_np σ).toNat := rfl
  omega
