theorem if_cgr {P Q : Prop} [Decidable P] [Decidable Q] {α : Type} {u v : α} (h : P ↔ Q) : (if P then u else v) = (if Q then u else v) := by
  by_cases e : P
  · rw [if_pos e, if_pos (h.mp e)]
  · rw [if_neg e, if_neg (fun z => e (h.mpr z))]
/-- the first of the first n pieces of a board from a place on; -1 -/
def isPF (σ : ST) (b pl n r : Int) : Prop := (r = -1 ∧ ∀ k, 0 ≤ k ∧ k < n → s_cu σ (4 * k) = b → s_cu σ (4 * k + 1) < pl) ∨ ((0 ≤ r ∧ r < n) ∧ s_cu σ (4 * r) = b ∧ pl ≤ s_cu σ (4 * r + 1) ∧ ∀ k, 0 ≤ k ∧ k < n → s_cu σ (4 * k) = b → pl ≤ s_cu σ (4 * k + 1) → s_cu σ (4 * r + 1) ≤ s_cu σ (4 * k + 1))
theorem isPF_no {σ : ST} {b pl n r : Int} (h : isPF σ b pl n r) (hn : s_cu σ (4 * n) = b → pl ≤ s_cu σ (4 * n + 1) → False) : isPF σ b pl (n + 1) r := by
  rcases h with ⟨h1, h2⟩ | ⟨h1, h2, h3, h4⟩
  · refine Or.inl ⟨h1, fun k hk e => ?_⟩
    by_cases q : k = n
    · subst q; exact Int.lt_of_not_ge (fun z => hn e z)
    · exact h2 k (by omega) e
  · refine Or.inr ⟨by omega, h2, h3, fun k hk e e2 => ?_⟩
    by_cases q : k = n
    · subst q; exact (hn e e2).elim
    · exact h4 k (by omega) e e2
theorem isPF_new {σ : ST} {b pl n r : Int} (h : isPF σ b pl n r) (h0 : 0 ≤ n) (e1 : s_cu σ (4 * n) = b) (e2 : pl ≤ s_cu σ (4 * n + 1)) (hr : r = -1 ∨ s_cu σ (4 * n + 1) < s_cu σ (4 * r + 1)) : isPF σ b pl (n + 1) n := by
  refine Or.inr ⟨by omega, e1, e2, fun k hk f1 f2 => ?_⟩
  by_cases q : k = n
  · subst q; exact Int.le_refl _
  · rcases h with ⟨h1, h2⟩ | ⟨h1, h2, h3, h4⟩
    · have := h2 k (by omega) f1; omega
    · have := h4 k (by omega) f1 f2; omega
theorem isPF_old {σ : ST} {b pl n r : Int} (h : isPF σ b pl n r) (hr : ¬ r = -1) (hl : ¬ s_cu σ (4 * n + 1) < s_cu σ (4 * r + 1)) : isPF σ b pl (n + 1) r := by
  rcases h with ⟨h1, h2⟩ | ⟨h1, h2, h3, h4⟩
  · exact absurd h1 hr
  · refine Or.inr ⟨by omega, h2, h3, fun k hk f1 f2 => ?_⟩
    by_cases q : k = n
    · subst q; omega
    · exact h4 k (by omega) f1 f2
theorem isPF_e {σ : ST} {b pl n m r : Int} (h1 : n ≤ m) (h2 : m ≤ n) (h : isPF σ b pl n r) : isPF σ b pl m r := (show n = m by omega) ▸ h
theorem isPF_u {σ : ST} (hw : WF0 σ) {b pl r r' : Int} (h : isPF σ b pl (s_nm σ) r) (h' : isPF σ b pl (s_nm σ) r') : r = r' := by
  have hn := wf_n hw
  rcases h with ⟨h1, h2⟩ | ⟨h1, h2, h3, h4⟩ <;> rcases h' with ⟨g1, g2⟩ | ⟨g1, g2, g3, g4⟩
  · omega
  · have := h2 r' g1 g2; omega
  · have := g2 r h1 h2; omega
  · have a1 := h4 r' g1 g2 g3
    have a2 := g4 r h1 h2 h3
    have k1 := wf_k hw r h1
    have k2 := wf_k hw r' g1
    rcases Int.lt_trichotomy r r' with q | q | q
    · have := wf_s hw r r' (by omega) q (by omega) (by rw [h2, g2]); omega
    · exact q
    · have := wf_s hw r' r (by omega) q (by omega) (by rw [h2, g2]); omega
theorem isPF_ex (σ : ST) (b pl : Int) : ∀ n : Nat, ∃ r, isPF σ b pl (n : Int) r := by
  intro n
  induction n with
  | zero => exact ⟨-1, Or.inl ⟨rfl, fun k hk => by omega⟩⟩
  | succ n ih =>
    obtain ⟨r, hr⟩ := ih
    show ∃ r, isPF σ b pl ((n : Int) + 1) r
    by_cases h1 : s_cu σ (4 * (n : Int)) = b
    · by_cases h2 : pl ≤ s_cu σ (4 * (n : Int) + 1)
      · by_cases h3 : r = -1 ∨ s_cu σ (4 * (n : Int) + 1) < s_cu σ (4 * r + 1)
        · exact ⟨n, isPF_new hr (by omega) h1 h2 h3⟩
        · exact ⟨r, isPF_old hr (fun z => h3 (Or.inl z)) (fun z => h3 (Or.inr z))⟩
      · exact ⟨r, isPF_no hr (fun _ z => h2 z)⟩
    · exact ⟨r, isPF_no hr (fun z _ => h1 z)⟩
/-- the pieces of a board from a place on, in their order -/
def Srt (σ : ST) (b : Int) : List Int → Int → Prop
  | [], pl => isPF σ b pl (s_nm σ) (-1)
  | k :: ks, pl => 0 ≤ k ∧ isPF σ b pl (s_nm σ) k ∧ Srt σ b ks (s_cu σ (4 * k + 2))
theorem Srt_c {σ : ST} (hw : WF0 σ) {b pl p : Int} {ks : List Int} (h : Srt σ b ks pl) (hp : isPF σ b pl (s_nm σ) p) (hn : ¬ p = -1) : ∃ kq, ks = p :: kq ∧ Srt σ b kq (s_cu σ (4 * p + 2)) ∧ (0 ≤ p ∧ p < s_nm σ) ∧ s_cu σ (4 * p) = b ∧ pl ≤ s_cu σ (4 * p + 1) := by
  cases ks with
  | nil => exact absurd (isPF_u hw hp h) hn
  | cons k kq =>
    obtain ⟨h1, h2, h3⟩ := h
    have e := isPF_u hw hp h2
    subst e
    rcases hp with hp | ⟨g1, g2, g3, g4⟩
    · exact absurd hp.1 hn
    · exact ⟨kq, rfl, h3, g1, g2, g3⟩
theorem Srt_n {σ : ST} (hw : WF0 σ) {b pl : Int} {ks : List Int} (h : Srt σ b ks pl) (hp : isPF σ b pl (s_nm σ) (-1)) : ks = [] := by
  cases ks with
  | nil => rfl
  | cons k kq => have := isPF_u hw hp h.2.1; have := h.1; omega
theorem Srt_u {σ : ST} (hw : WF0 σ) {b : Int} : ∀ (ks kq : List Int) (pl : Int), Srt σ b ks pl → Srt σ b kq pl → ks = kq := by
  intro ks
  induction ks with
  | nil => intro kq pl h h'; exact (Srt_n hw h' h).symm
  | cons k r ih =>
    intro kq pl h h'
    obtain ⟨kq', e, h3, -⟩ := Srt_c hw h' h.2.1 (by have := h.1; omega)
    rw [e, ih kq' _ h.2.2 h3]
theorem Srt_ex {σ : ST} (hw : WF0 σ) (b : Int) : ∀ (m : Nat) (pl : Int), (3001 - pl).toNat ≤ m → ∃ ks, Srt σ b ks pl := by
  have hn := wf_n hw
  intro m
  induction m with
  | zero =>
    intro pl hm
    obtain ⟨r, hr⟩ := isPF_ex σ b pl (s_nm σ).toNat
    rw [show ((s_nm σ).toNat : Int) = s_nm σ by omega] at hr
    rcases hr with hr | ⟨g1, g2, g3, g4⟩
    · exact ⟨[], Or.inl ⟨rfl, hr.2⟩⟩
    · have := wf_k hw r g1; omega
  | succ m ih =>
    intro pl hm
    obtain ⟨r, hr⟩ := isPF_ex σ b pl (s_nm σ).toNat
    rw [show ((s_nm σ).toNat : Int) = s_nm σ by omega] at hr
    rcases hr with hr | ⟨g1, g2, g3, g4⟩
    · exact ⟨[], Or.inl ⟨rfl, hr.2⟩⟩
    · have := wf_k hw r g1
      obtain ⟨ks, hk⟩ := ih (s_cu σ (4 * r + 2)) (by omega)
      exact ⟨r :: ks, g1.1, Or.inr ⟨g1, g2, g3, g4⟩, hk⟩
theorem Srt_len {σ : ST} (hw : WF0 σ) {b : Int} : ∀ (ks : List Int) (pl : Int), pl ≤ 3000 → Srt σ b ks pl → pl + ks.length ≤ 3000 := by
  intro ks
  induction ks with
  | nil => intro pl h _; simpa using h
  | cons k r ih =>
    intro pl h hs
    obtain ⟨kq, e, h3, h4, h5, h6⟩ := Srt_c hw hs hs.2.1 (by have := hs.1; omega)
    have hk := wf_k hw k h4
    have := ih _ (by omega) hs.2.2
    simp only [List.length_cons]
    omega
theorem Srt_mem {σ : ST} (hw : WF0 σ) {b : Int} : ∀ (ks : List Int) (pl : Int), Srt σ b ks pl → ∀ (i : Nat) (f : Int), ks[i]? = some f → (0 ≤ f ∧ f < s_nm σ) ∧ s_cu σ (4 * f) = b := by
  intro ks
  induction ks with
  | nil => intro pl h i f hf; simp at hf
  | cons k r ih =>
    intro pl hs i f hf
    obtain ⟨kq, e, h3, h4, h5, h6⟩ := Srt_c hw hs hs.2.1 (by have := hs.1; omega)
    cases i with
    | zero => simp at hf; subst hf; exact ⟨h4, h5⟩
    | succ i => exact ih _ hs.2.2 i f (by simpa using hf)
theorem Srt_hd {σ : ST} (hw : WF0 σ) {b pl g : Int} {ks : List Int} (h : Srt σ b ks pl) (hl : 0 < ks.length) (hg : isPF σ b pl (s_nm σ) g) : ks[0]? = some g := by
  cases ks with
  | nil => simp at hl
  | cons k r => simp; exact isPF_u hw h.2.1 hg
theorem Srt_nx {σ : ST} (hw : WF0 σ) {b g : Int} : ∀ (ks : List Int) (pl : Int), Srt σ b ks pl → ∀ (i : Nat) (f : Int), ks[i]? = some f → i + 1 < ks.length → isPF σ b (s_cu σ (4 * f + 2)) (s_nm σ) g → ks[i + 1]? = some g := by
  intro ks
  induction ks with
  | nil => intro pl h i f hf; simp at hf
  | cons k r ih =>
    intro pl hs i f hf hl hg
    cases i with
    | zero =>
      simp at hf; subst hf
      have := Srt_hd hw hs.2.2 (by simp at hl; omega) hg
      simpa using this
    | succ i =>
      have := ih _ hs.2.2 i f (by simpa using hf) (by simp at hl; omega) hg
      simpa using this
/-! sums over a board's pieces -/
def csum (σ : ST) (b : Int) (f : Int → Int) : Nat → Int
  | 0 => 0
  | n + 1 => csum σ b f n + (if s_cu σ (4 * (n : Int)) = b then f n else 0)
theorem csum_1 {σ : ST} {b : Int} {f : Int → Int} {n : Nat} (h : s_cu σ (4 * (n : Int)) = b) : csum σ b f (n + 1) = csum σ b f n + f n := by
  show csum σ b f n + (if s_cu σ (4 * (n : Int)) = b then f n else 0) = _
  rw [if_pos h]
theorem csum_0 {σ : ST} {b : Int} {f : Int → Int} {n : Nat} (h : ¬ s_cu σ (4 * (n : Int)) = b) : csum σ b f (n + 1) = csum σ b f n := by
  show csum σ b f n + (if s_cu σ (4 * (n : Int)) = b then f n else 0) = _
  rw [if_neg h]; omega
def psum (σ : ST) (b : Int) (f : Int → Int) (pl : Int) : Nat → Int
  | 0 => 0
  | n + 1 => psum σ b f pl n + (if s_cu σ (4 * (n : Int)) = b ∧ pl ≤ s_cu σ (4 * (n : Int) + 1) then f n else 0)
def lsum (f : Int → Int) : List Int → Int
  | [] => 0
  | k :: ks => f k + lsum f ks
theorem psum_c {σ : ST} (hw : WF0 σ) {b : Int} {f : Int → Int} : ∀ n : Nat, (n : Int) ≤ s_nm σ → csum σ b f n = psum σ b f 0 n := by
  intro n
  induction n with
  | zero => intro _; rfl
  | succ n ih =>
    intro hn
    have hk := wf_k hw n (by omega)
    show csum σ b f n + (if s_cu σ (4 * (n : Int)) = b then f n else 0) = psum σ b f 0 n + (if s_cu σ (4 * (n : Int)) = b ∧ 0 ≤ s_cu σ (4 * (n : Int) + 1) then f n else 0)
    rw [ih (by omega)]
    by_cases e : s_cu σ (4 * (n : Int)) = b
    · rw [if_pos e, if_pos ⟨e, by omega⟩]
    · rw [if_neg e, if_neg (fun z => e z.1)]
theorem psum_z {σ : ST} {b pl : Int} {f : Int → Int} (h : ∀ k, 0 ≤ k ∧ k < s_nm σ → s_cu σ (4 * k) = b → s_cu σ (4 * k + 1) < pl) : ∀ n : Nat, (n : Int) ≤ s_nm σ → psum σ b f pl n = 0 := by
  intro n
  induction n with
  | zero => intro _; rfl
  | succ n ih =>
    intro hn
    show psum σ b f pl n + (if s_cu σ (4 * (n : Int)) = b ∧ pl ≤ s_cu σ (4 * (n : Int) + 1) then f n else 0) = 0
    rw [ih (by omega), if_neg (fun z => by have := h n (by omega) z.1; omega)]
    rfl
theorem psum_s {σ : ST} (hw : WF0 σ) {b pl k : Int} {f : Int → Int} (hk : 0 ≤ k ∧ k < s_nm σ) (e1 : s_cu σ (4 * k) = b) (e2 : pl ≤ s_cu σ (4 * k + 1)) (hl : ∀ j, 0 ≤ j ∧ j < s_nm σ → s_cu σ (4 * j) = b → pl ≤ s_cu σ (4 * j + 1) → s_cu σ (4 * k + 1) ≤ s_cu σ (4 * j + 1)) : ∀ n : Nat, (n : Int) ≤ s_nm σ → psum σ b f pl n = psum σ b f (s_cu σ (4 * k + 2)) n + (if k < (n : Int) then f k else 0) := by
  have hn9 := wf_n hw
  have hk9 := wf_k hw k hk
  intro n
  induction n with
  | zero => intro _; rw [if_neg (by omega)]; rfl
  | succ n ih =>
    intro hn
    have hj9 := wf_k hw n (by omega)
    show psum σ b f pl n + (if s_cu σ (4 * (n : Int)) = b ∧ pl ≤ s_cu σ (4 * (n : Int) + 1) then f n else 0) = psum σ b f (s_cu σ (4 * k + 2)) n + (if s_cu σ (4 * (n : Int)) = b ∧ s_cu σ (4 * k + 2) ≤ s_cu σ (4 * (n : Int) + 1) then f n else 0) + (if k < (n : Int) + 1 then f k else 0)
    rw [ih (by omega)]
    by_cases e : (n : Int) = k
    · rw [e, if_neg (by omega), if_pos ⟨e1, e2⟩, if_neg (by omega), if_pos (by omega)]
    · have h1 : (s_cu σ (4 * (n : Int)) = b ∧ pl ≤ s_cu σ (4 * (n : Int) + 1)) ↔ (s_cu σ (4 * (n : Int)) = b ∧ s_cu σ (4 * k + 2) ≤ s_cu σ (4 * (n : Int) + 1)) := by
        constructor
        · rintro ⟨a1, a2⟩
          have a3 := hl n (by omega) a1 a2
          refine ⟨a1, ?_⟩
          rcases Int.lt_trichotomy (n : Int) k with q | q | q
          · have := wf_s hw n k (by omega) q (by omega) (by rw [a1, e1]); omega
          · exact absurd q e
          · have := wf_s hw k n (by omega) q (by omega) (by rw [a1, e1]); omega
        · rintro ⟨a1, a2⟩
          exact ⟨a1, by omega⟩
      have h2 : (if s_cu σ (4 * (n : Int)) = b ∧ pl ≤ s_cu σ (4 * (n : Int) + 1) then f n else 0) = (if s_cu σ (4 * (n : Int)) = b ∧ s_cu σ (4 * k + 2) ≤ s_cu σ (4 * (n : Int) + 1) then f n else 0) := if_cgr h1
      have h3 : (if k < (n : Int) + 1 then f k else 0) = (if k < (n : Int) then f k else 0) := if_cgr (by omega)
      rw [h2, h3]; omega
theorem srt_sum {σ : ST} (hw : WF0 σ) {b : Int} (f : Int → Int) : ∀ (ks : List Int) (pl : Int), Srt σ b ks pl → psum σ b f pl (s_nm σ).toNat = lsum f ks := by
  have hn9 := wf_n hw
  intro ks
  induction ks with
  | nil =>
    intro pl h
    rcases h with h | h
    · exact psum_z h.2 _ (by omega)
    · omega
  | cons k r ih =>
    intro pl h
    rcases h.2.1 with g | ⟨g1, g2, g3, g4⟩
    · have := h.1; omega
    · rw [psum_s hw g1 g2 g3 g4 _ (by omega), ih _ h.2.2, if_pos (by omega)]
      show lsum f r + f k = f k + lsum f r
      omega
theorem csum_l {σ : ST} (hw : WF0 σ) {b : Int} (f : Int → Int) {ks : List Int} (h : Srt σ b ks 0) {n : Nat} (h1 : s_nm σ ≤ n) (h2 : n ≤ s_nm σ) : csum σ b f n = lsum f ks := by
  have hn9 := wf_n hw
  rw [show n = (s_nm σ).toNat by omega, psum_c hw _ (by omega), srt_sum hw f ks 0 h]
theorem lsum_1 : ∀ ks : List Int, lsum (fun _ => 1) ks = ks.length := by
  intro ks
  induction ks with
  | nil => rfl
  | cons k r ih => show 1 + lsum (fun _ => 1) r = _; rw [ih]; simp; omega
def tellS (σ : ST) (k w : Int) : Int := if w = 0 then s_cu σ (4 * k + 3) else if w < 3 then s_cu σ (4 * k + w) else s_aj σ k
theorem tellS_e {σ : ST} {k w r : Int} (h : (w = 0 ∧ r = s_cu σ (4 * k + 3)) ∨ (¬ w = 0 ∧ w < 3 ∧ r = s_cu σ (4 * k + w)) ∨ (¬ w = 0 ∧ ¬ w < 3 ∧ r = s_aj σ k)) : r = tellS σ k w := by
  unfold tellS
  rcases h with ⟨h1, h2⟩ | ⟨h1, h2, h3⟩ | ⟨h1, h2, h3⟩
  · rw [if_pos h1, h2]
  · rw [if_neg h1, if_pos h2, h3]
  · rw [if_neg h1, if_neg h2, h3]
def Sp_pieces (σ : ST) (b k r : Int) : Prop := (¬ (0 ≤ b ∧ b < s_nb σ) ∧ k = 1) ∨ ((0 ≤ b ∧ b < s_nb σ) ∧ k = 0 ∧ ∃ ks, Srt σ b ks 0 ∧ r = (ks.length : Int))
def Sp_piece (σ : ST) (b i w k r : Int) : Prop := (¬ (0 ≤ b ∧ b < s_nb σ) ∧ k = 1) ∨ ((0 ≤ b ∧ b < s_nb σ) ∧ ∃ ks, Srt σ b ks 0 ∧ ((¬ ((0 ≤ i ∧ i < (ks.length : Int)) ∧ 0 ≤ w ∧ w ≤ 3) ∧ k = 1) ∨ (((0 ≤ i ∧ i < (ks.length : Int)) ∧ 0 ≤ w ∧ w ≤ 3) ∧ k = 0 ∧ ∃ f, ks[i.toNat]? = some f ∧ r = tellS σ f w)))
/-- the cuts at the pieces of a list, behind a piece (-1: none) -/
def cutF (σ : ST) (b : Int) : List Int → Int → Int
  | [], _ => 0
  | k :: ks, bf => (if 0 < s_cu σ (4 * k + 1) ∧ (bf = -1 ∨ s_cu σ (4 * k + 1) - s_cu σ (4 * bf + 2) ≠ s_sw σ) then 1 else 0) + (if s_cu σ (4 * k + 2) < s_wo σ (3 * b) then 1 else 0) + cutF σ b ks k
theorem cutF_c {σ : ST} {b k bf : Int} {ks : List Int} : ∃ u v, cutF σ b (k :: ks) bf = u + v + cutF σ b ks k ∧ ((u = 1 ∧ 0 < s_cu σ (4 * k + 1) ∧ (bf = -1 ∨ s_cu σ (4 * k + 1) - s_cu σ (4 * bf + 2) ≠ s_sw σ)) ∨ (u = 0 ∧ ¬ (0 < s_cu σ (4 * k + 1) ∧ (bf = -1 ∨ s_cu σ (4 * k + 1) - s_cu σ (4 * bf + 2) ≠ s_sw σ)))) ∧ ((v = 1 ∧ s_cu σ (4 * k + 2) < s_wo σ (3 * b)) ∨ (v = 0 ∧ ¬ s_cu σ (4 * k + 2) < s_wo σ (3 * b))) := by
  refine ⟨_, _, rfl, ?_, ?_⟩
  · by_cases h : 0 < s_cu σ (4 * k + 1) ∧ (bf = -1 ∨ s_cu σ (4 * k + 1) - s_cu σ (4 * bf + 2) ≠ s_sw σ)
    · rw [if_pos h]; exact Or.inl ⟨rfl, h.1, h.2⟩
    · rw [if_neg h]; exact Or.inr ⟨rfl, h⟩
  · by_cases h : s_cu σ (4 * k + 2) < s_wo σ (3 * b)
    · rw [if_pos h]; exact Or.inl ⟨rfl, h⟩
    · rw [if_neg h]; exact Or.inr ⟨rfl, h⟩
def Sp_cuts (σ : ST) (b k r : Int) : Prop := (¬ (0 ≤ b ∧ b < s_nb σ) ∧ k = 1) ∨ ((0 ≤ b ∧ b < s_nb σ) ∧ k = 0 ∧ ∃ ks, Srt σ b ks 0 ∧ r = cutF σ b ks (-1))
/-- the longest room, with what is known of the rooms ahead of a list -/
def lngF (σ : ST) (b : Int) : List Int → Int → Int → Int
  | [], l, f => max l (s_wo σ (3 * b) - f)
  | k :: ks, l, f => lngF σ b ks (max l (s_cu σ (4 * k + 1) - s_sw σ - f)) (s_cu σ (4 * k + 2) + s_sw σ)
def Sp_longest (σ : ST) (b k r : Int) : Prop := (¬ (0 ≤ b ∧ b < s_nb σ) ∧ k = 1) ∨ ((0 ≤ b ∧ b < s_nb σ) ∧ k = 0 ∧ ∃ ks, Srt σ b ks 0 ∧ r = lngF σ b ks 0 0)

theorem pf_len {σ : ST} (hw : WF0 σ) {b mn : Int} {n : Nat} (h1 : s_nm σ ≤ n) (h2 : n ≤ s_nm σ) (hg : mn = csum σ b (fun _ => 1) n) : ∃ ks : List Int, (some (.int (I mn)) : Option Value) = some (.int (I (ks.length : Int))) ∧ Srt σ b ks 0 ∧ (ks.length : Int) ≤ 3000 := by
  obtain ⟨ks, hks⟩ := Srt_ex hw b 3001 0 (by omega)
  have hkl := Srt_len hw ks 0 (by omega) hks
  have hme : mn = (ks.length : Int) := by rw [hg, csum_l hw _ hks h1 h2, lsum_1]
  subst hme
  exact ⟨ks, rfl, hks, by omega⟩

set_option maxHeartbeats 4000000 in
set_option maxRecDepth 100000 in
theorem c_M_piecesOf (γ : tmG) (hst : γ.1.stackTraces = false) (Λ : tmL) (ρ : Nat → Nat) (th sf se : Int) (σ : ST) (hM : RM γ.2.2.1 Λ ρ th sf se σ) (hw : WF0 σ) (b : Int) (hb : 0 ≤ b ∧ b < s_nb σ) : tm_Con γ (tm_h2 γ.2.1 γ.2.2.1 γ.2.2.2.1) M_X6_piecesOf 2 0 0 [.ref (ρ 0), .int (I (b))] Λ (fun v w' => Λ = w' ∧ ∃ ks : List Int, v = some (.int (I (ks.length : Int))) ∧ Srt σ b ks 0 ∧ (ks.length : Int) ≤ 3000) := by
  refine tm_con hst (by decide) (Nat.le_of_ble_eq_true rfl) (fun x hB hR => ?_)
  have hg := hB.1
  subst hg
  have hC : tm_C x cX6_piecesOf RX6 (some FieldType.int) := hB.2.2.2.1
  obtain ⟨hm0, hm1, hm2, hm3, hm4, hm5, hm6, hmd⟩ := id hM
  have hn := wf_n hw
  show tm_V x (tm_H x Λ) 0 0 0 [(0, .ref (ρ 0)), (1, .int (I (b)))] []
  refine tm_iconst hC dX6_piecesOf_0 ?_
  refine tm_istore_n [(2, .int (I (0))), (0, .ref (ρ 0)), (1, .int (I (b)))] hC dX6_piecesOf_1 rfl (by rw [hB.2.1]; exact Nat.le_of_ble_eq_true rfl) rfl ?_
  refine tm_iconst hC dX6_piecesOf_2 ?_
  refine tm_istore_n [(3, .int (I (0))), (2, .int (I (0))), (0, .ref (ρ 0)), (1, .int (I (b)))] hC dX6_piecesOf_3 rfl (by rw [hB.2.1]; exact Nat.le_of_ble_eq_true rfl) rfl ?_
  have hL_4 : ∀ (fu : Nat) (mn : Int) (kn : Nat), ((kn : Int) ≤ s_nm σ ∧ mn = csum σ b (fun _ => 1) kn ∧ 0 ≤ mn ∧ mn ≤ kn) → ((s_nm σ - kn).toNat) < fu → tm_V x (tm_H x Λ) 0 0 4 [(0, .ref (ρ 0)), (1, .int (I (b))), (2, .int (I (mn))), (3, .int (I ((kn : Int))))] [] := by
    intro fu
    induction fu with
    | zero => intro mn kn hinv hm; exact absurd hm (Nat.not_lt_zero _)
    | succ fu ih_4 =>
      intro mn kn hinv_4 hm_4
      obtain ⟨hk, hg, hm⟩ := hinv_4
      refine tm_iload_n 3 hC dX6_piecesOf_4 rfl rfl ?_
      refine tm_aload_n 0 hC dX6_piecesOf_5 rfl rfl ?_
      refine tm_getf2 hC f_X6_63 hm0 rfl dX6_piecesOf_6 ?_
      refine tm_icmp_ge 35 hC dX6_piecesOf_9 (by decide) (by omega) (fun c_9 => ?_) (fun c_9 => ?_)
      · refine tm_iload_n 2 hC dX6_piecesOf_35 rfl rfl ?_
        exact tm_iret hC hR dX6_piecesOf_36 (⟨rfl, pf_len hw (by omega) (by omega) hg⟩)
      · have hk9 := wf_k hw kn (by omega)
        refine tm_iload_n 2 hC dX6_piecesOf_12 rfl rfl ?_
        refine tm_aload_n 0 hC dX6_piecesOf_13 rfl rfl ?_
        refine tm_iload_n 3 hC dX6_piecesOf_14 rfl rfl ?_
        refine tm_iload_n 1 hC dX6_piecesOf_15 rfl rfl ?_
        refine tm_callV (b := 0) (n := 0) (rest := [.int (I (mn))]) hC (c_M_isOn (tm_g x) hst Λ ρ th sf se σ hM hw (kn : Int) (by omega) b (by omega) ) k_X6_66 (by rw [hB.2.2.1]; exact ⟨Nat.le_of_ble_eq_true rfl, Nat.le_of_ble_eq_true rfl⟩) rfl (tm_rec2 hC hm0 rfl) rfl (by simp [Value.category]) dX6_piecesOf_16 (fun v_16 w_16 hp_16 => ?_)
        obtain ⟨rfl, rfl, hb_16⟩ := hp_16
        show tm_V x (tm_H x Λ) 0 0 19 [(0, .ref (ρ 0)), (1, .int (I (b))), (2, .int (I (mn))), (3, .int (I ((kn : Int))))] [.int (I (bi (s_cu σ (4 * (kn : Int)) = b))), .int (I (mn))]
        refine tm_ifb_eq 26 hC dX6_piecesOf_19 (by decide) (fun c_19 => ?_) (fun c_19 => ?_)
        · refine tm_iconst hC dX6_piecesOf_26 ?_
          refine tm_iadd hC dX6_piecesOf_27 ?_
          refine tm_istore_n [(2, .int (I (mn + 0))), (0, .ref (ρ 0)), (1, .int (I (b))), (3, .int (I ((kn : Int))))] hC dX6_piecesOf_28 rfl (by rw [hB.2.1]; exact Nat.le_of_ble_eq_true rfl) rfl ?_
          refine tm_iinc 3 [(3, .int (I ((kn : Int) + 1))), (2, .int (I (mn + 0))), (0, .ref (ρ 0)), (1, .int (I (b)))] hC dX6_piecesOf_29 rfl (by rw [hB.2.1]; exact Nat.le_of_ble_eq_true rfl) rfl ?_
          refine tm_goto 4 hC dX6_piecesOf_32 (by decide) ?_
          refine tm_sub (L' := [(0, .ref (ρ 0)), (1, .int (I (b))), (2, .int (I (mn + 0))), (3, .int (I ((kn : Int) + 1)))]) [2, 3, 1, 0] rfl ?_
          exact ih_4  (mn + 0) (kn + 1) (⟨by omega, by rw [csum_0 c_19]; omega, by omega⟩) (by omega)
        · refine tm_iconst hC dX6_piecesOf_22 ?_
          refine tm_goto 27 hC dX6_piecesOf_23 (by decide) ?_
          refine tm_iadd hC dX6_piecesOf_27 ?_
          refine tm_istore_n [(2, .int (I (mn + 1))), (0, .ref (ρ 0)), (1, .int (I (b))), (3, .int (I ((kn : Int))))] hC dX6_piecesOf_28 rfl (by rw [hB.2.1]; exact Nat.le_of_ble_eq_true rfl) rfl ?_
          refine tm_iinc 3 [(3, .int (I ((kn : Int) + 1))), (2, .int (I (mn + 1))), (0, .ref (ρ 0)), (1, .int (I (b)))] hC dX6_piecesOf_29 rfl (by rw [hB.2.1]; exact Nat.le_of_ble_eq_true rfl) rfl ?_
          refine tm_goto 4 hC dX6_piecesOf_32 (by decide) ?_
          refine tm_sub (L' := [(0, .ref (ρ 0)), (1, .int (I (b))), (2, .int (I (mn + 1))), (3, .int (I ((kn : Int) + 1)))]) [2, 3, 1, 0] rfl ?_
          exact ih_4  (mn + 1) (kn + 1) (⟨by omega, by rw [csum_1 c_19]; omega, by omega⟩) (by omega)
  refine tm_sub (L' := [(0, .ref (ρ 0)), (1, .int (I (b))), (2, .int (I (0))), (3, .int (I (0)))]) [2, 3, 1, 0] rfl ?_
  exact hL_4 _ 0 0 (⟨by omega, rfl, by omega⟩) (Nat.lt_succ_self _)

set_option maxHeartbeats 4000000 in
set_option maxRecDepth 100000 in
theorem c_M_pieces (γ : tmG) (hst : γ.1.stackTraces = false) (Λ : tmL) (ρ : Nat → Nat) (th sf se : Int) (σ : ST) (hM : RM γ.2.2.1 Λ ρ th sf se σ) (hw : WF0 σ) (b : Int) (hr : (-2147483648 ≤ b ∧ b ≤ 2147483647)) : tm_Con γ (tm_h2 γ.2.1 γ.2.2.1 γ.2.2.2.1) M_X6_pieces 4 0 0 [.ref (ρ 0), .int (I (b))] Λ (fun v w' => ∃ k sf' se' r, RM γ.2.2.1 w' ρ k sf' se' σ ∧ v = some (.int (I r)) ∧ Sp_pieces σ b k r) := by
  refine tm_con hst (by decide) (Nat.le_of_ble_eq_true rfl) (fun x hB hR => ?_)
  have hg := hB.1
  subst hg
  have hC : tm_C x cX6_pieces RX6 (some FieldType.int) := hB.2.2.2.1
  obtain ⟨hm0, hm1, hm2, hm3, hm4, hm5, hm6, hmd⟩ := id hM
  have hn := wf_n hw
  show tm_V x (tm_H x Λ) 0 0 0 [(0, .ref (ρ 0)), (1, .int (I (b)))] []
  refine tm_aload_n 0 hC dX6_pieces_0 rfl rfl ?_
  refine tm_iconst hC dX6_pieces_1 ?_
  refine tm_putf2 hC f_X6_36 hm0 (tt_7_0 _) (Nat.le_of_ble_eq_true rfl) dX6_pieces_2 ?_
  obtain ⟨w1, hw2⟩ : ∃ z, z = tm_u2 Λ (ρ 0) (.inr (7, [.int (I (0)), .int (I (s_nb σ)), .ref (ρ 1), .int (I (s_nd σ)), .ref (ρ 2), .int (I (s_np σ)), .ref (ρ 3), .ref (ρ 4), .int (I (s_sw σ)), .int (I (s_jt σ)), .int (I (s_nm σ)), .ref (ρ 5), .ref (ρ 6), .int (I (sf)), .int (I (se))])) := ⟨_, rfl⟩
  show tm_V x (tm_H x (tm_u2 Λ (ρ 0) (.inr (7, [.int (I (0)), .int (I (s_nb σ)), .ref (ρ 1), .int (I (s_nd σ)), .ref (ρ 2), .int (I (s_np σ)), .ref (ρ 3), .ref (ρ 4), .int (I (s_sw σ)), .int (I (s_jt σ)), .int (I (s_nm σ)), .ref (ρ 5), .ref (ρ 6), .int (I (sf)), .int (I (se))])))) 0 0 5 [(0, .ref (ρ 0)), (1, .int (I (b)))] []
  rw [← hw2]
  have hw1_ρ_0 : w1 (ρ 0) = some (.inl (.inr (7, [.int (I (0)), .int (I (s_nb σ)), .ref (ρ 1), .int (I (s_nd σ)), .ref (ρ 2), .int (I (s_np σ)), .ref (ρ 3), .ref (ρ 4), .int (I (s_sw σ)), .int (I (s_jt σ)), .int (I (s_nm σ)), .ref (ρ 5), .ref (ρ 6), .int (I (sf)), .int (I (se))]))) := by rw [hw2]; first | done | exact tm_u2_s
  have hw1_ρ_1 := (show w1 (ρ 1) = _ by rw [hw2]; exact tm_u2_n (fun z => absurd (hm0.symm.trans (z ▸ hm1)) (by intro q; cases q))).trans hm1
  have hw1_ρ_2 := (show w1 (ρ 2) = _ by rw [hw2]; exact tm_u2_n (fun z => absurd (hm0.symm.trans (z ▸ hm2)) (by intro q; cases q))).trans hm2
  have hw1_ρ_3 := (show w1 (ρ 3) = _ by rw [hw2]; exact tm_u2_n (fun z => absurd (hm0.symm.trans (z ▸ hm3)) (by intro q; cases q))).trans hm3
  have hw1_ρ_4 := (show w1 (ρ 4) = _ by rw [hw2]; exact tm_u2_n (fun z => absurd (hm0.symm.trans (z ▸ hm4)) (by intro q; cases q))).trans hm4
  have hw1_ρ_5 := (show w1 (ρ 5) = _ by rw [hw2]; exact tm_u2_n (fun z => absurd (hm0.symm.trans (z ▸ hm5)) (by intro q; cases q))).trans hm5
  have hw1_ρ_6 := (show w1 (ρ 6) = _ by rw [hw2]; exact tm_u2_n (fun z => absurd (hm0.symm.trans (z ▸ hm6)) (by intro q; cases q))).trans hm6
  have hM_w1 : RM (tm_T x) w1 ρ 0 sf se σ := ⟨hw1_ρ_0, hw1_ρ_1, hw1_ρ_2, hw1_ρ_3, hw1_ρ_4, hw1_ρ_5, hw1_ρ_6, hmd⟩
  refine tm_aload_n 0 hC dX6_pieces_5 rfl rfl ?_
  refine tm_iload_n 1 hC dX6_pieces_6 rfl rfl ?_
  refine tm_callV (b := 0) (n := 0) (rest := []) hC (c_M_isBoard (tm_g x) hst w1 ρ 0 sf se σ hM_w1 hw b (by omega) ) k_X6_53 (by rw [hB.2.2.1]; exact ⟨Nat.le_of_ble_eq_true rfl, Nat.le_of_ble_eq_true rfl⟩) rfl (tm_rec2 hC hw1_ρ_0 rfl) rfl (by decide) dX6_pieces_7 (fun v_7 w_7 hp_7 => ?_)
  obtain ⟨rfl, rfl⟩ := hp_7
  show tm_V x (tm_H x w1) 0 0 10 [(0, .ref (ρ 0)), (1, .int (I (b)))] [.int (I (bi (0 ≤ b ∧ b ≤ s_nb σ - 1)))]
  refine tm_ifb_eq 21 hC dX6_pieces_10 (by decide) (fun c_10 => ?_) (fun c_10 => ?_)
  · refine tm_aload_n 0 hC dX6_pieces_21 rfl rfl ?_
    refine tm_iconst hC dX6_pieces_22 ?_
    refine tm_callV (b := 0) (n := 0) (rest := []) hC (c_M_fail (tm_g x) hst w1 ρ 0 sf se σ hM_w1 hw 1) k_X6_49 (by rw [hB.2.2.1]; exact ⟨Nat.le_of_ble_eq_true rfl, Nat.le_of_ble_eq_true rfl⟩) rfl (tm_rec2 hC hw1_ρ_0 rfl) rfl (by decide) dX6_pieces_23 (fun v_23 w_23 hp_23 => ?_)
    obtain ⟨hf_23, rfl⟩ := hp_23
    obtain ⟨hm0_23, hm1_23, hm2_23, hm3_23, hm4_23, hm5_23, hm6_23, -⟩ := id hf_23
    show tm_V x (tm_H x w_23) 0 0 26 [(0, .ref (ρ 0)), (1, .int (I (b)))] [.int (I (0))]
    exact tm_iret hC hR dX6_pieces_26 (⟨1, sf, se, 0, hf_23, rfl, Or.inl ⟨by omega, rfl⟩⟩)
  · refine tm_aload_n 0 hC dX6_pieces_13 rfl rfl ?_
    refine tm_iload_n 1 hC dX6_pieces_14 rfl rfl ?_
    refine tm_callV (b := 0) (n := 0) (rest := []) hC (c_M_piecesOf (tm_g x) hst w1 ρ 0 sf se σ hM_w1 hw b (by omega)) k_X6_144 (by rw [hB.2.2.1]; exact ⟨Nat.le_of_ble_eq_true rfl, Nat.le_of_ble_eq_true rfl⟩) rfl (tm_rec2 hC hw1_ρ_0 rfl) rfl (by decide) dX6_pieces_15 (fun v_15 w_15 hp_15 => ?_)
    obtain ⟨rfl, ks_15, rfl, hks_15, hkl_15⟩ := hp_15
    show tm_V x (tm_H x w1) 0 0 18 [(0, .ref (ρ 0)), (1, .int (I (b)))] [.int (I ((ks_15.length : Int)))]
    refine tm_goto 26 hC dX6_pieces_18 (by decide) ?_
    exact tm_iret hC hR dX6_pieces_26 (⟨0, sf, se, (ks_15.length : Int), hM_w1, rfl, Or.inr ⟨by omega, rfl, ks_15, hks_15, rfl⟩⟩)

set_option maxHeartbeats 4000000 in
set_option maxRecDepth 100000 in
theorem c_M_pieceFrom (γ : tmG) (hst : γ.1.stackTraces = false) (Λ : tmL) (ρ : Nat → Nat) (th sf se : Int) (σ : ST) (hM : RM γ.2.2.1 Λ ρ th sf se σ) (hw : WF0 σ) (b : Int) (hb : 0 ≤ b ∧ b < s_nb σ) (pl : Int) (hpl : 0 ≤ pl ∧ pl ≤ 3010) : tm_Con γ (tm_h2 γ.2.1 γ.2.2.1 γ.2.2.2.1) M_X6_pieceFrom 2 0 0 [.ref (ρ 0), .int (I (b)), .int (I (pl))] Λ (fun v w' => Λ = w' ∧ ∃ r, v = some (.int (I r)) ∧ isPF σ b pl (s_nm σ) r ∧ -1 ≤ r ∧ r < s_nm σ) := by
  refine tm_con hst (by decide) (Nat.le_of_ble_eq_true rfl) (fun x hB hR => ?_)
  have hg := hB.1
  subst hg
  have hC : tm_C x cX6_pieceFrom RX6 (some FieldType.int) := hB.2.2.2.1
  obtain ⟨hm0, hm1, hm2, hm3, hm4, hm5, hm6, hmd⟩ := id hM
  have hn := wf_n hw
  show tm_V x (tm_H x Λ) 0 0 0 [(0, .ref (ρ 0)), (1, .int (I (b))), (2, .int (I (pl)))] []
  refine tm_iconst hC dX6_pieceFrom_0 ?_
  refine tm_istore_n [(3, .int (I ((-1)))), (0, .ref (ρ 0)), (1, .int (I (b))), (2, .int (I (pl)))] hC dX6_pieceFrom_1 rfl (by rw [hB.2.1]; exact Nat.le_of_ble_eq_true rfl) rfl ?_
  refine tm_iconst hC dX6_pieceFrom_2 ?_
  refine tm_istore [(4, .int (I (0))), (3, .int (I ((-1)))), (0, .ref (ρ 0)), (1, .int (I (b))), (2, .int (I (pl)))] hC dX6_pieceFrom_3 (by rw [hB.2.1]; exact Nat.le_of_ble_eq_true rfl) rfl ?_
  have hL_5 : ∀ (fu : Nat) (r : Int) (k : Int), ((0 ≤ k ∧ k ≤ s_nm σ) ∧ isPF σ b pl k r ∧ -1 ≤ r ∧ r < k) → ((s_nm σ - k).toNat) < fu → tm_V x (tm_H x Λ) 0 0 5 [(0, .ref (ρ 0)), (1, .int (I (b))), (2, .int (I (pl))), (3, .int (I (r))), (4, .int (I (k)))] [] := by
    intro fu
    induction fu with
    | zero => intro r k hinv hm; exact absurd hm (Nat.not_lt_zero _)
    | succ fu ih_5 =>
      intro r k hinv_5 hm_5
      obtain ⟨hk, hg, hr0⟩ := hinv_5
      refine tm_iload 4 hC dX6_pieceFrom_5 rfl ?_
      refine tm_aload_n 0 hC dX6_pieceFrom_7 rfl rfl ?_
      refine tm_getf2 hC f_X6_63 hm0 rfl dX6_pieceFrom_8 ?_
      refine tm_icmp_ge 62 hC dX6_pieceFrom_11 (by decide) (by omega) (fun c_11 => ?_) (fun c_11 => ?_)
      · refine tm_iload_n 3 hC dX6_pieceFrom_62 rfl rfl ?_
        exact tm_iret hC hR dX6_pieceFrom_63 (⟨rfl, r, rfl, isPF_e (by omega) (by omega) hg, by omega⟩)
      · have hk9 := wf_k hw k (by omega)
        refine tm_aload_n 0 hC dX6_pieceFrom_14 rfl rfl ?_
        refine tm_iload 4 hC dX6_pieceFrom_15 rfl ?_
        refine tm_iload_n 1 hC dX6_pieceFrom_17 rfl rfl ?_
        refine tm_callV (b := 0) (n := 0) (rest := []) hC (c_M_isOn (tm_g x) hst Λ ρ th sf se σ hM hw k (by omega) b (by omega) ) k_X6_66 (by rw [hB.2.2.1]; exact ⟨Nat.le_of_ble_eq_true rfl, Nat.le_of_ble_eq_true rfl⟩) rfl (tm_rec2 hC hm0 rfl) rfl (by decide) dX6_pieceFrom_18 (fun v_18 w_18 hp_18 => ?_)
        obtain ⟨rfl, rfl, hb_18⟩ := hp_18
        show tm_V x (tm_H x Λ) 0 0 21 [(0, .ref (ρ 0)), (1, .int (I (b))), (2, .int (I (pl))), (3, .int (I (r))), (4, .int (I (k)))] [.int (I (bi (s_cu σ (4 * k) = b)))]
        refine tm_ifb_eq 56 hC dX6_pieceFrom_21 (by decide) (fun c_21 => ?_) (fun c_21 => ?_)
        · refine tm_iinc 4 [(4, .int (I (k + 1))), (0, .ref (ρ 0)), (1, .int (I (b))), (2, .int (I (pl))), (3, .int (I (r)))] hC dX6_pieceFrom_56 rfl (by rw [hB.2.1]; exact Nat.le_of_ble_eq_true rfl) rfl ?_
          refine tm_goto 5 hC dX6_pieceFrom_59 (by decide) ?_
          refine tm_sub (L' := [(0, .ref (ρ 0)), (1, .int (I (b))), (2, .int (I (pl))), (3, .int (I (r))), (4, .int (I (k + 1)))]) [1, 2, 3, 4, 0] rfl ?_
          exact ih_5  r (k + 1) (⟨by omega, isPF_no hg (fun e1 _ => c_21 e1), by omega⟩) (by omega)
        · refine tm_aload_n 0 hC dX6_pieceFrom_24 rfl rfl ?_
          refine tm_iload 4 hC dX6_pieceFrom_25 rfl ?_
          refine tm_callV (b := 0) (n := 0) (rest := []) hC (c_M_from (tm_g x) hst Λ ρ th sf se σ hM hw k (by omega) ) k_X6_70 (by rw [hB.2.2.1]; exact ⟨Nat.le_of_ble_eq_true rfl, Nat.le_of_ble_eq_true rfl⟩) rfl (tm_rec2 hC hm0 rfl) rfl (by decide) dX6_pieceFrom_27 (fun v_27 w_27 hp_27 => ?_)
          obtain ⟨rfl, rfl, hb_27⟩ := hp_27
          show tm_V x (tm_H x Λ) 0 0 30 [(0, .ref (ρ 0)), (1, .int (I (b))), (2, .int (I (pl))), (3, .int (I (r))), (4, .int (I (k)))] [.int (I (s_cu σ (4 * k + 1)))]
          refine tm_iload_n 2 hC dX6_pieceFrom_30 rfl rfl ?_
          refine tm_icmp_lt 56 hC dX6_pieceFrom_31 (by decide) (by omega) (fun c_31 => ?_) (fun c_31 => ?_)
          · refine tm_iinc 4 [(4, .int (I (k + 1))), (0, .ref (ρ 0)), (1, .int (I (b))), (2, .int (I (pl))), (3, .int (I (r)))] hC dX6_pieceFrom_56 rfl (by rw [hB.2.1]; exact Nat.le_of_ble_eq_true rfl) rfl ?_
            refine tm_goto 5 hC dX6_pieceFrom_59 (by decide) ?_
            refine tm_sub (L' := [(0, .ref (ρ 0)), (1, .int (I (b))), (2, .int (I (pl))), (3, .int (I (r))), (4, .int (I (k + 1)))]) [1, 2, 3, 4, 0] rfl ?_
            exact ih_5  r (k + 1) (⟨by omega, isPF_no hg (fun _ e2 => by omega), by omega⟩) (by omega)
          · refine tm_iload_n 3 hC dX6_pieceFrom_34 rfl rfl ?_
            refine tm_iconst hC dX6_pieceFrom_35 ?_
            refine tm_icmp_eq 53 hC dX6_pieceFrom_36 (by decide) (by omega) (fun c_36 => ?_) (fun c_36 => ?_)
            · refine tm_iload 4 hC dX6_pieceFrom_53 rfl ?_
              refine tm_istore_n [(3, .int (I (k))), (0, .ref (ρ 0)), (1, .int (I (b))), (2, .int (I (pl))), (4, .int (I (k)))] hC dX6_pieceFrom_55 rfl (by rw [hB.2.1]; exact Nat.le_of_ble_eq_true rfl) rfl ?_
              refine tm_iinc 4 [(4, .int (I (k + 1))), (3, .int (I (k))), (0, .ref (ρ 0)), (1, .int (I (b))), (2, .int (I (pl)))] hC dX6_pieceFrom_56 rfl (by rw [hB.2.1]; exact Nat.le_of_ble_eq_true rfl) rfl ?_
              refine tm_goto 5 hC dX6_pieceFrom_59 (by decide) ?_
              refine tm_sub (L' := [(0, .ref (ρ 0)), (1, .int (I (b))), (2, .int (I (pl))), (3, .int (I (k))), (4, .int (I (k + 1)))]) [2, 3, 4, 1, 0] rfl ?_
              exact ih_5  k (k + 1) (⟨by omega, isPF_new hg (by omega) c_21 (by omega) (Or.inl c_36), by omega⟩) (by omega)
            · refine tm_aload_n 0 hC dX6_pieceFrom_39 rfl rfl ?_
              refine tm_iload 4 hC dX6_pieceFrom_40 rfl ?_
              refine tm_callV (b := 0) (n := 0) (rest := []) hC (c_M_from (tm_g x) hst Λ ρ th sf se σ hM hw k (by omega) ) k_X6_70 (by rw [hB.2.2.1]; exact ⟨Nat.le_of_ble_eq_true rfl, Nat.le_of_ble_eq_true rfl⟩) rfl (tm_rec2 hC hm0 rfl) rfl (by decide) dX6_pieceFrom_42 (fun v_42 w_42 hp_42 => ?_)
              obtain ⟨rfl, rfl, hb_42⟩ := hp_42
              show tm_V x (tm_H x Λ) 0 0 45 [(0, .ref (ρ 0)), (1, .int (I (b))), (2, .int (I (pl))), (3, .int (I (r))), (4, .int (I (k)))] [.int (I (s_cu σ (4 * k + 1)))]
              refine tm_aload_n 0 hC dX6_pieceFrom_45 rfl rfl ?_
              refine tm_iload_n 3 hC dX6_pieceFrom_46 rfl rfl ?_
              refine tm_callV (b := 0) (n := 0) (rest := [.int (I (s_cu σ (4 * k + 1)))]) hC (c_M_from (tm_g x) hst Λ ρ th sf se σ hM hw r (by omega) ) k_X6_70 (by rw [hB.2.2.1]; exact ⟨Nat.le_of_ble_eq_true rfl, Nat.le_of_ble_eq_true rfl⟩) rfl (tm_rec2 hC hm0 rfl) rfl (by simp [Value.category]) dX6_pieceFrom_47 (fun v_47 w_47 hp_47 => ?_)
              obtain ⟨rfl, rfl, hb_47⟩ := hp_47
              show tm_V x (tm_H x Λ) 0 0 50 [(0, .ref (ρ 0)), (1, .int (I (b))), (2, .int (I (pl))), (3, .int (I (r))), (4, .int (I (k)))] [.int (I (s_cu σ (4 * r + 1))), .int (I (s_cu σ (4 * k + 1)))]
              refine tm_icmp_ge 56 hC dX6_pieceFrom_50 (by decide) (by omega) (fun c_50 => ?_) (fun c_50 => ?_)
              · refine tm_iinc 4 [(4, .int (I (k + 1))), (0, .ref (ρ 0)), (1, .int (I (b))), (2, .int (I (pl))), (3, .int (I (r)))] hC dX6_pieceFrom_56 rfl (by rw [hB.2.1]; exact Nat.le_of_ble_eq_true rfl) rfl ?_
                refine tm_goto 5 hC dX6_pieceFrom_59 (by decide) ?_
                refine tm_sub (L' := [(0, .ref (ρ 0)), (1, .int (I (b))), (2, .int (I (pl))), (3, .int (I (r))), (4, .int (I (k + 1)))]) [1, 2, 3, 4, 0] rfl ?_
                exact ih_5  r (k + 1) (⟨by omega, isPF_old hg c_36 (by omega), by omega⟩) (by omega)
              · refine tm_iload 4 hC dX6_pieceFrom_53 rfl ?_
                refine tm_istore_n [(3, .int (I (k))), (0, .ref (ρ 0)), (1, .int (I (b))), (2, .int (I (pl))), (4, .int (I (k)))] hC dX6_pieceFrom_55 rfl (by rw [hB.2.1]; exact Nat.le_of_ble_eq_true rfl) rfl ?_
                refine tm_iinc 4 [(4, .int (I (k + 1))), (3, .int (I (k))), (0, .ref (ρ 0)), (1, .int (I (b))), (2, .int (I (pl)))] hC dX6_pieceFrom_56 rfl (by rw [hB.2.1]; exact Nat.le_of_ble_eq_true rfl) rfl ?_
                refine tm_goto 5 hC dX6_pieceFrom_59 (by decide) ?_
                refine tm_sub (L' := [(0, .ref (ρ 0)), (1, .int (I (b))), (2, .int (I (pl))), (3, .int (I (k))), (4, .int (I (k + 1)))]) [2, 3, 4, 1, 0] rfl ?_
                exact ih_5  k (k + 1) (⟨by omega, isPF_new hg (by omega) c_21 (by omega) (Or.inr (by omega)), by omega⟩) (by omega)
  refine tm_sub (L' := [(0, .ref (ρ 0)), (1, .int (I (b))), (2, .int (I (pl))), (3, .int (I ((-1)))), (4, .int (I (0)))]) [2, 3, 4, 1, 0] rfl ?_
  exact hL_5 _ (-1) 0 (⟨by omega, Or.inl ⟨rfl, fun j hj => by omega⟩, by omega⟩) (Nat.lt_succ_self _)

set_option maxHeartbeats 4000000 in
set_option maxRecDepth 100000 in
theorem c_M_told (γ : tmG) (hst : γ.1.stackTraces = false) (Λ : tmL) (ρ : Nat → Nat) (th sf se : Int) (σ : ST) (hM : RM γ.2.2.1 Λ ρ th sf se σ) (hw : WF0 σ) (k w : Int) (hkw : (0 ≤ k ∧ k < s_nm σ) ∧ 0 ≤ w ∧ w ≤ 3) : tm_Con γ (tm_h2 γ.2.1 γ.2.2.1 γ.2.2.2.1) M_X6_told 2 0 0 [.ref (ρ 0), .int (I (k)), .int (I (w))] Λ (fun v w' => Λ = w' ∧ v = some (.int (I (tellS σ k w)))) := by
  refine tm_con hst (by decide) (Nat.le_of_ble_eq_true rfl) (fun x hB hR => ?_)
  have hg := hB.1
  subst hg
  have hC : tm_C x cX6_told RX6 (some FieldType.int) := hB.2.2.2.1
  obtain ⟨hm0, hm1, hm2, hm3, hm4, hm5, hm6, hmd⟩ := id hM
  have hn := wf_n hw
  have hk9 := wf_k hw k (by omega)
  show tm_V x (tm_H x Λ) 0 0 0 [(0, .ref (ρ 0)), (1, .int (I (k))), (2, .int (I (w)))] []
  refine tm_iload_n 2 hC dX6_told_0 rfl rfl ?_
  refine tm_if_ne 12 hC dX6_told_1 (by decide) (by omega) (fun c_1 => ?_) (fun c_1 => ?_)
  · refine tm_iload_n 2 hC dX6_told_12 rfl rfl ?_
    refine tm_iconst hC dX6_told_13 ?_
    refine tm_icmp_ge 30 hC dX6_told_14 (by decide) (by omega) (fun c_14 => ?_) (fun c_14 => ?_)
    · refine tm_aload_n 0 hC dX6_told_30 rfl rfl ?_
      refine tm_getf2 hC f_X6_33 hm0 rfl dX6_told_31 ?_
      refine tm_iload_n 1 hC dX6_told_34 rfl rfl ?_
      refine tm_zald2 hC hm6 (by omega) dX6_told_35 ?_
      refine tm_if_eq 43 hC dX6_told_36 (by decide) (by omega) (fun c_36 => ?_) (fun c_36 => ?_)
      · refine tm_iconst hC dX6_told_43 ?_
        exact tm_iret hC hR dX6_told_44 (⟨rfl, by rw [← tellS_e (σ := σ) (k := k) (w := w) (r := 0) (by omega)]⟩)
      · refine tm_iconst hC dX6_told_39 ?_
        refine tm_goto 44 hC dX6_told_40 (by decide) ?_
        exact tm_iret hC hR dX6_told_44 (⟨rfl, by rw [← tellS_e (σ := σ) (k := k) (w := w) (r := 1) (by omega)]⟩)
    · refine tm_aload_n 0 hC dX6_told_17 rfl rfl ?_
      refine tm_getf2 hC f_X6_30 hm0 rfl dX6_told_18 ?_
      refine tm_iconst hC dX6_told_21 ?_
      refine tm_iload_n 1 hC dX6_told_22 rfl rfl ?_
      refine tm_imul hC dX6_told_23 ?_
      refine tm_iload_n 2 hC dX6_told_24 rfl rfl ?_
      refine tm_iadd hC dX6_told_25 ?_
      refine tm_iald2 hC hm5 (by omega) dX6_told_26 ?_
      refine tm_goto 44 hC dX6_told_27 (by decide) ?_
      exact tm_iret hC hR dX6_told_44 (⟨rfl, by rw [← tellS_e (σ := σ) (k := k) (w := w) (r := (s_cu σ) ((4 * k) + w)) (by omega)]⟩)
  · refine tm_aload_n 0 hC dX6_told_4 rfl rfl ?_
    refine tm_iload_n 1 hC dX6_told_5 rfl rfl ?_
    refine tm_callV (b := 0) (n := 0) (rest := []) hC (c_M_partOf (tm_g x) hst Λ ρ th sf se σ hM hw k (by omega) ) k_X6_76 (by rw [hB.2.2.1]; exact ⟨Nat.le_of_ble_eq_true rfl, Nat.le_of_ble_eq_true rfl⟩) rfl (tm_rec2 hC hm0 rfl) rfl (by decide) dX6_told_6 (fun v_6 w_6 hp_6 => ?_)
    obtain ⟨rfl, rfl, hb_6⟩ := hp_6
    show tm_V x (tm_H x Λ) 0 0 9 [(0, .ref (ρ 0)), (1, .int (I (k))), (2, .int (I (w)))] [.int (I (s_cu σ (4 * k + 3)))]
    refine tm_goto 44 hC dX6_told_9 (by decide) ?_
    exact tm_iret hC hR dX6_told_44 (⟨rfl, by rw [← tellS_e (σ := σ) (k := k) (w := w) (r := s_cu σ (4 * k + 3)) (by omega)]⟩)

set_option maxHeartbeats 4000000 in
set_option maxRecDepth 100000 in
theorem c_M_piece (γ : tmG) (hst : γ.1.stackTraces = false) (Λ : tmL) (ρ : Nat → Nat) (th sf se : Int) (σ : ST) (hM : RM γ.2.2.1 Λ ρ th sf se σ) (hw : WF0 σ) (b i w : Int) (hr : (-2147483648 ≤ b ∧ b ≤ 2147483647) ∧ (-2147483648 ≤ i ∧ i ≤ 2147483647) ∧ (-2147483648 ≤ w ∧ w ≤ 2147483647)) : tm_Con γ (tm_h2 γ.2.1 γ.2.2.1 γ.2.2.2.1) M_X6_piece 4 0 0 [.ref (ρ 0), .int (I (b)), .int (I (i)), .int (I (w))] Λ (fun v w' => ∃ k sf' se' r, RM γ.2.2.1 w' ρ k sf' se' σ ∧ v = some (.int (I r)) ∧ Sp_piece σ b i w k r) := by
  refine tm_con hst (by decide) (Nat.le_of_ble_eq_true rfl) (fun x hB hR => ?_)
  have hg := hB.1
  subst hg
  have hC : tm_C x cX6_piece RX6 (some FieldType.int) := hB.2.2.2.1
  obtain ⟨hm0, hm1, hm2, hm3, hm4, hm5, hm6, hmd⟩ := id hM
  have hn := wf_n hw
  show tm_V x (tm_H x Λ) 0 0 0 [(0, .ref (ρ 0)), (1, .int (I (b))), (2, .int (I (i))), (3, .int (I (w)))] []
  refine tm_aload_n 0 hC dX6_piece_0 rfl rfl ?_
  refine tm_iconst hC dX6_piece_1 ?_
  refine tm_putf2 hC f_X6_36 hm0 (tt_7_0 _) (Nat.le_of_ble_eq_true rfl) dX6_piece_2 ?_
  obtain ⟨w1, hw2⟩ : ∃ z, z = tm_u2 Λ (ρ 0) (.inr (7, [.int (I (0)), .int (I (s_nb σ)), .ref (ρ 1), .int (I (s_nd σ)), .ref (ρ 2), .int (I (s_np σ)), .ref (ρ 3), .ref (ρ 4), .int (I (s_sw σ)), .int (I (s_jt σ)), .int (I (s_nm σ)), .ref (ρ 5), .ref (ρ 6), .int (I (sf)), .int (I (se))])) := ⟨_, rfl⟩
  show tm_V x (tm_H x (tm_u2 Λ (ρ 0) (.inr (7, [.int (I (0)), .int (I (s_nb σ)), .ref (ρ 1), .int (I (s_nd σ)), .ref (ρ 2), .int (I (s_np σ)), .ref (ρ 3), .ref (ρ 4), .int (I (s_sw σ)), .int (I (s_jt σ)), .int (I (s_nm σ)), .ref (ρ 5), .ref (ρ 6), .int (I (sf)), .int (I (se))])))) 0 0 5 [(0, .ref (ρ 0)), (1, .int (I (b))), (2, .int (I (i))), (3, .int (I (w)))] []
  rw [← hw2]
  have hw1_ρ_0 : w1 (ρ 0) = some (.inl (.inr (7, [.int (I (0)), .int (I (s_nb σ)), .ref (ρ 1), .int (I (s_nd σ)), .ref (ρ 2), .int (I (s_np σ)), .ref (ρ 3), .ref (ρ 4), .int (I (s_sw σ)), .int (I (s_jt σ)), .int (I (s_nm σ)), .ref (ρ 5), .ref (ρ 6), .int (I (sf)), .int (I (se))]))) := by rw [hw2]; first | done | exact tm_u2_s
  have hw1_ρ_1 := (show w1 (ρ 1) = _ by rw [hw2]; exact tm_u2_n (fun z => absurd (hm0.symm.trans (z ▸ hm1)) (by intro q; cases q))).trans hm1
  have hw1_ρ_2 := (show w1 (ρ 2) = _ by rw [hw2]; exact tm_u2_n (fun z => absurd (hm0.symm.trans (z ▸ hm2)) (by intro q; cases q))).trans hm2
  have hw1_ρ_3 := (show w1 (ρ 3) = _ by rw [hw2]; exact tm_u2_n (fun z => absurd (hm0.symm.trans (z ▸ hm3)) (by intro q; cases q))).trans hm3
  have hw1_ρ_4 := (show w1 (ρ 4) = _ by rw [hw2]; exact tm_u2_n (fun z => absurd (hm0.symm.trans (z ▸ hm4)) (by intro q; cases q))).trans hm4
  have hw1_ρ_5 := (show w1 (ρ 5) = _ by rw [hw2]; exact tm_u2_n (fun z => absurd (hm0.symm.trans (z ▸ hm5)) (by intro q; cases q))).trans hm5
  have hw1_ρ_6 := (show w1 (ρ 6) = _ by rw [hw2]; exact tm_u2_n (fun z => absurd (hm0.symm.trans (z ▸ hm6)) (by intro q; cases q))).trans hm6
  have hM_w1 : RM (tm_T x) w1 ρ 0 sf se σ := ⟨hw1_ρ_0, hw1_ρ_1, hw1_ρ_2, hw1_ρ_3, hw1_ρ_4, hw1_ρ_5, hw1_ρ_6, hmd⟩
  refine tm_aload_n 0 hC dX6_piece_5 rfl rfl ?_
  refine tm_iload_n 1 hC dX6_piece_6 rfl rfl ?_
  refine tm_callV (b := 0) (n := 0) (rest := []) hC (c_M_isBoard (tm_g x) hst w1 ρ 0 sf se σ hM_w1 hw b (by omega) ) k_X6_53 (by rw [hB.2.2.1]; exact ⟨Nat.le_of_ble_eq_true rfl, Nat.le_of_ble_eq_true rfl⟩) rfl (tm_rec2 hC hw1_ρ_0 rfl) rfl (by decide) dX6_piece_7 (fun v_7 w_7 hp_7 => ?_)
  obtain ⟨rfl, rfl⟩ := hp_7
  show tm_V x (tm_H x w1) 0 0 10 [(0, .ref (ρ 0)), (1, .int (I (b))), (2, .int (I (i))), (3, .int (I (w)))] [.int (I (bi (0 ≤ b ∧ b ≤ s_nb σ - 1)))]
  refine tm_ifb_eq 37 hC dX6_piece_10 (by decide) (fun c_10 => ?_) (fun c_10 => ?_)
  · refine tm_aload_n 0 hC dX6_piece_37 rfl rfl ?_
    refine tm_iconst hC dX6_piece_38 ?_
    refine tm_callV (b := 0) (n := 0) (rest := []) hC (c_M_fail (tm_g x) hst w1 ρ 0 sf se σ hM_w1 hw 1) k_X6_49 (by rw [hB.2.2.1]; exact ⟨Nat.le_of_ble_eq_true rfl, Nat.le_of_ble_eq_true rfl⟩) rfl (tm_rec2 hC hw1_ρ_0 rfl) rfl (by decide) dX6_piece_39 (fun v_39 w_39 hp_39 => ?_)
    obtain ⟨hf_39, rfl⟩ := hp_39
    obtain ⟨hm0_39, hm1_39, hm2_39, hm3_39, hm4_39, hm5_39, hm6_39, -⟩ := id hf_39
    show tm_V x (tm_H x w_39) 0 0 42 [(0, .ref (ρ 0)), (1, .int (I (b))), (2, .int (I (i))), (3, .int (I (w)))] [.int (I (0))]
    exact tm_iret hC hR dX6_piece_42 (⟨1, sf, se, 0, hf_39, rfl, Or.inl ⟨by omega, rfl⟩⟩)
  · refine tm_iload_n 2 hC dX6_piece_13 rfl rfl ?_
    refine tm_iconst hC dX6_piece_14 ?_
    refine tm_aload_n 0 hC dX6_piece_15 rfl rfl ?_
    refine tm_iload_n 1 hC dX6_piece_16 rfl rfl ?_
    refine tm_callV (b := 0) (n := 0) (rest := [.int (I (0)), .int (I (i))]) hC (c_M_piecesOf (tm_g x) hst w1 ρ 0 sf se σ hM_w1 hw b (by omega)) k_X6_144 (by rw [hB.2.2.1]; exact ⟨Nat.le_of_ble_eq_true rfl, Nat.le_of_ble_eq_true rfl⟩) rfl (tm_rec2 hC hw1_ρ_0 rfl) rfl (by simp [Value.category]) dX6_piece_17 (fun v_17 w_17 hp_17 => ?_)
    obtain ⟨rfl, ks_17, rfl, hks_17, hkl_17⟩ := hp_17
    show tm_V x (tm_H x w1) 0 0 20 [(0, .ref (ρ 0)), (1, .int (I (b))), (2, .int (I (i))), (3, .int (I (w)))] [.int (I ((ks_17.length : Int))), .int (I (0)), .int (I (i))]
    refine tm_iconst hC dX6_piece_20 ?_
    refine tm_isub hC dX6_piece_21 ?_
    refine tm_callS (b := 0) (n := 0) (rest := []) hC (c_M_isIn (tm_g x) hst _ w1 i 0 ((ks_17.length : Int) - 1) (by omega)) k_X6_42 (by rw [hB.2.2.1]; exact ⟨Nat.le_of_ble_eq_true rfl, Nat.le_of_ble_eq_true rfl⟩) rfl rfl (by decide) dX6_piece_22 (fun v_22 w_22 hp_22 => ?_)
    obtain ⟨rfl, rfl⟩ := hp_22
    show tm_V x (tm_H x w1) 0 0 25 [(0, .ref (ρ 0)), (1, .int (I (b))), (2, .int (I (i))), (3, .int (I (w)))] [.int (I (bi (0 ≤ i ∧ i ≤ ((ks_17.length : Int) - 1))))]
    refine tm_ifb_eq 37 hC dX6_piece_25 (by decide) (fun c_25 => ?_) (fun c_25 => ?_)
    · refine tm_aload_n 0 hC dX6_piece_37 rfl rfl ?_
      refine tm_iconst hC dX6_piece_38 ?_
      refine tm_callV (b := 0) (n := 0) (rest := []) hC (c_M_fail (tm_g x) hst w1 ρ 0 sf se σ hM_w1 hw 1) k_X6_49 (by rw [hB.2.2.1]; exact ⟨Nat.le_of_ble_eq_true rfl, Nat.le_of_ble_eq_true rfl⟩) rfl (tm_rec2 hC hw1_ρ_0 rfl) rfl (by decide) dX6_piece_39 (fun v_39 w_39 hp_39 => ?_)
      obtain ⟨hf_39, rfl⟩ := hp_39
      obtain ⟨hm0_39, hm1_39, hm2_39, hm3_39, hm4_39, hm5_39, hm6_39, -⟩ := id hf_39
      show tm_V x (tm_H x w_39) 0 0 42 [(0, .ref (ρ 0)), (1, .int (I (b))), (2, .int (I (i))), (3, .int (I (w)))] [.int (I (0))]
      exact tm_iret hC hR dX6_piece_42 (⟨1, sf, se, 0, hf_39, rfl, Or.inr ⟨by omega, ks_17, hks_17, Or.inl ⟨by omega, rfl⟩⟩⟩)
    · refine tm_iload_n 3 hC dX6_piece_28 rfl rfl ?_
      refine tm_iconst hC dX6_piece_29 ?_
      refine tm_iconst hC dX6_piece_30 ?_
      refine tm_callS (b := 0) (n := 0) (rest := []) hC (c_M_isIn (tm_g x) hst _ w1 w 0 3 (by omega)) k_X6_42 (by rw [hB.2.2.1]; exact ⟨Nat.le_of_ble_eq_true rfl, Nat.le_of_ble_eq_true rfl⟩) rfl rfl (by decide) dX6_piece_31 (fun v_31 w_31 hp_31 => ?_)
      obtain ⟨rfl, rfl⟩ := hp_31
      show tm_V x (tm_H x w1) 0 0 34 [(0, .ref (ρ 0)), (1, .int (I (b))), (2, .int (I (i))), (3, .int (I (w)))] [.int (I (bi (0 ≤ w ∧ w ≤ 3)))]
      refine tm_ifb_ne 43 hC dX6_piece_34 (by decide) (fun c_34 => ?_) (fun c_34 => ?_)
      · refine tm_aload_n 0 hC dX6_piece_43 rfl rfl ?_
        refine tm_iload_n 1 hC dX6_piece_44 rfl rfl ?_
        refine tm_iconst hC dX6_piece_45 ?_
        refine tm_callV (b := 0) (n := 0) (rest := []) hC (c_M_pieceFrom (tm_g x) hst w1 ρ 0 sf se σ hM_w1 hw b (by omega) 0 (by omega)) k_X6_147 (by rw [hB.2.2.1]; exact ⟨Nat.le_of_ble_eq_true rfl, Nat.le_of_ble_eq_true rfl⟩) rfl (tm_rec2 hC hw1_ρ_0 rfl) rfl (by decide) dX6_piece_46 (fun v_46 w_46 hp_46 => ?_)
        obtain ⟨rfl, p_46, rfl, hpf_46, hpb_46⟩ := hp_46
        show tm_V x (tm_H x w1) 0 0 49 [(0, .ref (ρ 0)), (1, .int (I (b))), (2, .int (I (i))), (3, .int (I (w)))] [.int (I (p_46))]
        refine tm_istore [(4, .int (I (p_46))), (0, .ref (ρ 0)), (1, .int (I (b))), (2, .int (I (i))), (3, .int (I (w)))] hC dX6_piece_49 (by rw [hB.2.1]; exact Nat.le_of_ble_eq_true rfl) rfl ?_
        refine tm_iconst hC dX6_piece_51 ?_
        refine tm_istore [(5, .int (I (0))), (4, .int (I (p_46))), (0, .ref (ρ 0)), (1, .int (I (b))), (2, .int (I (i))), (3, .int (I (w)))] hC dX6_piece_52 (by rw [hB.2.1]; exact Nat.le_of_ble_eq_true rfl) rfl ?_
        have hL_54 : ∀ (fu : Nat) (fd : Int) (kn : Nat), ((kn : Int) ≤ i ∧ ks_17[kn]? = some fd) → ((i - kn).toNat) < fu → tm_V x (tm_H x w1) 0 0 54 [(0, .ref (ρ 0)), (1, .int (I (b))), (2, .int (I (i))), (3, .int (I (w))), (4, .int (I (fd))), (5, .int (I ((kn : Int))))] [] := by
          intro fu
          induction fu with
          | zero => intro fd kn hinv hm; exact absurd hm (Nat.not_lt_zero _)
          | succ fu ih_54 =>
            intro fd kn hinv_54 hm_54
            obtain ⟨hkn, hfd⟩ := hinv_54
            have hfm := Srt_mem hw ks_17 0 hks_17 kn fd hfd
            have hk9 := wf_k hw fd hfm.1
            refine tm_iload 5 hC dX6_piece_54 rfl ?_
            refine tm_iload_n 2 hC dX6_piece_56 rfl rfl ?_
            refine tm_icmp_ge 79 hC dX6_piece_57 (by decide) (by omega) (fun c_57 => ?_) (fun c_57 => ?_)
            · refine tm_aload_n 0 hC dX6_piece_79 rfl rfl ?_
              refine tm_iload 4 hC dX6_piece_80 rfl ?_
              refine tm_iload_n 3 hC dX6_piece_82 rfl rfl ?_
              refine tm_callV (b := 0) (n := 0) (rest := []) hC (c_M_told (tm_g x) hst w1 ρ 0 sf se σ hM_w1 hw fd w (by omega)) k_X6_150 (by rw [hB.2.2.1]; exact ⟨Nat.le_of_ble_eq_true rfl, Nat.le_of_ble_eq_true rfl⟩) rfl (tm_rec2 hC hw1_ρ_0 rfl) rfl (by decide) dX6_piece_83 (fun v_83 w_83 hp_83 => ?_)
              obtain ⟨rfl, rfl⟩ := hp_83
              show tm_V x (tm_H x w1) 0 0 86 [(0, .ref (ρ 0)), (1, .int (I (b))), (2, .int (I (i))), (3, .int (I (w))), (4, .int (I (fd))), (5, .int (I ((kn : Int))))] [.int (I (tellS σ fd w))]
              exact tm_iret hC hR dX6_piece_86 (⟨0, sf, se, (tellS σ fd w), hM_w1, rfl, Or.inr ⟨by omega, ks_17, hks_17, Or.inr ⟨by omega, rfl, fd, by rw [show i.toNat = kn by omega]; exact hfd, rfl⟩⟩⟩)
            · refine tm_aload_n 0 hC dX6_piece_60 rfl rfl ?_
              refine tm_iload_n 1 hC dX6_piece_61 rfl rfl ?_
              refine tm_aload_n 0 hC dX6_piece_62 rfl rfl ?_
              refine tm_iload 4 hC dX6_piece_63 rfl ?_
              refine tm_callV (b := 0) (n := 0) (rest := [.int (I (b)), .ref (ρ 0)]) hC (c_M_to (tm_g x) hst w1 ρ 0 sf se σ hM_w1 hw fd (by omega) ) k_X6_73 (by rw [hB.2.2.1]; exact ⟨Nat.le_of_ble_eq_true rfl, Nat.le_of_ble_eq_true rfl⟩) rfl (tm_rec2 hC hw1_ρ_0 rfl) rfl (by simp [Value.category]) dX6_piece_65 (fun v_65 w_65 hp_65 => ?_)
              obtain ⟨rfl, rfl, hb_65⟩ := hp_65
              show tm_V x (tm_H x w1) 0 0 68 [(0, .ref (ρ 0)), (1, .int (I (b))), (2, .int (I (i))), (3, .int (I (w))), (4, .int (I (fd))), (5, .int (I ((kn : Int))))] [.int (I (s_cu σ (4 * fd + 2))), .int (I (b)), .ref (ρ 0)]
              refine tm_callV (b := 0) (n := 0) (rest := []) hC (c_M_pieceFrom (tm_g x) hst w1 ρ 0 sf se σ hM_w1 hw b (by omega) (s_cu σ (4 * fd + 2)) (by omega)) k_X6_147 (by rw [hB.2.2.1]; exact ⟨Nat.le_of_ble_eq_true rfl, Nat.le_of_ble_eq_true rfl⟩) rfl (tm_rec2 hC hw1_ρ_0 rfl) rfl (by decide) dX6_piece_68 (fun v_68 w_68 hp_68 => ?_)
              obtain ⟨rfl, p_68, rfl, hpf_68, hpb_68⟩ := hp_68
              show tm_V x (tm_H x w1) 0 0 71 [(0, .ref (ρ 0)), (1, .int (I (b))), (2, .int (I (i))), (3, .int (I (w))), (4, .int (I (fd))), (5, .int (I ((kn : Int))))] [.int (I (p_68))]
              refine tm_istore [(4, .int (I (p_68))), (0, .ref (ρ 0)), (1, .int (I (b))), (2, .int (I (i))), (3, .int (I (w))), (5, .int (I ((kn : Int))))] hC dX6_piece_71 (by rw [hB.2.1]; exact Nat.le_of_ble_eq_true rfl) rfl ?_
              refine tm_iinc 5 [(5, .int (I ((kn : Int) + 1))), (4, .int (I (p_68))), (0, .ref (ρ 0)), (1, .int (I (b))), (2, .int (I (i))), (3, .int (I (w)))] hC dX6_piece_73 rfl (by rw [hB.2.1]; exact Nat.le_of_ble_eq_true rfl) rfl ?_
              refine tm_goto 54 hC dX6_piece_76 (by decide) ?_
              refine tm_sub (L' := [(0, .ref (ρ 0)), (1, .int (I (b))), (2, .int (I (i))), (3, .int (I (w))), (4, .int (I (p_68))), (5, .int (I ((kn : Int) + 1)))]) [2, 3, 4, 5, 1, 0] rfl ?_
              exact ih_54  p_68 (kn + 1) (⟨by omega, Srt_nx hw ks_17 0 hks_17 kn fd hfd (by omega) hpf_68⟩) (by omega)
        refine tm_sub (L' := [(0, .ref (ρ 0)), (1, .int (I (b))), (2, .int (I (i))), (3, .int (I (w))), (4, .int (I (p_46))), (5, .int (I (0)))]) [2, 3, 4, 5, 1, 0] rfl ?_
        exact hL_54 _ p_46 0 (⟨by omega, Srt_hd hw hks_17 (by omega) hpf_46⟩) (Nat.lt_succ_self _)
      · refine tm_aload_n 0 hC dX6_piece_37 rfl rfl ?_
        refine tm_iconst hC dX6_piece_38 ?_
        refine tm_callV (b := 0) (n := 0) (rest := []) hC (c_M_fail (tm_g x) hst w1 ρ 0 sf se σ hM_w1 hw 1) k_X6_49 (by rw [hB.2.2.1]; exact ⟨Nat.le_of_ble_eq_true rfl, Nat.le_of_ble_eq_true rfl⟩) rfl (tm_rec2 hC hw1_ρ_0 rfl) rfl (by decide) dX6_piece_39 (fun v_39 w_39 hp_39 => ?_)
        obtain ⟨hf_39, rfl⟩ := hp_39
        obtain ⟨hm0_39, hm1_39, hm2_39, hm3_39, hm4_39, hm5_39, hm6_39, -⟩ := id hf_39
        show tm_V x (tm_H x w_39) 0 0 42 [(0, .ref (ρ 0)), (1, .int (I (b))), (2, .int (I (i))), (3, .int (I (w)))] [.int (I (0))]
        exact tm_iret hC hR dX6_piece_42 (⟨1, sf, se, 0, hf_39, rfl, Or.inr ⟨by omega, ks_17, hks_17, Or.inl ⟨by omega, rfl⟩⟩⟩)

set_option maxHeartbeats 4000000 in
set_option maxRecDepth 100000 in
theorem c_M_cuts (γ : tmG) (hst : γ.1.stackTraces = false) (Λ : tmL) (ρ : Nat → Nat) (th sf se : Int) (σ : ST) (hM : RM γ.2.2.1 Λ ρ th sf se σ) (hw : WF0 σ) (b : Int) (hr : (-2147483648 ≤ b ∧ b ≤ 2147483647)) : tm_Con γ (tm_h2 γ.2.1 γ.2.2.1 γ.2.2.2.1) M_X6_cuts 4 0 0 [.ref (ρ 0), .int (I (b))] Λ (fun v w' => ∃ k sf' se' r, RM γ.2.2.1 w' ρ k sf' se' σ ∧ v = some (.int (I r)) ∧ Sp_cuts σ b k r) := by
  refine tm_con hst (by decide) (Nat.le_of_ble_eq_true rfl) (fun x hB hR => ?_)
  have hg := hB.1
  subst hg
  have hC : tm_C x cX6_cuts RX6 (some FieldType.int) := hB.2.2.2.1
  obtain ⟨hm0, hm1, hm2, hm3, hm4, hm5, hm6, hmd⟩ := id hM
  have hn := wf_n hw
  show tm_V x (tm_H x Λ) 0 0 0 [(0, .ref (ρ 0)), (1, .int (I (b)))] []
  refine tm_aload_n 0 hC dX6_cuts_0 rfl rfl ?_
  refine tm_iconst hC dX6_cuts_1 ?_
  refine tm_putf2 hC f_X6_36 hm0 (tt_7_0 _) (Nat.le_of_ble_eq_true rfl) dX6_cuts_2 ?_
  obtain ⟨w1, hw2⟩ : ∃ z, z = tm_u2 Λ (ρ 0) (.inr (7, [.int (I (0)), .int (I (s_nb σ)), .ref (ρ 1), .int (I (s_nd σ)), .ref (ρ 2), .int (I (s_np σ)), .ref (ρ 3), .ref (ρ 4), .int (I (s_sw σ)), .int (I (s_jt σ)), .int (I (s_nm σ)), .ref (ρ 5), .ref (ρ 6), .int (I (sf)), .int (I (se))])) := ⟨_, rfl⟩
  show tm_V x (tm_H x (tm_u2 Λ (ρ 0) (.inr (7, [.int (I (0)), .int (I (s_nb σ)), .ref (ρ 1), .int (I (s_nd σ)), .ref (ρ 2), .int (I (s_np σ)), .ref (ρ 3), .ref (ρ 4), .int (I (s_sw σ)), .int (I (s_jt σ)), .int (I (s_nm σ)), .ref (ρ 5), .ref (ρ 6), .int (I (sf)), .int (I (se))])))) 0 0 5 [(0, .ref (ρ 0)), (1, .int (I (b)))] []
  rw [← hw2]
  have hw1_ρ_0 : w1 (ρ 0) = some (.inl (.inr (7, [.int (I (0)), .int (I (s_nb σ)), .ref (ρ 1), .int (I (s_nd σ)), .ref (ρ 2), .int (I (s_np σ)), .ref (ρ 3), .ref (ρ 4), .int (I (s_sw σ)), .int (I (s_jt σ)), .int (I (s_nm σ)), .ref (ρ 5), .ref (ρ 6), .int (I (sf)), .int (I (se))]))) := by rw [hw2]; first | done | exact tm_u2_s
  have hw1_ρ_1 := (show w1 (ρ 1) = _ by rw [hw2]; exact tm_u2_n (fun z => absurd (hm0.symm.trans (z ▸ hm1)) (by intro q; cases q))).trans hm1
  have hw1_ρ_2 := (show w1 (ρ 2) = _ by rw [hw2]; exact tm_u2_n (fun z => absurd (hm0.symm.trans (z ▸ hm2)) (by intro q; cases q))).trans hm2
  have hw1_ρ_3 := (show w1 (ρ 3) = _ by rw [hw2]; exact tm_u2_n (fun z => absurd (hm0.symm.trans (z ▸ hm3)) (by intro q; cases q))).trans hm3
  have hw1_ρ_4 := (show w1 (ρ 4) = _ by rw [hw2]; exact tm_u2_n (fun z => absurd (hm0.symm.trans (z ▸ hm4)) (by intro q; cases q))).trans hm4
  have hw1_ρ_5 := (show w1 (ρ 5) = _ by rw [hw2]; exact tm_u2_n (fun z => absurd (hm0.symm.trans (z ▸ hm5)) (by intro q; cases q))).trans hm5
  have hw1_ρ_6 := (show w1 (ρ 6) = _ by rw [hw2]; exact tm_u2_n (fun z => absurd (hm0.symm.trans (z ▸ hm6)) (by intro q; cases q))).trans hm6
  have hM_w1 : RM (tm_T x) w1 ρ 0 sf se σ := ⟨hw1_ρ_0, hw1_ρ_1, hw1_ρ_2, hw1_ρ_3, hw1_ρ_4, hw1_ρ_5, hw1_ρ_6, hmd⟩
  refine tm_aload_n 0 hC dX6_cuts_5 rfl rfl ?_
  refine tm_iload_n 1 hC dX6_cuts_6 rfl rfl ?_
  refine tm_callV (b := 0) (n := 0) (rest := []) hC (c_M_isBoard (tm_g x) hst w1 ρ 0 sf se σ hM_w1 hw b (by omega) ) k_X6_53 (by rw [hB.2.2.1]; exact ⟨Nat.le_of_ble_eq_true rfl, Nat.le_of_ble_eq_true rfl⟩) rfl (tm_rec2 hC hw1_ρ_0 rfl) rfl (by decide) dX6_cuts_7 (fun v_7 w_7 hp_7 => ?_)
  obtain ⟨rfl, rfl⟩ := hp_7
  show tm_V x (tm_H x w1) 0 0 10 [(0, .ref (ρ 0)), (1, .int (I (b)))] [.int (I (bi (0 ≤ b ∧ b ≤ s_nb σ - 1)))]
  refine tm_ifb_ne 19 hC dX6_cuts_10 (by decide) (fun c_10 => ?_) (fun c_10 => ?_)
  · obtain ⟨ks0, hks0⟩ := Srt_ex hw b 3001 0 (by omega)
    have hkl0 := Srt_len hw ks0 0 (by omega) hks0
    have hb9 := wf_b hw b (by omega)
    refine tm_iconst hC dX6_cuts_19 ?_
    refine tm_istore_n [(2, .int (I (0))), (0, .ref (ρ 0)), (1, .int (I (b)))] hC dX6_cuts_20 rfl (by rw [hB.2.1]; exact Nat.le_of_ble_eq_true rfl) rfl ?_
    refine tm_iconst hC dX6_cuts_21 ?_
    refine tm_istore_n [(3, .int (I ((-1)))), (2, .int (I (0))), (0, .ref (ρ 0)), (1, .int (I (b)))] hC dX6_cuts_22 rfl (by rw [hB.2.1]; exact Nat.le_of_ble_eq_true rfl) rfl ?_
    refine tm_aload_n 2 hC dX6_cuts_23 rfl rfl ?_
    refine tm_iload_n 3 hC dX6_cuts_24 rfl rfl ?_
    refine tm_iconst hC dX6_cuts_25 ?_
    refine tm_callV (b := 0) (n := 0) (rest := []) hC (c_M_pieceFrom (tm_g x) hst w1 ρ 0 sf se σ hM_w1 hw b (by omega) 0 (by omega)) k_X6_147 (by rw [hB.2.2.1]; exact ⟨Nat.le_of_ble_eq_true rfl, Nat.le_of_ble_eq_true rfl⟩) rfl (tm_rec2 hC hw1_ρ_0 rfl) rfl (by decide) dX6_cuts_26 (fun v_26 w_26 hp_26 => ?_)
    obtain ⟨rfl, p_26, rfl, hpf_26, hpb_26⟩ := hp_26
    show tm_V x (tm_H x w1) 0 0 29 [(3, .int (I ((-1)))), (2, .int (I (0))), (0, .ref (ρ 0)), (1, .int (I (b)))] [.int (I (p_26))]
    refine tm_istore [(4, .int (I (p_26))), (3, .int (I ((-1)))), (2, .int (I (0))), (0, .ref (ρ 0)), (1, .int (I (b)))] hC dX6_cuts_29 (by rw [hB.2.1]; exact Nat.le_of_ble_eq_true rfl) rfl ?_
    have hL_31 : ∀ (fu : Nat) (mn : Int) (bf : Int) (p : Int) (ks : List Int) (pl : Int), (Srt σ b ks pl ∧ isPF σ b pl (s_nm σ) p ∧ (-1 ≤ p ∧ p < s_nm σ) ∧ (-1 ≤ bf ∧ bf < s_nm σ) ∧ mn + cutF σ b ks bf = cutF σ b ks0 (-1) ∧ 0 ≤ mn ∧ mn + 2 * (ks.length : Int) ≤ 6000) → (ks.length) < fu → tm_V x (tm_H x w1) 0 0 31 [(0, .ref (ρ 0)), (1, .int (I (b))), (2, .int (I (mn))), (3, .int (I (bf))), (4, .int (I (p)))] [] := by
      intro fu
      induction fu with
      | zero => intro mn bf p ks pl hinv hm; exact absurd hm (Nat.not_lt_zero _)
      | succ fu ih_31 =>
        intro mn bf p ks pl hinv_31 hm_31
        obtain ⟨hks, hpf, hpb, hbf, hct, hmn⟩ := hinv_31
        refine tm_iload 4 hC dX6_cuts_31 rfl ?_
        refine tm_iconst hC dX6_cuts_33 ?_
        refine tm_icmp_eq 109 hC dX6_cuts_34 (by decide) (by omega) (fun c_34 => ?_) (fun c_34 => ?_)
        · refine tm_iload_n 2 hC dX6_cuts_109 rfl rfl ?_
          exact tm_iret hC hR dX6_cuts_110 (⟨0, sf, se, mn, hM_w1, rfl, Or.inr ⟨by omega, rfl, ks0, hks0, by have e := Srt_n hw hks (c_34 ▸ hpf); subst e; have e2 : cutF σ b [] bf = 0 := rfl; omega⟩⟩)
        · obtain ⟨kq, rfl, hsq, hp9, hon, hpl9⟩ := Srt_c hw hks hpf c_34
          have hk9 := wf_k hw p hp9
          obtain ⟨u9, v9, hcf, hu9, hv9⟩ := cutF_c (σ := σ) (b := b) (k := p) (bf := bf) (ks := kq)
          have hlq : (p :: kq).length = kq.length + 1 := rfl
          refine tm_aload_n 0 hC dX6_cuts_37 rfl rfl ?_
          refine tm_iload 4 hC dX6_cuts_38 rfl ?_
          refine tm_callV (b := 0) (n := 0) (rest := []) hC (c_M_from (tm_g x) hst w1 ρ 0 sf se σ hM_w1 hw p (by omega) ) k_X6_70 (by rw [hB.2.2.1]; exact ⟨Nat.le_of_ble_eq_true rfl, Nat.le_of_ble_eq_true rfl⟩) rfl (tm_rec2 hC hw1_ρ_0 rfl) rfl (by decide) dX6_cuts_40 (fun v_40 w_40 hp_40 => ?_)
          obtain ⟨rfl, rfl, hb_40⟩ := hp_40
          show tm_V x (tm_H x w1) 0 0 43 [(0, .ref (ρ 0)), (1, .int (I (b))), (2, .int (I (mn))), (3, .int (I (bf))), (4, .int (I (p)))] [.int (I (s_cu σ (4 * p + 1)))]
          refine tm_if_le 73 hC dX6_cuts_43 (by decide) (by omega) (fun c_43 => ?_) (fun c_43 => ?_)
          · refine tm_aload_n 0 hC dX6_cuts_73 rfl rfl ?_
            refine tm_iload 4 hC dX6_cuts_74 rfl ?_
            refine tm_callV (b := 0) (n := 0) (rest := []) hC (c_M_to (tm_g x) hst w1 ρ 0 sf se σ hM_w1 hw p (by omega) ) k_X6_73 (by rw [hB.2.2.1]; exact ⟨Nat.le_of_ble_eq_true rfl, Nat.le_of_ble_eq_true rfl⟩) rfl (tm_rec2 hC hw1_ρ_0 rfl) rfl (by decide) dX6_cuts_76 (fun v_76 w_76 hp_76 => ?_)
            obtain ⟨rfl, rfl, hb_76⟩ := hp_76
            show tm_V x (tm_H x w1) 0 0 79 [(0, .ref (ρ 0)), (1, .int (I (b))), (2, .int (I (mn))), (3, .int (I (bf))), (4, .int (I (p)))] [.int (I (s_cu σ (4 * p + 2)))]
            refine tm_aload_n 0 hC dX6_cuts_79 rfl rfl ?_
            refine tm_iload_n 1 hC dX6_cuts_80 rfl rfl ?_
            refine tm_callV (b := 0) (n := 0) (rest := [.int (I (s_cu σ (4 * p + 2)))]) hC (c_M_length (tm_g x) hst w1 ρ 0 sf se σ hM_w1 hw b (by omega) ) k_X6_57 (by rw [hB.2.2.1]; exact ⟨Nat.le_of_ble_eq_true rfl, Nat.le_of_ble_eq_true rfl⟩) rfl (tm_rec2 hC hw1_ρ_0 rfl) rfl (by simp [Value.category]) dX6_cuts_81 (fun v_81 w_81 hp_81 => ?_)
            obtain ⟨rfl, rfl, hb_81⟩ := hp_81
            show tm_V x (tm_H x w1) 0 0 84 [(0, .ref (ρ 0)), (1, .int (I (b))), (2, .int (I (mn))), (3, .int (I (bf))), (4, .int (I (p)))] [.int (I (s_wo σ (3 * b))), .int (I (s_cu σ (4 * p + 2)))]
            refine tm_icmp_ge 90 hC dX6_cuts_84 (by decide) (by omega) (fun c_84 => ?_) (fun c_84 => ?_)
            · refine tm_iload 4 hC dX6_cuts_90 rfl ?_
              refine tm_istore_n [(3, .int (I (p))), (0, .ref (ρ 0)), (1, .int (I (b))), (2, .int (I (mn))), (4, .int (I (p)))] hC dX6_cuts_92 rfl (by rw [hB.2.1]; exact Nat.le_of_ble_eq_true rfl) rfl ?_
              refine tm_aload_n 1 hC dX6_cuts_93 rfl rfl ?_
              refine tm_iload_n 2 hC dX6_cuts_94 rfl rfl ?_
              refine tm_aload_n 1 hC dX6_cuts_95 rfl rfl ?_
              refine tm_iload 4 hC dX6_cuts_96 rfl ?_
              refine tm_callV (b := 0) (n := 0) (rest := [.int (I (b)), .ref (ρ 0)]) hC (c_M_to (tm_g x) hst w1 ρ 0 sf se σ hM_w1 hw p (by omega) ) k_X6_73 (by rw [hB.2.2.1]; exact ⟨Nat.le_of_ble_eq_true rfl, Nat.le_of_ble_eq_true rfl⟩) rfl (tm_rec2 hC hw1_ρ_0 rfl) rfl (by simp [Value.category]) dX6_cuts_98 (fun v_98 w_98 hp_98 => ?_)
              obtain ⟨rfl, rfl, hb_98⟩ := hp_98
              show tm_V x (tm_H x w1) 0 0 101 [(3, .int (I (p))), (0, .ref (ρ 0)), (1, .int (I (b))), (2, .int (I (mn))), (4, .int (I (p)))] [.int (I (s_cu σ (4 * p + 2))), .int (I (b)), .ref (ρ 0)]
              refine tm_callV (b := 0) (n := 0) (rest := []) hC (c_M_pieceFrom (tm_g x) hst w1 ρ 0 sf se σ hM_w1 hw b (by omega) (s_cu σ (4 * p + 2)) (by omega)) k_X6_147 (by rw [hB.2.2.1]; exact ⟨Nat.le_of_ble_eq_true rfl, Nat.le_of_ble_eq_true rfl⟩) rfl (tm_rec2 hC hw1_ρ_0 rfl) rfl (by decide) dX6_cuts_101 (fun v_101 w_101 hp_101 => ?_)
              obtain ⟨rfl, p_101, rfl, hpf_101, hpb_101⟩ := hp_101
              show tm_V x (tm_H x w1) 0 0 104 [(3, .int (I (p))), (0, .ref (ρ 0)), (1, .int (I (b))), (2, .int (I (mn))), (4, .int (I (p)))] [.int (I (p_101))]
              refine tm_istore [(4, .int (I (p_101))), (3, .int (I (p))), (0, .ref (ρ 0)), (1, .int (I (b))), (2, .int (I (mn)))] hC dX6_cuts_104 (by rw [hB.2.1]; exact Nat.le_of_ble_eq_true rfl) rfl ?_
              refine tm_goto 31 hC dX6_cuts_106 (by decide) ?_
              refine tm_sub (L' := [(0, .ref (ρ 0)), (1, .int (I (b))), (2, .int (I (mn))), (3, .int (I (p))), (4, .int (I (p_101)))]) [2, 3, 4, 1, 0] rfl ?_
              exact ih_31  mn p p_101 kq (s_cu σ (4 * p + 2)) (⟨hsq, hpf_101, by omega, by omega, by omega, by omega⟩) (by omega)
            · refine tm_iinc 2 [(2, .int (I (mn + 1))), (0, .ref (ρ 0)), (1, .int (I (b))), (3, .int (I (bf))), (4, .int (I (p)))] hC dX6_cuts_87 rfl (by rw [hB.2.1]; exact Nat.le_of_ble_eq_true rfl) rfl ?_
              refine tm_iload 4 hC dX6_cuts_90 rfl ?_
              refine tm_istore_n [(3, .int (I (p))), (2, .int (I (mn + 1))), (0, .ref (ρ 0)), (1, .int (I (b))), (4, .int (I (p)))] hC dX6_cuts_92 rfl (by rw [hB.2.1]; exact Nat.le_of_ble_eq_true rfl) rfl ?_
              refine tm_aload_n 2 hC dX6_cuts_93 rfl rfl ?_
              refine tm_iload_n 3 hC dX6_cuts_94 rfl rfl ?_
              refine tm_aload_n 2 hC dX6_cuts_95 rfl rfl ?_
              refine tm_iload 4 hC dX6_cuts_96 rfl ?_
              refine tm_callV (b := 0) (n := 0) (rest := [.int (I (b)), .ref (ρ 0)]) hC (c_M_to (tm_g x) hst w1 ρ 0 sf se σ hM_w1 hw p (by omega) ) k_X6_73 (by rw [hB.2.2.1]; exact ⟨Nat.le_of_ble_eq_true rfl, Nat.le_of_ble_eq_true rfl⟩) rfl (tm_rec2 hC hw1_ρ_0 rfl) rfl (by simp [Value.category]) dX6_cuts_98 (fun v_98 w_98 hp_98 => ?_)
              obtain ⟨rfl, rfl, hb_98⟩ := hp_98
              show tm_V x (tm_H x w1) 0 0 101 [(3, .int (I (p))), (2, .int (I (mn + 1))), (0, .ref (ρ 0)), (1, .int (I (b))), (4, .int (I (p)))] [.int (I (s_cu σ (4 * p + 2))), .int (I (b)), .ref (ρ 0)]
              refine tm_callV (b := 0) (n := 0) (rest := []) hC (c_M_pieceFrom (tm_g x) hst w1 ρ 0 sf se σ hM_w1 hw b (by omega) (s_cu σ (4 * p + 2)) (by omega)) k_X6_147 (by rw [hB.2.2.1]; exact ⟨Nat.le_of_ble_eq_true rfl, Nat.le_of_ble_eq_true rfl⟩) rfl (tm_rec2 hC hw1_ρ_0 rfl) rfl (by decide) dX6_cuts_101 (fun v_101 w_101 hp_101 => ?_)
              obtain ⟨rfl, p_101, rfl, hpf_101, hpb_101⟩ := hp_101
              show tm_V x (tm_H x w1) 0 0 104 [(3, .int (I (p))), (2, .int (I (mn + 1))), (0, .ref (ρ 0)), (1, .int (I (b))), (4, .int (I (p)))] [.int (I (p_101))]
              refine tm_istore [(4, .int (I (p_101))), (3, .int (I (p))), (2, .int (I (mn + 1))), (0, .ref (ρ 0)), (1, .int (I (b)))] hC dX6_cuts_104 (by rw [hB.2.1]; exact Nat.le_of_ble_eq_true rfl) rfl ?_
              refine tm_goto 31 hC dX6_cuts_106 (by decide) ?_
              refine tm_sub (L' := [(0, .ref (ρ 0)), (1, .int (I (b))), (2, .int (I (mn + 1))), (3, .int (I (p))), (4, .int (I (p_101)))]) [3, 4, 2, 1, 0] rfl ?_
              exact ih_31  (mn + 1) p p_101 kq (s_cu σ (4 * p + 2)) (⟨hsq, hpf_101, by omega, by omega, by omega, by omega⟩) (by omega)
          · refine tm_iload_n 3 hC dX6_cuts_46 rfl rfl ?_
            refine tm_iconst hC dX6_cuts_47 ?_
            refine tm_icmp_eq 70 hC dX6_cuts_48 (by decide) (by omega) (fun c_48 => ?_) (fun c_48 => ?_)
            · refine tm_iinc 2 [(2, .int (I (mn + 1))), (0, .ref (ρ 0)), (1, .int (I (b))), (3, .int (I (bf))), (4, .int (I (p)))] hC dX6_cuts_70 rfl (by rw [hB.2.1]; exact Nat.le_of_ble_eq_true rfl) rfl ?_
              refine tm_aload_n 1 hC dX6_cuts_73 rfl rfl ?_
              refine tm_iload 4 hC dX6_cuts_74 rfl ?_
              refine tm_callV (b := 0) (n := 0) (rest := []) hC (c_M_to (tm_g x) hst w1 ρ 0 sf se σ hM_w1 hw p (by omega) ) k_X6_73 (by rw [hB.2.2.1]; exact ⟨Nat.le_of_ble_eq_true rfl, Nat.le_of_ble_eq_true rfl⟩) rfl (tm_rec2 hC hw1_ρ_0 rfl) rfl (by decide) dX6_cuts_76 (fun v_76 w_76 hp_76 => ?_)
              obtain ⟨rfl, rfl, hb_76⟩ := hp_76
              show tm_V x (tm_H x w1) 0 0 79 [(2, .int (I (mn + 1))), (0, .ref (ρ 0)), (1, .int (I (b))), (3, .int (I (bf))), (4, .int (I (p)))] [.int (I (s_cu σ (4 * p + 2)))]
              refine tm_aload_n 1 hC dX6_cuts_79 rfl rfl ?_
              refine tm_iload_n 2 hC dX6_cuts_80 rfl rfl ?_
              refine tm_callV (b := 0) (n := 0) (rest := [.int (I (s_cu σ (4 * p + 2)))]) hC (c_M_length (tm_g x) hst w1 ρ 0 sf se σ hM_w1 hw b (by omega) ) k_X6_57 (by rw [hB.2.2.1]; exact ⟨Nat.le_of_ble_eq_true rfl, Nat.le_of_ble_eq_true rfl⟩) rfl (tm_rec2 hC hw1_ρ_0 rfl) rfl (by simp [Value.category]) dX6_cuts_81 (fun v_81 w_81 hp_81 => ?_)
              obtain ⟨rfl, rfl, hb_81⟩ := hp_81
              show tm_V x (tm_H x w1) 0 0 84 [(2, .int (I (mn + 1))), (0, .ref (ρ 0)), (1, .int (I (b))), (3, .int (I (bf))), (4, .int (I (p)))] [.int (I (s_wo σ (3 * b))), .int (I (s_cu σ (4 * p + 2)))]
              refine tm_icmp_ge 90 hC dX6_cuts_84 (by decide) (by omega) (fun c_84 => ?_) (fun c_84 => ?_)
              · refine tm_iload 4 hC dX6_cuts_90 rfl ?_
                refine tm_istore_n [(3, .int (I (p))), (2, .int (I (mn + 1))), (0, .ref (ρ 0)), (1, .int (I (b))), (4, .int (I (p)))] hC dX6_cuts_92 rfl (by rw [hB.2.1]; exact Nat.le_of_ble_eq_true rfl) rfl ?_
                refine tm_aload_n 2 hC dX6_cuts_93 rfl rfl ?_
                refine tm_iload_n 3 hC dX6_cuts_94 rfl rfl ?_
                refine tm_aload_n 2 hC dX6_cuts_95 rfl rfl ?_
                refine tm_iload 4 hC dX6_cuts_96 rfl ?_
                refine tm_callV (b := 0) (n := 0) (rest := [.int (I (b)), .ref (ρ 0)]) hC (c_M_to (tm_g x) hst w1 ρ 0 sf se σ hM_w1 hw p (by omega) ) k_X6_73 (by rw [hB.2.2.1]; exact ⟨Nat.le_of_ble_eq_true rfl, Nat.le_of_ble_eq_true rfl⟩) rfl (tm_rec2 hC hw1_ρ_0 rfl) rfl (by simp [Value.category]) dX6_cuts_98 (fun v_98 w_98 hp_98 => ?_)
                obtain ⟨rfl, rfl, hb_98⟩ := hp_98
                show tm_V x (tm_H x w1) 0 0 101 [(3, .int (I (p))), (2, .int (I (mn + 1))), (0, .ref (ρ 0)), (1, .int (I (b))), (4, .int (I (p)))] [.int (I (s_cu σ (4 * p + 2))), .int (I (b)), .ref (ρ 0)]
                refine tm_callV (b := 0) (n := 0) (rest := []) hC (c_M_pieceFrom (tm_g x) hst w1 ρ 0 sf se σ hM_w1 hw b (by omega) (s_cu σ (4 * p + 2)) (by omega)) k_X6_147 (by rw [hB.2.2.1]; exact ⟨Nat.le_of_ble_eq_true rfl, Nat.le_of_ble_eq_true rfl⟩) rfl (tm_rec2 hC hw1_ρ_0 rfl) rfl (by decide) dX6_cuts_101 (fun v_101 w_101 hp_101 => ?_)
                obtain ⟨rfl, p_101, rfl, hpf_101, hpb_101⟩ := hp_101
                show tm_V x (tm_H x w1) 0 0 104 [(3, .int (I (p))), (2, .int (I (mn + 1))), (0, .ref (ρ 0)), (1, .int (I (b))), (4, .int (I (p)))] [.int (I (p_101))]
                refine tm_istore [(4, .int (I (p_101))), (3, .int (I (p))), (2, .int (I (mn + 1))), (0, .ref (ρ 0)), (1, .int (I (b)))] hC dX6_cuts_104 (by rw [hB.2.1]; exact Nat.le_of_ble_eq_true rfl) rfl ?_
                refine tm_goto 31 hC dX6_cuts_106 (by decide) ?_
                refine tm_sub (L' := [(0, .ref (ρ 0)), (1, .int (I (b))), (2, .int (I (mn + 1))), (3, .int (I (p))), (4, .int (I (p_101)))]) [3, 4, 2, 1, 0] rfl ?_
                exact ih_31  (mn + 1) p p_101 kq (s_cu σ (4 * p + 2)) (⟨hsq, hpf_101, by omega, by omega, by omega, by omega⟩) (by omega)
              · refine tm_iinc 0 [(2, .int (I ((mn + 1) + 1))), (0, .ref (ρ 0)), (1, .int (I (b))), (3, .int (I (bf))), (4, .int (I (p)))] hC dX6_cuts_87 rfl (by rw [hB.2.1]; exact Nat.le_of_ble_eq_true rfl) rfl ?_
                refine tm_iload 4 hC dX6_cuts_90 rfl ?_
                refine tm_istore_n [(3, .int (I (p))), (2, .int (I ((mn + 1) + 1))), (0, .ref (ρ 0)), (1, .int (I (b))), (4, .int (I (p)))] hC dX6_cuts_92 rfl (by rw [hB.2.1]; exact Nat.le_of_ble_eq_true rfl) rfl ?_
                refine tm_aload_n 2 hC dX6_cuts_93 rfl rfl ?_
                refine tm_iload_n 3 hC dX6_cuts_94 rfl rfl ?_
                refine tm_aload_n 2 hC dX6_cuts_95 rfl rfl ?_
                refine tm_iload 4 hC dX6_cuts_96 rfl ?_
                refine tm_callV (b := 0) (n := 0) (rest := [.int (I (b)), .ref (ρ 0)]) hC (c_M_to (tm_g x) hst w1 ρ 0 sf se σ hM_w1 hw p (by omega) ) k_X6_73 (by rw [hB.2.2.1]; exact ⟨Nat.le_of_ble_eq_true rfl, Nat.le_of_ble_eq_true rfl⟩) rfl (tm_rec2 hC hw1_ρ_0 rfl) rfl (by simp [Value.category]) dX6_cuts_98 (fun v_98 w_98 hp_98 => ?_)
                obtain ⟨rfl, rfl, hb_98⟩ := hp_98
                show tm_V x (tm_H x w1) 0 0 101 [(3, .int (I (p))), (2, .int (I ((mn + 1) + 1))), (0, .ref (ρ 0)), (1, .int (I (b))), (4, .int (I (p)))] [.int (I (s_cu σ (4 * p + 2))), .int (I (b)), .ref (ρ 0)]
                refine tm_callV (b := 0) (n := 0) (rest := []) hC (c_M_pieceFrom (tm_g x) hst w1 ρ 0 sf se σ hM_w1 hw b (by omega) (s_cu σ (4 * p + 2)) (by omega)) k_X6_147 (by rw [hB.2.2.1]; exact ⟨Nat.le_of_ble_eq_true rfl, Nat.le_of_ble_eq_true rfl⟩) rfl (tm_rec2 hC hw1_ρ_0 rfl) rfl (by decide) dX6_cuts_101 (fun v_101 w_101 hp_101 => ?_)
                obtain ⟨rfl, p_101, rfl, hpf_101, hpb_101⟩ := hp_101
                show tm_V x (tm_H x w1) 0 0 104 [(3, .int (I (p))), (2, .int (I ((mn + 1) + 1))), (0, .ref (ρ 0)), (1, .int (I (b))), (4, .int (I (p)))] [.int (I (p_101))]
                refine tm_istore [(4, .int (I (p_101))), (3, .int (I (p))), (2, .int (I ((mn + 1) + 1))), (0, .ref (ρ 0)), (1, .int (I (b)))] hC dX6_cuts_104 (by rw [hB.2.1]; exact Nat.le_of_ble_eq_true rfl) rfl ?_
                refine tm_goto 31 hC dX6_cuts_106 (by decide) ?_
                refine tm_sub (L' := [(0, .ref (ρ 0)), (1, .int (I (b))), (2, .int (I ((mn + 1) + 1))), (3, .int (I (p))), (4, .int (I (p_101)))]) [3, 4, 2, 1, 0] rfl ?_
                exact ih_31  ((mn + 1) + 1) p p_101 kq (s_cu σ (4 * p + 2)) (⟨hsq, hpf_101, by omega, by omega, by omega, by omega⟩) (by omega)
            · have hbf9 := wf_k hw bf (by omega)
              refine tm_aload_n 0 hC dX6_cuts_51 rfl rfl ?_
              refine tm_iload 4 hC dX6_cuts_52 rfl ?_
              refine tm_callV (b := 0) (n := 0) (rest := []) hC (c_M_from (tm_g x) hst w1 ρ 0 sf se σ hM_w1 hw p (by omega) ) k_X6_70 (by rw [hB.2.2.1]; exact ⟨Nat.le_of_ble_eq_true rfl, Nat.le_of_ble_eq_true rfl⟩) rfl (tm_rec2 hC hw1_ρ_0 rfl) rfl (by decide) dX6_cuts_54 (fun v_54 w_54 hp_54 => ?_)
              obtain ⟨rfl, rfl, hb_54⟩ := hp_54
              show tm_V x (tm_H x w1) 0 0 57 [(0, .ref (ρ 0)), (1, .int (I (b))), (2, .int (I (mn))), (3, .int (I (bf))), (4, .int (I (p)))] [.int (I (s_cu σ (4 * p + 1)))]
              refine tm_aload_n 0 hC dX6_cuts_57 rfl rfl ?_
              refine tm_iload_n 3 hC dX6_cuts_58 rfl rfl ?_
              refine tm_callV (b := 0) (n := 0) (rest := [.int (I (s_cu σ (4 * p + 1)))]) hC (c_M_to (tm_g x) hst w1 ρ 0 sf se σ hM_w1 hw bf (by omega) ) k_X6_73 (by rw [hB.2.2.1]; exact ⟨Nat.le_of_ble_eq_true rfl, Nat.le_of_ble_eq_true rfl⟩) rfl (tm_rec2 hC hw1_ρ_0 rfl) rfl (by simp [Value.category]) dX6_cuts_59 (fun v_59 w_59 hp_59 => ?_)
              obtain ⟨rfl, rfl, hb_59⟩ := hp_59
              show tm_V x (tm_H x w1) 0 0 62 [(0, .ref (ρ 0)), (1, .int (I (b))), (2, .int (I (mn))), (3, .int (I (bf))), (4, .int (I (p)))] [.int (I (s_cu σ (4 * bf + 2))), .int (I (s_cu σ (4 * p + 1)))]
              refine tm_isub hC dX6_cuts_62 ?_
              refine tm_aload_n 0 hC dX6_cuts_63 rfl rfl ?_
              refine tm_getf2 hC f_X6_23 hw1_ρ_0 rfl dX6_cuts_64 ?_
              refine tm_icmp_eq 73 hC dX6_cuts_67 (by decide) (by omega) (fun c_67 => ?_) (fun c_67 => ?_)
              · refine tm_aload_n 0 hC dX6_cuts_73 rfl rfl ?_
                refine tm_iload 4 hC dX6_cuts_74 rfl ?_
                refine tm_callV (b := 0) (n := 0) (rest := []) hC (c_M_to (tm_g x) hst w1 ρ 0 sf se σ hM_w1 hw p (by omega) ) k_X6_73 (by rw [hB.2.2.1]; exact ⟨Nat.le_of_ble_eq_true rfl, Nat.le_of_ble_eq_true rfl⟩) rfl (tm_rec2 hC hw1_ρ_0 rfl) rfl (by decide) dX6_cuts_76 (fun v_76 w_76 hp_76 => ?_)
                obtain ⟨rfl, rfl, hb_76⟩ := hp_76
                show tm_V x (tm_H x w1) 0 0 79 [(0, .ref (ρ 0)), (1, .int (I (b))), (2, .int (I (mn))), (3, .int (I (bf))), (4, .int (I (p)))] [.int (I (s_cu σ (4 * p + 2)))]
                refine tm_aload_n 0 hC dX6_cuts_79 rfl rfl ?_
                refine tm_iload_n 1 hC dX6_cuts_80 rfl rfl ?_
                refine tm_callV (b := 0) (n := 0) (rest := [.int (I (s_cu σ (4 * p + 2)))]) hC (c_M_length (tm_g x) hst w1 ρ 0 sf se σ hM_w1 hw b (by omega) ) k_X6_57 (by rw [hB.2.2.1]; exact ⟨Nat.le_of_ble_eq_true rfl, Nat.le_of_ble_eq_true rfl⟩) rfl (tm_rec2 hC hw1_ρ_0 rfl) rfl (by simp [Value.category]) dX6_cuts_81 (fun v_81 w_81 hp_81 => ?_)
                obtain ⟨rfl, rfl, hb_81⟩ := hp_81
                show tm_V x (tm_H x w1) 0 0 84 [(0, .ref (ρ 0)), (1, .int (I (b))), (2, .int (I (mn))), (3, .int (I (bf))), (4, .int (I (p)))] [.int (I (s_wo σ (3 * b))), .int (I (s_cu σ (4 * p + 2)))]
                refine tm_icmp_ge 90 hC dX6_cuts_84 (by decide) (by omega) (fun c_84 => ?_) (fun c_84 => ?_)
                · refine tm_iload 4 hC dX6_cuts_90 rfl ?_
                  refine tm_istore_n [(3, .int (I (p))), (0, .ref (ρ 0)), (1, .int (I (b))), (2, .int (I (mn))), (4, .int (I (p)))] hC dX6_cuts_92 rfl (by rw [hB.2.1]; exact Nat.le_of_ble_eq_true rfl) rfl ?_
                  refine tm_aload_n 1 hC dX6_cuts_93 rfl rfl ?_
                  refine tm_iload_n 2 hC dX6_cuts_94 rfl rfl ?_
                  refine tm_aload_n 1 hC dX6_cuts_95 rfl rfl ?_
                  refine tm_iload 4 hC dX6_cuts_96 rfl ?_
                  refine tm_callV (b := 0) (n := 0) (rest := [.int (I (b)), .ref (ρ 0)]) hC (c_M_to (tm_g x) hst w1 ρ 0 sf se σ hM_w1 hw p (by omega) ) k_X6_73 (by rw [hB.2.2.1]; exact ⟨Nat.le_of_ble_eq_true rfl, Nat.le_of_ble_eq_true rfl⟩) rfl (tm_rec2 hC hw1_ρ_0 rfl) rfl (by simp [Value.category]) dX6_cuts_98 (fun v_98 w_98 hp_98 => ?_)
                  obtain ⟨rfl, rfl, hb_98⟩ := hp_98
                  show tm_V x (tm_H x w1) 0 0 101 [(3, .int (I (p))), (0, .ref (ρ 0)), (1, .int (I (b))), (2, .int (I (mn))), (4, .int (I (p)))] [.int (I (s_cu σ (4 * p + 2))), .int (I (b)), .ref (ρ 0)]
                  refine tm_callV (b := 0) (n := 0) (rest := []) hC (c_M_pieceFrom (tm_g x) hst w1 ρ 0 sf se σ hM_w1 hw b (by omega) (s_cu σ (4 * p + 2)) (by omega)) k_X6_147 (by rw [hB.2.2.1]; exact ⟨Nat.le_of_ble_eq_true rfl, Nat.le_of_ble_eq_true rfl⟩) rfl (tm_rec2 hC hw1_ρ_0 rfl) rfl (by decide) dX6_cuts_101 (fun v_101 w_101 hp_101 => ?_)
                  obtain ⟨rfl, p_101, rfl, hpf_101, hpb_101⟩ := hp_101
                  show tm_V x (tm_H x w1) 0 0 104 [(3, .int (I (p))), (0, .ref (ρ 0)), (1, .int (I (b))), (2, .int (I (mn))), (4, .int (I (p)))] [.int (I (p_101))]
                  refine tm_istore [(4, .int (I (p_101))), (3, .int (I (p))), (0, .ref (ρ 0)), (1, .int (I (b))), (2, .int (I (mn)))] hC dX6_cuts_104 (by rw [hB.2.1]; exact Nat.le_of_ble_eq_true rfl) rfl ?_
                  refine tm_goto 31 hC dX6_cuts_106 (by decide) ?_
                  refine tm_sub (L' := [(0, .ref (ρ 0)), (1, .int (I (b))), (2, .int (I (mn))), (3, .int (I (p))), (4, .int (I (p_101)))]) [2, 3, 4, 1, 0] rfl ?_
                  exact ih_31  mn p p_101 kq (s_cu σ (4 * p + 2)) (⟨hsq, hpf_101, by omega, by omega, by omega, by omega⟩) (by omega)
                · refine tm_iinc 2 [(2, .int (I (mn + 1))), (0, .ref (ρ 0)), (1, .int (I (b))), (3, .int (I (bf))), (4, .int (I (p)))] hC dX6_cuts_87 rfl (by rw [hB.2.1]; exact Nat.le_of_ble_eq_true rfl) rfl ?_
                  refine tm_iload 4 hC dX6_cuts_90 rfl ?_
                  refine tm_istore_n [(3, .int (I (p))), (2, .int (I (mn + 1))), (0, .ref (ρ 0)), (1, .int (I (b))), (4, .int (I (p)))] hC dX6_cuts_92 rfl (by rw [hB.2.1]; exact Nat.le_of_ble_eq_true rfl) rfl ?_
                  refine tm_aload_n 2 hC dX6_cuts_93 rfl rfl ?_
                  refine tm_iload_n 3 hC dX6_cuts_94 rfl rfl ?_
                  refine tm_aload_n 2 hC dX6_cuts_95 rfl rfl ?_
                  refine tm_iload 4 hC dX6_cuts_96 rfl ?_
                  refine tm_callV (b := 0) (n := 0) (rest := [.int (I (b)), .ref (ρ 0)]) hC (c_M_to (tm_g x) hst w1 ρ 0 sf se σ hM_w1 hw p (by omega) ) k_X6_73 (by rw [hB.2.2.1]; exact ⟨Nat.le_of_ble_eq_true rfl, Nat.le_of_ble_eq_true rfl⟩) rfl (tm_rec2 hC hw1_ρ_0 rfl) rfl (by simp [Value.category]) dX6_cuts_98 (fun v_98 w_98 hp_98 => ?_)
                  obtain ⟨rfl, rfl, hb_98⟩ := hp_98
                  show tm_V x (tm_H x w1) 0 0 101 [(3, .int (I (p))), (2, .int (I (mn + 1))), (0, .ref (ρ 0)), (1, .int (I (b))), (4, .int (I (p)))] [.int (I (s_cu σ (4 * p + 2))), .int (I (b)), .ref (ρ 0)]
                  refine tm_callV (b := 0) (n := 0) (rest := []) hC (c_M_pieceFrom (tm_g x) hst w1 ρ 0 sf se σ hM_w1 hw b (by omega) (s_cu σ (4 * p + 2)) (by omega)) k_X6_147 (by rw [hB.2.2.1]; exact ⟨Nat.le_of_ble_eq_true rfl, Nat.le_of_ble_eq_true rfl⟩) rfl (tm_rec2 hC hw1_ρ_0 rfl) rfl (by decide) dX6_cuts_101 (fun v_101 w_101 hp_101 => ?_)
                  obtain ⟨rfl, p_101, rfl, hpf_101, hpb_101⟩ := hp_101
                  show tm_V x (tm_H x w1) 0 0 104 [(3, .int (I (p))), (2, .int (I (mn + 1))), (0, .ref (ρ 0)), (1, .int (I (b))), (4, .int (I (p)))] [.int (I (p_101))]
                  refine tm_istore [(4, .int (I (p_101))), (3, .int (I (p))), (2, .int (I (mn + 1))), (0, .ref (ρ 0)), (1, .int (I (b)))] hC dX6_cuts_104 (by rw [hB.2.1]; exact Nat.le_of_ble_eq_true rfl) rfl ?_
                  refine tm_goto 31 hC dX6_cuts_106 (by decide) ?_
                  refine tm_sub (L' := [(0, .ref (ρ 0)), (1, .int (I (b))), (2, .int (I (mn + 1))), (3, .int (I (p))), (4, .int (I (p_101)))]) [3, 4, 2, 1, 0] rfl ?_
                  exact ih_31  (mn + 1) p p_101 kq (s_cu σ (4 * p + 2)) (⟨hsq, hpf_101, by omega, by omega, by omega, by omega⟩) (by omega)
              · refine tm_iinc 2 [(2, .int (I (mn + 1))), (0, .ref (ρ 0)), (1, .int (I (b))), (3, .int (I (bf))), (4, .int (I (p)))] hC dX6_cuts_70 rfl (by rw [hB.2.1]; exact Nat.le_of_ble_eq_true rfl) rfl ?_
                refine tm_aload_n 1 hC dX6_cuts_73 rfl rfl ?_
                refine tm_iload 4 hC dX6_cuts_74 rfl ?_
                refine tm_callV (b := 0) (n := 0) (rest := []) hC (c_M_to (tm_g x) hst w1 ρ 0 sf se σ hM_w1 hw p (by omega) ) k_X6_73 (by rw [hB.2.2.1]; exact ⟨Nat.le_of_ble_eq_true rfl, Nat.le_of_ble_eq_true rfl⟩) rfl (tm_rec2 hC hw1_ρ_0 rfl) rfl (by decide) dX6_cuts_76 (fun v_76 w_76 hp_76 => ?_)
                obtain ⟨rfl, rfl, hb_76⟩ := hp_76
                show tm_V x (tm_H x w1) 0 0 79 [(2, .int (I (mn + 1))), (0, .ref (ρ 0)), (1, .int (I (b))), (3, .int (I (bf))), (4, .int (I (p)))] [.int (I (s_cu σ (4 * p + 2)))]
                refine tm_aload_n 1 hC dX6_cuts_79 rfl rfl ?_
                refine tm_iload_n 2 hC dX6_cuts_80 rfl rfl ?_
                refine tm_callV (b := 0) (n := 0) (rest := [.int (I (s_cu σ (4 * p + 2)))]) hC (c_M_length (tm_g x) hst w1 ρ 0 sf se σ hM_w1 hw b (by omega) ) k_X6_57 (by rw [hB.2.2.1]; exact ⟨Nat.le_of_ble_eq_true rfl, Nat.le_of_ble_eq_true rfl⟩) rfl (tm_rec2 hC hw1_ρ_0 rfl) rfl (by simp [Value.category]) dX6_cuts_81 (fun v_81 w_81 hp_81 => ?_)
                obtain ⟨rfl, rfl, hb_81⟩ := hp_81
                show tm_V x (tm_H x w1) 0 0 84 [(2, .int (I (mn + 1))), (0, .ref (ρ 0)), (1, .int (I (b))), (3, .int (I (bf))), (4, .int (I (p)))] [.int (I (s_wo σ (3 * b))), .int (I (s_cu σ (4 * p + 2)))]
                refine tm_icmp_ge 90 hC dX6_cuts_84 (by decide) (by omega) (fun c_84 => ?_) (fun c_84 => ?_)
                · refine tm_iload 4 hC dX6_cuts_90 rfl ?_
                  refine tm_istore_n [(3, .int (I (p))), (2, .int (I (mn + 1))), (0, .ref (ρ 0)), (1, .int (I (b))), (4, .int (I (p)))] hC dX6_cuts_92 rfl (by rw [hB.2.1]; exact Nat.le_of_ble_eq_true rfl) rfl ?_
                  refine tm_aload_n 2 hC dX6_cuts_93 rfl rfl ?_
                  refine tm_iload_n 3 hC dX6_cuts_94 rfl rfl ?_
                  refine tm_aload_n 2 hC dX6_cuts_95 rfl rfl ?_
                  refine tm_iload 4 hC dX6_cuts_96 rfl ?_
                  refine tm_callV (b := 0) (n := 0) (rest := [.int (I (b)), .ref (ρ 0)]) hC (c_M_to (tm_g x) hst w1 ρ 0 sf se σ hM_w1 hw p (by omega) ) k_X6_73 (by rw [hB.2.2.1]; exact ⟨Nat.le_of_ble_eq_true rfl, Nat.le_of_ble_eq_true rfl⟩) rfl (tm_rec2 hC hw1_ρ_0 rfl) rfl (by simp [Value.category]) dX6_cuts_98 (fun v_98 w_98 hp_98 => ?_)
                  obtain ⟨rfl, rfl, hb_98⟩ := hp_98
                  show tm_V x (tm_H x w1) 0 0 101 [(3, .int (I (p))), (2, .int (I (mn + 1))), (0, .ref (ρ 0)), (1, .int (I (b))), (4, .int (I (p)))] [.int (I (s_cu σ (4 * p + 2))), .int (I (b)), .ref (ρ 0)]
                  refine tm_callV (b := 0) (n := 0) (rest := []) hC (c_M_pieceFrom (tm_g x) hst w1 ρ 0 sf se σ hM_w1 hw b (by omega) (s_cu σ (4 * p + 2)) (by omega)) k_X6_147 (by rw [hB.2.2.1]; exact ⟨Nat.le_of_ble_eq_true rfl, Nat.le_of_ble_eq_true rfl⟩) rfl (tm_rec2 hC hw1_ρ_0 rfl) rfl (by decide) dX6_cuts_101 (fun v_101 w_101 hp_101 => ?_)
                  obtain ⟨rfl, p_101, rfl, hpf_101, hpb_101⟩ := hp_101
                  show tm_V x (tm_H x w1) 0 0 104 [(3, .int (I (p))), (2, .int (I (mn + 1))), (0, .ref (ρ 0)), (1, .int (I (b))), (4, .int (I (p)))] [.int (I (p_101))]
                  refine tm_istore [(4, .int (I (p_101))), (3, .int (I (p))), (2, .int (I (mn + 1))), (0, .ref (ρ 0)), (1, .int (I (b)))] hC dX6_cuts_104 (by rw [hB.2.1]; exact Nat.le_of_ble_eq_true rfl) rfl ?_
                  refine tm_goto 31 hC dX6_cuts_106 (by decide) ?_
                  refine tm_sub (L' := [(0, .ref (ρ 0)), (1, .int (I (b))), (2, .int (I (mn + 1))), (3, .int (I (p))), (4, .int (I (p_101)))]) [3, 4, 2, 1, 0] rfl ?_
                  exact ih_31  (mn + 1) p p_101 kq (s_cu σ (4 * p + 2)) (⟨hsq, hpf_101, by omega, by omega, by omega, by omega⟩) (by omega)
                · refine tm_iinc 0 [(2, .int (I ((mn + 1) + 1))), (0, .ref (ρ 0)), (1, .int (I (b))), (3, .int (I (bf))), (4, .int (I (p)))] hC dX6_cuts_87 rfl (by rw [hB.2.1]; exact Nat.le_of_ble_eq_true rfl) rfl ?_
                  refine tm_iload 4 hC dX6_cuts_90 rfl ?_
                  refine tm_istore_n [(3, .int (I (p))), (2, .int (I ((mn + 1) + 1))), (0, .ref (ρ 0)), (1, .int (I (b))), (4, .int (I (p)))] hC dX6_cuts_92 rfl (by rw [hB.2.1]; exact Nat.le_of_ble_eq_true rfl) rfl ?_
                  refine tm_aload_n 2 hC dX6_cuts_93 rfl rfl ?_
                  refine tm_iload_n 3 hC dX6_cuts_94 rfl rfl ?_
                  refine tm_aload_n 2 hC dX6_cuts_95 rfl rfl ?_
                  refine tm_iload 4 hC dX6_cuts_96 rfl ?_
                  refine tm_callV (b := 0) (n := 0) (rest := [.int (I (b)), .ref (ρ 0)]) hC (c_M_to (tm_g x) hst w1 ρ 0 sf se σ hM_w1 hw p (by omega) ) k_X6_73 (by rw [hB.2.2.1]; exact ⟨Nat.le_of_ble_eq_true rfl, Nat.le_of_ble_eq_true rfl⟩) rfl (tm_rec2 hC hw1_ρ_0 rfl) rfl (by simp [Value.category]) dX6_cuts_98 (fun v_98 w_98 hp_98 => ?_)
                  obtain ⟨rfl, rfl, hb_98⟩ := hp_98
                  show tm_V x (tm_H x w1) 0 0 101 [(3, .int (I (p))), (2, .int (I ((mn + 1) + 1))), (0, .ref (ρ 0)), (1, .int (I (b))), (4, .int (I (p)))] [.int (I (s_cu σ (4 * p + 2))), .int (I (b)), .ref (ρ 0)]
                  refine tm_callV (b := 0) (n := 0) (rest := []) hC (c_M_pieceFrom (tm_g x) hst w1 ρ 0 sf se σ hM_w1 hw b (by omega) (s_cu σ (4 * p + 2)) (by omega)) k_X6_147 (by rw [hB.2.2.1]; exact ⟨Nat.le_of_ble_eq_true rfl, Nat.le_of_ble_eq_true rfl⟩) rfl (tm_rec2 hC hw1_ρ_0 rfl) rfl (by decide) dX6_cuts_101 (fun v_101 w_101 hp_101 => ?_)
                  obtain ⟨rfl, p_101, rfl, hpf_101, hpb_101⟩ := hp_101
                  show tm_V x (tm_H x w1) 0 0 104 [(3, .int (I (p))), (2, .int (I ((mn + 1) + 1))), (0, .ref (ρ 0)), (1, .int (I (b))), (4, .int (I (p)))] [.int (I (p_101))]
                  refine tm_istore [(4, .int (I (p_101))), (3, .int (I (p))), (2, .int (I ((mn + 1) + 1))), (0, .ref (ρ 0)), (1, .int (I (b)))] hC dX6_cuts_104 (by rw [hB.2.1]; exact Nat.le_of_ble_eq_true rfl) rfl ?_
                  refine tm_goto 31 hC dX6_cuts_106 (by decide) ?_
                  refine tm_sub (L' := [(0, .ref (ρ 0)), (1, .int (I (b))), (2, .int (I ((mn + 1) + 1))), (3, .int (I (p))), (4, .int (I (p_101)))]) [3, 4, 2, 1, 0] rfl ?_
                  exact ih_31  ((mn + 1) + 1) p p_101 kq (s_cu σ (4 * p + 2)) (⟨hsq, hpf_101, by omega, by omega, by omega, by omega⟩) (by omega)
    refine tm_sub (L' := [(0, .ref (ρ 0)), (1, .int (I (b))), (2, .int (I (0))), (3, .int (I ((-1)))), (4, .int (I (p_26)))]) [3, 4, 2, 1, 0] rfl ?_
    exact hL_31 _ 0 (-1) p_26 ks0 0 (⟨hks0, hpf_26, by omega, by omega, by omega, by omega⟩) (Nat.lt_succ_self _)
  · refine tm_aload_n 0 hC dX6_cuts_13 rfl rfl ?_
    refine tm_iconst hC dX6_cuts_14 ?_
    refine tm_callV (b := 0) (n := 0) (rest := []) hC (c_M_fail (tm_g x) hst w1 ρ 0 sf se σ hM_w1 hw 1) k_X6_49 (by rw [hB.2.2.1]; exact ⟨Nat.le_of_ble_eq_true rfl, Nat.le_of_ble_eq_true rfl⟩) rfl (tm_rec2 hC hw1_ρ_0 rfl) rfl (by decide) dX6_cuts_15 (fun v_15 w_15 hp_15 => ?_)
    obtain ⟨hf_15, rfl⟩ := hp_15
    obtain ⟨hm0_15, hm1_15, hm2_15, hm3_15, hm4_15, hm5_15, hm6_15, -⟩ := id hf_15
    show tm_V x (tm_H x w_15) 0 0 18 [(0, .ref (ρ 0)), (1, .int (I (b)))] [.int (I (0))]
    exact tm_iret hC hR dX6_cuts_18 (⟨1, sf, se, 0, hf_15, rfl, Or.inl ⟨by omega, rfl⟩⟩)

set_option maxHeartbeats 4000000 in
set_option maxRecDepth 100000 in
theorem c_M_longestRoom (γ : tmG) (hst : γ.1.stackTraces = false) (Λ : tmL) (ρ : Nat → Nat) (th sf se : Int) (σ : ST) (hM : RM γ.2.2.1 Λ ρ th sf se σ) (hw : WF0 σ) (b : Int) (hr : (-2147483648 ≤ b ∧ b ≤ 2147483647)) : tm_Con γ (tm_h2 γ.2.1 γ.2.2.1 γ.2.2.2.1) M_X6_longestRoom 4 0 0 [.ref (ρ 0), .int (I (b))] Λ (fun v w' => ∃ k sf' se' r, RM γ.2.2.1 w' ρ k sf' se' σ ∧ v = some (.int (I r)) ∧ Sp_longest σ b k r) := by
  refine tm_con hst (by decide) (Nat.le_of_ble_eq_true rfl) (fun x hB hR => ?_)
  have hg := hB.1
  subst hg
  have hC : tm_C x cX6_longestRoom RX6 (some FieldType.int) := hB.2.2.2.1
  obtain ⟨hm0, hm1, hm2, hm3, hm4, hm5, hm6, hmd⟩ := id hM
  have hn := wf_n hw
  show tm_V x (tm_H x Λ) 0 0 0 [(0, .ref (ρ 0)), (1, .int (I (b)))] []
  refine tm_aload_n 0 hC dX6_longestRoom_0 rfl rfl ?_
  refine tm_iconst hC dX6_longestRoom_1 ?_
  refine tm_putf2 hC f_X6_36 hm0 (tt_7_0 _) (Nat.le_of_ble_eq_true rfl) dX6_longestRoom_2 ?_
  obtain ⟨w1, hw2⟩ : ∃ z, z = tm_u2 Λ (ρ 0) (.inr (7, [.int (I (0)), .int (I (s_nb σ)), .ref (ρ 1), .int (I (s_nd σ)), .ref (ρ 2), .int (I (s_np σ)), .ref (ρ 3), .ref (ρ 4), .int (I (s_sw σ)), .int (I (s_jt σ)), .int (I (s_nm σ)), .ref (ρ 5), .ref (ρ 6), .int (I (sf)), .int (I (se))])) := ⟨_, rfl⟩
  show tm_V x (tm_H x (tm_u2 Λ (ρ 0) (.inr (7, [.int (I (0)), .int (I (s_nb σ)), .ref (ρ 1), .int (I (s_nd σ)), .ref (ρ 2), .int (I (s_np σ)), .ref (ρ 3), .ref (ρ 4), .int (I (s_sw σ)), .int (I (s_jt σ)), .int (I (s_nm σ)), .ref (ρ 5), .ref (ρ 6), .int (I (sf)), .int (I (se))])))) 0 0 5 [(0, .ref (ρ 0)), (1, .int (I (b)))] []
  rw [← hw2]
  have hw1_ρ_0 : w1 (ρ 0) = some (.inl (.inr (7, [.int (I (0)), .int (I (s_nb σ)), .ref (ρ 1), .int (I (s_nd σ)), .ref (ρ 2), .int (I (s_np σ)), .ref (ρ 3), .ref (ρ 4), .int (I (s_sw σ)), .int (I (s_jt σ)), .int (I (s_nm σ)), .ref (ρ 5), .ref (ρ 6), .int (I (sf)), .int (I (se))]))) := by rw [hw2]; first | done | exact tm_u2_s
  have hw1_ρ_1 := (show w1 (ρ 1) = _ by rw [hw2]; exact tm_u2_n (fun z => absurd (hm0.symm.trans (z ▸ hm1)) (by intro q; cases q))).trans hm1
  have hw1_ρ_2 := (show w1 (ρ 2) = _ by rw [hw2]; exact tm_u2_n (fun z => absurd (hm0.symm.trans (z ▸ hm2)) (by intro q; cases q))).trans hm2
  have hw1_ρ_3 := (show w1 (ρ 3) = _ by rw [hw2]; exact tm_u2_n (fun z => absurd (hm0.symm.trans (z ▸ hm3)) (by intro q; cases q))).trans hm3
  have hw1_ρ_4 := (show w1 (ρ 4) = _ by rw [hw2]; exact tm_u2_n (fun z => absurd (hm0.symm.trans (z ▸ hm4)) (by intro q; cases q))).trans hm4
  have hw1_ρ_5 := (show w1 (ρ 5) = _ by rw [hw2]; exact tm_u2_n (fun z => absurd (hm0.symm.trans (z ▸ hm5)) (by intro q; cases q))).trans hm5
  have hw1_ρ_6 := (show w1 (ρ 6) = _ by rw [hw2]; exact tm_u2_n (fun z => absurd (hm0.symm.trans (z ▸ hm6)) (by intro q; cases q))).trans hm6
  have hM_w1 : RM (tm_T x) w1 ρ 0 sf se σ := ⟨hw1_ρ_0, hw1_ρ_1, hw1_ρ_2, hw1_ρ_3, hw1_ρ_4, hw1_ρ_5, hw1_ρ_6, hmd⟩
  refine tm_aload_n 0 hC dX6_longestRoom_5 rfl rfl ?_
  refine tm_iload_n 1 hC dX6_longestRoom_6 rfl rfl ?_
  refine tm_callV (b := 0) (n := 0) (rest := []) hC (c_M_isBoard (tm_g x) hst w1 ρ 0 sf se σ hM_w1 hw b (by omega) ) k_X6_53 (by rw [hB.2.2.1]; exact ⟨Nat.le_of_ble_eq_true rfl, Nat.le_of_ble_eq_true rfl⟩) rfl (tm_rec2 hC hw1_ρ_0 rfl) rfl (by decide) dX6_longestRoom_7 (fun v_7 w_7 hp_7 => ?_)
  obtain ⟨rfl, rfl⟩ := hp_7
  show tm_V x (tm_H x w1) 0 0 10 [(0, .ref (ρ 0)), (1, .int (I (b)))] [.int (I (bi (0 ≤ b ∧ b ≤ s_nb σ - 1)))]
  refine tm_ifb_ne 19 hC dX6_longestRoom_10 (by decide) (fun c_10 => ?_) (fun c_10 => ?_)
  · obtain ⟨ks0, hks0⟩ := Srt_ex hw b 3001 0 (by omega)
    have hb9 := wf_b hw b (by omega)
    refine tm_iconst hC dX6_longestRoom_19 ?_
    refine tm_istore_n [(2, .int (I (0))), (0, .ref (ρ 0)), (1, .int (I (b)))] hC dX6_longestRoom_20 rfl (by rw [hB.2.1]; exact Nat.le_of_ble_eq_true rfl) rfl ?_
    refine tm_iconst hC dX6_longestRoom_21 ?_
    refine tm_istore_n [(3, .int (I (0))), (2, .int (I (0))), (0, .ref (ρ 0)), (1, .int (I (b)))] hC dX6_longestRoom_22 rfl (by rw [hB.2.1]; exact Nat.le_of_ble_eq_true rfl) rfl ?_
    refine tm_aload_n 2 hC dX6_longestRoom_23 rfl rfl ?_
    refine tm_iload_n 3 hC dX6_longestRoom_24 rfl rfl ?_
    refine tm_iconst hC dX6_longestRoom_25 ?_
    refine tm_callV (b := 0) (n := 0) (rest := []) hC (c_M_pieceFrom (tm_g x) hst w1 ρ 0 sf se σ hM_w1 hw b (by omega) 0 (by omega)) k_X6_147 (by rw [hB.2.2.1]; exact ⟨Nat.le_of_ble_eq_true rfl, Nat.le_of_ble_eq_true rfl⟩) rfl (tm_rec2 hC hw1_ρ_0 rfl) rfl (by decide) dX6_longestRoom_26 (fun v_26 w_26 hp_26 => ?_)
    obtain ⟨rfl, p_26, rfl, hpf_26, hpb_26⟩ := hp_26
    show tm_V x (tm_H x w1) 0 0 29 [(3, .int (I (0))), (2, .int (I (0))), (0, .ref (ρ 0)), (1, .int (I (b)))] [.int (I (p_26))]
    refine tm_istore [(4, .int (I (p_26))), (3, .int (I (0))), (2, .int (I (0))), (0, .ref (ρ 0)), (1, .int (I (b)))] hC dX6_longestRoom_29 (by rw [hB.2.1]; exact Nat.le_of_ble_eq_true rfl) rfl ?_
    have hL_31 : ∀ (fu : Nat) (lg : Int) (fr : Int) (p : Int) (ks : List Int) (pl : Int), (Srt σ b ks pl ∧ isPF σ b pl (s_nm σ) p ∧ (-1 ≤ p ∧ p < s_nm σ) ∧ lngF σ b ks lg fr = lngF σ b ks0 0 0 ∧ (0 ≤ lg ∧ lg ≤ 3000) ∧ 0 ≤ fr ∧ fr ≤ 3010) → (ks.length) < fu → tm_V x (tm_H x w1) 0 0 31 [(0, .ref (ρ 0)), (1, .int (I (b))), (2, .int (I (lg))), (3, .int (I (fr))), (4, .int (I (p)))] [] := by
      intro fu
      induction fu with
      | zero => intro lg fr p ks pl hinv hm; exact absurd hm (Nat.not_lt_zero _)
      | succ fu ih_31 =>
        intro lg fr p ks pl hinv_31 hm_31
        obtain ⟨hks, hpf, hpb, hct, hlg, hfr⟩ := hinv_31
        refine tm_iload 4 hC dX6_longestRoom_31 rfl ?_
        refine tm_iconst hC dX6_longestRoom_33 ?_
        refine tm_icmp_eq 83 hC dX6_longestRoom_34 (by decide) (by omega) (fun c_34 => ?_) (fun c_34 => ?_)
        · refine tm_iload_n 2 hC dX6_longestRoom_83 rfl rfl ?_
          refine tm_aload_n 0 hC dX6_longestRoom_84 rfl rfl ?_
          refine tm_iload_n 1 hC dX6_longestRoom_85 rfl rfl ?_
          refine tm_callV (b := 0) (n := 0) (rest := [.int (I (lg))]) hC (c_M_length (tm_g x) hst w1 ρ 0 sf se σ hM_w1 hw b (by omega) ) k_X6_57 (by rw [hB.2.2.1]; exact ⟨Nat.le_of_ble_eq_true rfl, Nat.le_of_ble_eq_true rfl⟩) rfl (tm_rec2 hC hw1_ρ_0 rfl) rfl (by simp [Value.category]) dX6_longestRoom_86 (fun v_86 w_86 hp_86 => ?_)
          obtain ⟨rfl, rfl, hb_86⟩ := hp_86
          show tm_V x (tm_H x w1) 0 0 89 [(0, .ref (ρ 0)), (1, .int (I (b))), (2, .int (I (lg))), (3, .int (I (fr))), (4, .int (I (p)))] [.int (I (s_wo σ (3 * b))), .int (I (lg))]
          refine tm_iload_n 3 hC dX6_longestRoom_89 rfl rfl ?_
          refine tm_isub hC dX6_longestRoom_90 ?_
          refine tm_mm hC true x_X6_83 (by omega) (by rw [hB.2.2.1]; exact ⟨Nat.le_of_ble_eq_true rfl, Nat.le_of_ble_eq_true rfl⟩) ((by decide)) dX6_longestRoom_91 ?_
          show tm_V x (tm_H x w1) 0 0 94 [(0, .ref (ρ 0)), (1, .int (I (b))), (2, .int (I (lg))), (3, .int (I (fr))), (4, .int (I (p)))] [.int (I (max lg ((s_wo σ (3 * b)) - fr)))]
          exact tm_iret hC hR dX6_longestRoom_94 (⟨0, sf, se, (max lg ((s_wo σ (3 * b)) - fr)), hM_w1, rfl, Or.inr ⟨by omega, rfl, ks0, hks0, by have e := Srt_n hw hks (c_34 ▸ hpf); subst e; exact hct⟩⟩)
        · obtain ⟨kq, rfl, hsq, hp9, hon, hpl9⟩ := Srt_c hw hks hpf c_34
          have hk9 := wf_k hw p hp9
          have hlq : (p :: kq).length = kq.length + 1 := rfl
          refine tm_iload_n 2 hC dX6_longestRoom_37 rfl rfl ?_
          refine tm_aload_n 0 hC dX6_longestRoom_38 rfl rfl ?_
          refine tm_iload 4 hC dX6_longestRoom_39 rfl ?_
          refine tm_callV (b := 0) (n := 0) (rest := [.int (I (lg))]) hC (c_M_from (tm_g x) hst w1 ρ 0 sf se σ hM_w1 hw p (by omega) ) k_X6_70 (by rw [hB.2.2.1]; exact ⟨Nat.le_of_ble_eq_true rfl, Nat.le_of_ble_eq_true rfl⟩) rfl (tm_rec2 hC hw1_ρ_0 rfl) rfl (by simp [Value.category]) dX6_longestRoom_41 (fun v_41 w_41 hp_41 => ?_)
          obtain ⟨rfl, rfl, hb_41⟩ := hp_41
          show tm_V x (tm_H x w1) 0 0 44 [(0, .ref (ρ 0)), (1, .int (I (b))), (2, .int (I (lg))), (3, .int (I (fr))), (4, .int (I (p)))] [.int (I (s_cu σ (4 * p + 1))), .int (I (lg))]
          refine tm_aload_n 0 hC dX6_longestRoom_44 rfl rfl ?_
          refine tm_getf2 hC f_X6_23 hw1_ρ_0 rfl dX6_longestRoom_45 ?_
          refine tm_isub hC dX6_longestRoom_48 ?_
          refine tm_iload_n 3 hC dX6_longestRoom_49 rfl rfl ?_
          refine tm_isub hC dX6_longestRoom_50 ?_
          refine tm_mm hC true x_X6_83 (by omega) (by rw [hB.2.2.1]; exact ⟨Nat.le_of_ble_eq_true rfl, Nat.le_of_ble_eq_true rfl⟩) ((by decide)) dX6_longestRoom_51 ?_
          show tm_V x (tm_H x w1) 0 0 54 [(0, .ref (ρ 0)), (1, .int (I (b))), (2, .int (I (lg))), (3, .int (I (fr))), (4, .int (I (p)))] [.int (I (max lg (((s_cu σ (4 * p + 1)) - (s_sw σ)) - fr)))]
          refine tm_istore_n [(2, .int (I (max lg (((s_cu σ (4 * p + 1)) - (s_sw σ)) - fr)))), (0, .ref (ρ 0)), (1, .int (I (b))), (3, .int (I (fr))), (4, .int (I (p)))] hC dX6_longestRoom_54 rfl (by rw [hB.2.1]; exact Nat.le_of_ble_eq_true rfl) rfl ?_
          refine tm_aload_n 1 hC dX6_longestRoom_55 rfl rfl ?_
          refine tm_iload 4 hC dX6_longestRoom_56 rfl ?_
          refine tm_callV (b := 0) (n := 0) (rest := []) hC (c_M_to (tm_g x) hst w1 ρ 0 sf se σ hM_w1 hw p (by omega) ) k_X6_73 (by rw [hB.2.2.1]; exact ⟨Nat.le_of_ble_eq_true rfl, Nat.le_of_ble_eq_true rfl⟩) rfl (tm_rec2 hC hw1_ρ_0 rfl) rfl (by decide) dX6_longestRoom_58 (fun v_58 w_58 hp_58 => ?_)
          obtain ⟨rfl, rfl, hb_58⟩ := hp_58
          show tm_V x (tm_H x w1) 0 0 61 [(2, .int (I (max lg (((s_cu σ (4 * p + 1)) - (s_sw σ)) - fr)))), (0, .ref (ρ 0)), (1, .int (I (b))), (3, .int (I (fr))), (4, .int (I (p)))] [.int (I (s_cu σ (4 * p + 2)))]
          refine tm_aload_n 1 hC dX6_longestRoom_61 rfl rfl ?_
          refine tm_getf2 hC f_X6_23 hw1_ρ_0 rfl dX6_longestRoom_62 ?_
          refine tm_iadd hC dX6_longestRoom_65 ?_
          refine tm_istore_n [(3, .int (I ((s_cu σ (4 * p + 2)) + (s_sw σ)))), (2, .int (I (max lg (((s_cu σ (4 * p + 1)) - (s_sw σ)) - fr)))), (0, .ref (ρ 0)), (1, .int (I (b))), (4, .int (I (p)))] hC dX6_longestRoom_66 rfl (by rw [hB.2.1]; exact Nat.le_of_ble_eq_true rfl) rfl ?_
          refine tm_aload_n 2 hC dX6_longestRoom_67 rfl rfl ?_
          refine tm_iload_n 3 hC dX6_longestRoom_68 rfl rfl ?_
          refine tm_aload_n 2 hC dX6_longestRoom_69 rfl rfl ?_
          refine tm_iload 4 hC dX6_longestRoom_70 rfl ?_
          refine tm_callV (b := 0) (n := 0) (rest := [.int (I (b)), .ref (ρ 0)]) hC (c_M_to (tm_g x) hst w1 ρ 0 sf se σ hM_w1 hw p (by omega) ) k_X6_73 (by rw [hB.2.2.1]; exact ⟨Nat.le_of_ble_eq_true rfl, Nat.le_of_ble_eq_true rfl⟩) rfl (tm_rec2 hC hw1_ρ_0 rfl) rfl (by simp [Value.category]) dX6_longestRoom_72 (fun v_72 w_72 hp_72 => ?_)
          obtain ⟨rfl, rfl, hb_72⟩ := hp_72
          show tm_V x (tm_H x w1) 0 0 75 [(3, .int (I ((s_cu σ (4 * p + 2)) + (s_sw σ)))), (2, .int (I (max lg (((s_cu σ (4 * p + 1)) - (s_sw σ)) - fr)))), (0, .ref (ρ 0)), (1, .int (I (b))), (4, .int (I (p)))] [.int (I (s_cu σ (4 * p + 2))), .int (I (b)), .ref (ρ 0)]
          refine tm_callV (b := 0) (n := 0) (rest := []) hC (c_M_pieceFrom (tm_g x) hst w1 ρ 0 sf se σ hM_w1 hw b (by omega) (s_cu σ (4 * p + 2)) (by omega)) k_X6_147 (by rw [hB.2.2.1]; exact ⟨Nat.le_of_ble_eq_true rfl, Nat.le_of_ble_eq_true rfl⟩) rfl (tm_rec2 hC hw1_ρ_0 rfl) rfl (by decide) dX6_longestRoom_75 (fun v_75 w_75 hp_75 => ?_)
          obtain ⟨rfl, p_75, rfl, hpf_75, hpb_75⟩ := hp_75
          show tm_V x (tm_H x w1) 0 0 78 [(3, .int (I ((s_cu σ (4 * p + 2)) + (s_sw σ)))), (2, .int (I (max lg (((s_cu σ (4 * p + 1)) - (s_sw σ)) - fr)))), (0, .ref (ρ 0)), (1, .int (I (b))), (4, .int (I (p)))] [.int (I (p_75))]
          refine tm_istore [(4, .int (I (p_75))), (3, .int (I ((s_cu σ (4 * p + 2)) + (s_sw σ)))), (2, .int (I (max lg (((s_cu σ (4 * p + 1)) - (s_sw σ)) - fr)))), (0, .ref (ρ 0)), (1, .int (I (b)))] hC dX6_longestRoom_78 (by rw [hB.2.1]; exact Nat.le_of_ble_eq_true rfl) rfl ?_
          refine tm_goto 31 hC dX6_longestRoom_80 (by decide) ?_
          refine tm_sub (L' := [(0, .ref (ρ 0)), (1, .int (I (b))), (2, .int (I (max lg (((s_cu σ (4 * p + 1)) - (s_sw σ)) - fr)))), (3, .int (I ((s_cu σ (4 * p + 2)) + (s_sw σ)))), (4, .int (I (p_75)))]) [3, 4, 2, 1, 0] rfl ?_
          exact ih_31  (max lg (((s_cu σ (4 * p + 1)) - (s_sw σ)) - fr)) ((s_cu σ (4 * p + 2)) + (s_sw σ)) p_75 kq (s_cu σ (4 * p + 2)) (⟨hsq, hpf_75, by omega, hct, by omega, by omega⟩) (by omega)
    refine tm_sub (L' := [(0, .ref (ρ 0)), (1, .int (I (b))), (2, .int (I (0))), (3, .int (I (0))), (4, .int (I (p_26)))]) [3, 4, 2, 1, 0] rfl ?_
    exact hL_31 _ 0 0 p_26 ks0 0 (⟨hks0, hpf_26, by omega, rfl, by omega, by omega⟩) (Nat.lt_succ_self _)
  · refine tm_aload_n 0 hC dX6_longestRoom_13 rfl rfl ?_
    refine tm_iconst hC dX6_longestRoom_14 ?_
    refine tm_callV (b := 0) (n := 0) (rest := []) hC (c_M_fail (tm_g x) hst w1 ρ 0 sf se σ hM_w1 hw 1) k_X6_49 (by rw [hB.2.2.1]; exact ⟨Nat.le_of_ble_eq_true rfl, Nat.le_of_ble_eq_true rfl⟩) rfl (tm_rec2 hC hw1_ρ_0 rfl) rfl (by decide) dX6_longestRoom_15 (fun v_15 w_15 hp_15 => ?_)
    obtain ⟨hf_15, rfl⟩ := hp_15
    obtain ⟨hm0_15, hm1_15, hm2_15, hm3_15, hm4_15, hm5_15, hm6_15, -⟩ := id hf_15
    show tm_V x (tm_H x w_15) 0 0 18 [(0, .ref (ρ 0)), (1, .int (I (b)))] [.int (I (0))]
    exact tm_iret hC hR dX6_longestRoom_18 (⟨1, sf, se, 0, hf_15, rfl, Or.inl ⟨by omega, rfl⟩⟩)
