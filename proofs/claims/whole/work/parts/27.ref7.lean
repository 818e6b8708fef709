/-! digest -/
def dg1 (σ : ST) : Int64 := (((8339 + (I (s_sw σ)).toInt64) * 31 + (I (s_jt σ)).toInt64) * 31 + (I (s_nd σ)).toInt64) * 31 + (I (s_np σ)).toInt64
def dgA (σ : ST) : Nat → Int64
  | 0 => dg1 σ
  | n + 1 => dgA σ n * 31 + (I (s_wa σ (4 * (n : Int) + 3))).toInt64
def dg2 (σ : ST) : Int64 := dgA σ (s_np σ).toNat * 31 + (I (s_nb σ)).toInt64
def dgW (σ : ST) (p : Int) (d : Int64) : Nat → Int64
  | 0 => d
  | n + 1 => dgW σ p d n * 31 + (I (tellS σ p (n : Int))).toInt64
def dgP (σ : ST) : List Int → Int64 → Int64
  | [], d => d
  | p :: ks, d => dgP σ ks (dgW σ p d 4)
def dgB (σ : ST) : Nat → Int64 → Prop
  | 0, d => d = dg2 σ
  | n + 1, d => ∃ e ks, dgB σ n e ∧ Srt σ (n : Int) ks 0 ∧ d = dgP σ ks (e * 31 + (I (ks.length : Int)).toInt64)
theorem dgB_u {σ : ST} (hw : WF0 σ) : ∀ (n : Nat) {d e : Int64}, dgB σ n d → dgB σ n e → d = e := by
  intro n
  induction n with
  | zero => intro d e h h'; exact h.trans h'.symm
  | succ n ih =>
    intro d e h h'
    obtain ⟨d1, ks, h1, h2, h3⟩ := h
    obtain ⟨e1, kq, g1, g2, g3⟩ := h'
    have e1 := ih h1 g1
    subst e1
    rw [h3, g3, Srt_u hw ks kq 0 h2 g2]
/-! bestUse -/
def knP (t ln rm : Int) (f : Int → Int) (r : Int) : Int → Int := fun j => if r < j ∧ t ≤ j ∧ j ≤ rm then max (f j) (f (j - t) + ln) else f j
def knS (t ln rm : Int) (f : Int → Int) : Int → Int := knP t ln rm f (-1)
def knI (t ln rm : Int) (f : Int → Int) : Nat → Int → Int
  | 0 => f
  | n + 1 => knS t ln rm (knI t ln rm f n)
def knN (σ : ST) (b g rm : Int) : Nat → Int → Int
  | 0 => fun _ => 0
  | n + 1 => if s_wa σ (4 * (n : Int) + 1) ≤ s_wo σ (3 * b + 1) ∧ g ≤ s_wa σ (4 * (n : Int) + 2) then knI (s_wa σ (4 * (n : Int) + 0) + s_sw σ) (s_wa σ (4 * (n : Int) + 0)) rm (knN σ b g rm n) (s_wa σ (4 * (n : Int) + 3)).toNat else knN σ b g rm n
theorem knN_0 {σ : ST} {b g rm : Int} {n : Nat} (h : ¬ (s_wa σ (4 * (n : Int) + 1) ≤ s_wo σ (3 * b + 1) ∧ g ≤ s_wa σ (4 * (n : Int) + 2))) : knN σ b g rm (n + 1) = knN σ b g rm n := if_neg h
theorem knN_1 {σ : ST} {b g rm : Int} {n : Nat} (h : s_wa σ (4 * (n : Int) + 1) ≤ s_wo σ (3 * b + 1) ∧ g ≤ s_wa σ (4 * (n : Int) + 2)) : knN σ b g rm (n + 1) = knI (s_wa σ (4 * (n : Int) + 0) + s_sw σ) (s_wa σ (4 * (n : Int) + 0)) rm (knN σ b g rm n) (s_wa σ (4 * (n : Int) + 3)).toNat := if_pos h
theorem knP_0 {t ln rm : Int} {f : Int → Int} : knP t ln rm f rm = f := by
  funext j
  exact if_neg (by omega)
theorem knP_e {t ln rm r : Int} {f : Int → Int} (h0 : 1 ≤ t) (h : r < t) (h2 : -1 ≤ r) : knP t ln rm f r = knS t ln rm f := by
  funext j
  show (if r < j ∧ t ≤ j ∧ j ≤ rm then max (f j) (f (j - t) + ln) else f j) = (if -1 < j ∧ t ≤ j ∧ j ≤ rm then max (f j) (f (j - t) + ln) else f j)
  exact if_cgr (by omega)
theorem knP_s {t ln rm r : Int} {f : Int → Int} (h0 : 1 ≤ t) (h1 : t ≤ r) (h2 : r ≤ rm) : tm_ui (knP t ln rm f r) r (max (knP t ln rm f r r) (knP t ln rm f r (r - t) + ln)) = knP t ln rm f (r + (-1)) := by
  have e1 : knP t ln rm f r r = f r := if_neg (by omega)
  have e2 : knP t ln rm f r (r - t) = f (r - t) := if_neg (by omega)
  rw [e1, e2]
  funext j
  by_cases e : j = r
  · subst e; rw [tm_ui_s]; exact (if_pos (by omega)).symm
  · rw [tm_ui_n e]
    show (if r < j ∧ t ≤ j ∧ j ≤ rm then max (f j) (f (j - t) + ln) else f j) = (if r + (-1) < j ∧ t ≤ j ∧ j ≤ rm then max (f j) (f (j - t) + ln) else f j)
    exact if_cgr (by omega)
def knB (f : Int → Int) : Prop := ∀ j, 0 ≤ j → 0 ≤ f j ∧ f j ≤ j
theorem knP_b {t ln rm r : Int} {f : Int → Int} (h : knB f) (h0 : 0 ≤ ln) (h1 : ln ≤ t) : knB (knP t ln rm f r) := by
  intro j hj
  show 0 ≤ (if r < j ∧ t ≤ j ∧ j ≤ rm then max (f j) (f (j - t) + ln) else f j) ∧ (if r < j ∧ t ≤ j ∧ j ≤ rm then max (f j) (f (j - t) + ln) else f j) ≤ j
  have a1 := h j hj
  by_cases e : r < j ∧ t ≤ j ∧ j ≤ rm
  · rw [if_pos e]
    have a2 := h (j - t) (by omega)
    omega
  · rw [if_neg e]; exact a1
theorem knI_b {t ln rm : Int} {f : Int → Int} (h : knB f) (h0 : 0 ≤ ln) (h1 : ln ≤ t) : ∀ n : Nat, knB (knI t ln rm f n) := by
  intro n
  induction n with
  | zero => exact h
  | succ n ih => exact knP_b ih h0 h1
theorem knN_b {σ : ST} (hw : WF0 σ) {b g rm : Int} : ∀ n : Nat, (n : Int) ≤ s_np σ → knB (knN σ b g rm n) := by
  intro n
  induction n with
  | zero => intro _ j hj; exact ⟨Int.le_refl _, hj⟩
  | succ n ih =>
    intro hn
    have hp9 := wf_p hw n (by omega)
    have hn9 := wf_n hw
    by_cases e : s_wa σ (4 * (n : Int) + 1) ≤ s_wo σ (3 * b + 1) ∧ g ≤ s_wa σ (4 * (n : Int) + 2)
    · rw [knN_1 e]; exact knI_b (ih (by omega)) (by omega) (by omega) _
    · rw [knN_0 e]; exact ih (by omega)
def Sp_best (σ : ST) (b g l k r : Int) : Prop := (¬ (0 ≤ b ∧ b < s_nb σ) ∧ k = 1) ∨ ((0 ≤ b ∧ b < s_nb σ) ∧ ¬ ((0 ≤ g ∧ g ≤ 3) ∧ 0 ≤ l ∧ l ≤ 3000) ∧ k = 2) ∨ ((0 ≤ b ∧ b < s_nb σ) ∧ ((0 ≤ g ∧ g ≤ 3) ∧ 0 ≤ l ∧ l ≤ 3000) ∧ k = 0 ∧ r = knN σ b g (l + s_sw σ) (s_np σ).toNat (l + s_sw σ))
/-! used -/
def usC (σ : ST) (k : Int) : Int := (s_cu σ (4 * k + 2) - s_cu σ (4 * k + 1)) * s_wa σ (4 * s_cu σ (4 * k + 3) + 1)
def usR (σ : ST) : Nat → Int → Int → Prop
  | 0, a, p => a = 0 ∧ p = 0
  | n + 1, a, p => ∃ a0 p0 ks, usR σ n a0 p0 ∧ Srt σ (n : Int) ks 0 ∧ ((ks = [] ∧ a = a0 ∧ p = p0) ∨ (ks ≠ [] ∧ a = a0 + s_wo σ (3 * (n : Int)) * s_wo σ (3 * (n : Int) + 1) ∧ p = p0 + lsum (usC σ) ks))
def Sp_used (σ : ST) (r : UInt64) : Prop := ∃ a p, usR σ (s_nb σ).toNat a p ∧ r = usV a p
theorem usR_u {σ : ST} (hw : WF0 σ) : ∀ (n : Nat) {a p a' p' : Int}, usR σ n a p → usR σ n a' p' → a = a' ∧ p = p' := by
  intro n
  induction n with
  | zero => intro a p a' p' h h'; exact ⟨h.1.trans h'.1.symm, h.2.trans h'.2.symm⟩
  | succ n ih =>
    intro a p a' p' h h'
    obtain ⟨a0, p0, ks, h1, h2, h3⟩ := h
    obtain ⟨b0, q0, kq, g1, g2, g3⟩ := h'
    obtain ⟨e1, e2⟩ := ih h1 g1
    have e3 := Srt_u hw ks kq 0 h2 g2
    subst e1 e2 e3
    rcases h3 with h3 | h3 <;> rcases g3 with g3 | g3
    · exact ⟨h3.2.1.trans g3.2.1.symm, h3.2.2.trans g3.2.2.symm⟩
    · exact absurd h3.1 g3.1
    · exact absurd g3.1 h3.1
    · exact ⟨h3.2.1.trans g3.2.1.symm, h3.2.2.trans g3.2.2.symm⟩
theorem usL {σ : ST} (hw : WF0 σ) {b : Int} : ∀ (ks : List Int) (pl : Int), pl ≤ 3000 → Srt σ b ks pl → 0 ≤ lsum (usC σ) ks ∧ lsum (usC σ) ks ≤ (3000 - pl) * 400 := by
  intro ks
  induction ks with
  | nil => intro pl h _; exact ⟨Int.le_refl _, by show (0 : Int) ≤ _; omega⟩
  | cons k r ih =>
    intro pl h hs
    obtain ⟨kq, e, h3, h4, h5, h6⟩ := Srt_c hw hs hs.2.1 (by have := hs.1; omega)
    have hk := wf_k hw k h4
    have hp := wf_p hw (s_cu σ (4 * k + 3)) (by omega)
    have i1 := ih _ (by omega) hs.2.2
    have m1 : 0 ≤ usC σ k := Int.mul_nonneg (by omega) (by omega)
    have m2 : usC σ k ≤ (s_cu σ (4 * k + 2) - s_cu σ (4 * k + 1)) * 400 := Int.mul_le_mul_of_nonneg_left (by omega) (by omega)
    show 0 ≤ usC σ k + lsum (usC σ) r ∧ usC σ k + lsum (usC σ) r ≤ (3000 - pl) * 400
    omega
theorem usB {σ : ST} (hw : WF0 σ) {b : Int} (hb : 0 ≤ b ∧ b < s_nb σ) : 1000 ≤ s_wo σ (3 * b) * s_wo σ (3 * b + 1) ∧ s_wo σ (3 * b) * s_wo σ (3 * b + 1) ≤ 1200000 := by
  have h := wf_b hw b hb
  have m1 : s_wo σ (3 * b) * s_wo σ (3 * b + 1) ≤ s_wo σ (3 * b) * 400 := Int.mul_le_mul_of_nonneg_left (by omega) (by omega)
  have m2 : s_wo σ (3 * b) * 10 ≤ s_wo σ (3 * b) * s_wo σ (3 * b + 1) := Int.mul_le_mul_of_nonneg_left (by omega) (by omega)
  omega
theorem usR_b {σ : ST} (hw : WF0 σ) : ∀ (n : Nat) {a p : Int}, (n : Int) ≤ s_nb σ → usR σ n a p → 0 ≤ a ∧ a ≤ 1200000 * n ∧ 0 ≤ p ∧ p ≤ 1200000 * n := by
  intro n
  induction n with
  | zero => intro a p _ h; have h1 := h.1; have h2 := h.2; omega
  | succ n ih =>
    intro a p hn h
    obtain ⟨a0, p0, ks, h1, h2, h3⟩ := h
    have i1 := ih (by omega) h1
    have i2 := usL hw ks 0 (by omega) h2
    have i3 := usB hw (b := n) (by omega)
    rcases h3 with h3 | h3
    · have := h3.2.1; have := h3.2.2; omega
    · have := h3.2.1; have := h3.2.2; omega
def lcZ (u v : Int) : Int := if v < u then 1 else if u = v then 0 else -1
theorem lcZ_b (u v : Int) : (-2147483648 ≤ lcZ u v ∧ lcZ u v ≤ 2147483647) := by
  unfold lcZ
  by_cases h : v < u
  · rw [if_pos h]; omega
  · rw [if_neg h]
    by_cases h2 : u = v
    · rw [if_pos h2]; omega
    · rw [if_neg h2]; omega
theorem lcZ_e {u v : Int} : lcZ u v = 0 ↔ u = v := by
  unfold lcZ
  by_cases h : v < u
  · rw [if_pos h]; omega
  · rw [if_neg h]
    by_cases h2 : u = v
    · rw [if_pos h2]; omega
    · rw [if_neg h2]; omega
theorem n64Z {p a : Int} (hp : 0 ≤ p ∧ p ≤ 1000000000) (ha : 0 ≤ a ∧ a ≤ 1000000000) (h0 : ¬ a = 0) : vf_n64 (FP.ddiv (FP.l2d (L64 p)) (FP.l2d (L64 a))) := by
  have h1 := FP.Core.toNat_l2d (L64 p)
  have h2 := FP.Core.toNat_l2d (L64 a)
  rw [L64_toInt (by omega)] at h1 h2
  exact tm_n64 h1 h2 (by omega) (by omega) h0
section
variable {x : tmX} {cc : ByteArray} {own : String} {ret : Option FieldType} {G : Heap → Prop} {b n pc : Nat} {L L' : List (Nat × Value)} {st : List Value}
theorem tm_lconstZ (hC : tm_C x cc own ret) (hd : decode cc pc = .ok (.lconst 0, 1)) (k : tm_V x G b n (pc + 1) L (.long (L64 (0)) :: st)) : tm_V x G b n pc L st := tm_lconst (w := 0) hC hd rfl k
theorem tm_i2lZ {u : Int} (hC : tm_C x cc own ret) (h : -2147483648 ≤ u ∧ u ≤ 2147483647) (hd : decode cc pc = .ok (.i2l, 1)) (k : tm_V x G b n (pc + 1) L (.long (L64 u) :: st)) : tm_V x G b n pc L (.int (I u) :: st) := tm_i2l hC hd (by rw [I_L64 h]; exact k)
theorem tm_laddZ {u v : Int} (hC : tm_C x cc own ret) (hd : decode cc pc = .ok (.ladd, 1)) (k : tm_V x G b n (pc + 1) L (.long (L64 (u + v)) :: st)) : tm_V x G b n pc L (.long (L64 v) :: .long (L64 u) :: st) := tm_ladd hC hd (by rw [L64_add]; exact k)
theorem tm_lmulZ {u v : Int} (hC : tm_C x cc own ret) (hd : decode cc pc = .ok (.lmul, 1)) (k : tm_V x G b n (pc + 1) L (.long (L64 (u * v)) :: st)) : tm_V x G b n pc L (.long (L64 v) :: .long (L64 u) :: st) := tm_lmul hC hd (by rw [L64_mul]; exact k)
theorem tm_lcmp {u v : Int64} (hC : tm_C x cc own ret) (hd : decode cc pc = .ok (.lcmp, 1)) (k : tm_V x G b n (pc + 1) L (.int (if u > v then 1 else if u == v then 0 else -1) :: st)) : tm_V x G b n pc L (.long v :: .long u :: st) := by
  intro H locs ls cells slots h1 h2 hS hG hl
  have hexec := hC.1
  have hb := hC.2.1
  intro T hT X
  obtain ⟨t, a, b⟩ := k H locs ls cells slots h1 h2 hS hG hl T hT X
  refine ⟨t, ?_, b⟩
  by_cases e1 : u > v
  · rw [if_pos e1] at a
    jvm_step X.here [X.here.top, hexec, hb, hd, Op.lcmp.sem, e1]
    exact a
  · by_cases e2 : u = v
    · rw [if_neg e1, if_pos (beq_iff_eq.mpr e2)] at a
      jvm_step X.here [X.here.top, hexec, hb, hd, Op.lcmp.sem, e1, e2]
      exact a
    · rw [if_neg e1, if_neg (fun z => e2 (beq_iff_eq.mp z))] at a
      jvm_step X.here [X.here.top, hexec, hb, hd, Op.lcmp.sem, e1, e2]
      exact a
theorem tm_lcmpZ {u v : Int} (hC : tm_C x cc own ret) (h : (-1000000000000 ≤ u ∧ u ≤ 1000000000000) ∧ -1000000000000 ≤ v ∧ v ≤ 1000000000000) (hd : decode cc pc = .ok (.lcmp, 1)) (k : tm_V x G b n (pc + 1) L (.int (I (lcZ u v)) :: st)) : tm_V x G b n pc L (.long (L64 v) :: .long (L64 u) :: st) := by
  refine tm_lcmp hC hd ?_
  have e1 : (L64 u > L64 v) ↔ v < u := by
    show L64 v < L64 u ↔ _
    rw [Int64.lt_iff_toInt_lt, L64_toInt (by omega), L64_toInt (by omega)]
  have e2 : (L64 u == L64 v) = true ↔ u = v := by
    rw [beq_iff_eq, ← Int64.toInt_inj, L64_toInt (by omega), L64_toInt (by omega)]
  have e3 : (if L64 u > L64 v then (1 : Int32) else if L64 u == L64 v then 0 else -1) = I (lcZ u v) := by
    unfold lcZ
    by_cases h1 : v < u
    · rw [if_pos (e1.mpr h1), if_pos h1]; rfl
    · rw [if_neg (fun z => h1 (e1.mp z)), if_neg h1]
      by_cases h2 : u = v
      · rw [if_pos (e2.mpr h2), if_pos h2]; rfl
      · rw [if_neg (fun z => h2 (e2.mp z)), if_neg h2]; rfl
  rw [e3]
  exact k
end

set_option maxHeartbeats 4000000 in
set_option maxRecDepth 100000 in
theorem c_M_digest (γ : tmG) (hst : γ.1.stackTraces = false) (Λ : tmL) (ρ : Nat → Nat) (th sf se : Int) (σ : ST) (hM : RM γ.2.2.1 Λ ρ th sf se σ) (hw : WF0 σ) : tm_Con γ (tm_h2 γ.2.1 γ.2.2.1 γ.2.2.2.1) M_X6_digest 4 0 0 [.ref (ρ 0)] Λ (fun v w' => ∃ r, RM γ.2.2.1 w' ρ 0 sf se σ ∧ v = some (.long r) ∧ dgB σ (s_nb σ).toNat r) := by
  refine tm_con hst (by decide) (Nat.le_of_ble_eq_true rfl) (fun x hB hR => ?_)
  have hg := hB.1
  subst hg
  have hC : tm_C x cX6_digest RX6 (some FieldType.long) := hB.2.2.2.1
  obtain ⟨hm0, hm1, hm2, hm3, hm4, hm5, hm6, hmd⟩ := id hM
  have hn := wf_n hw
  show tm_V x (tm_H x Λ) 0 0 0 [(0, .ref (ρ 0))] []
  refine tm_aload_n 0 hC dX6_digest_0 rfl rfl ?_
  refine tm_iconst hC dX6_digest_1 ?_
  refine tm_putf2 hC f_X6_36 hm0 (tt_7_0 _) (Nat.le_of_ble_eq_true rfl) dX6_digest_2 ?_
  obtain ⟨w1, hw2⟩ : ∃ z, z = tm_u2 Λ (ρ 0) (.inr (7, [.int (I (0)), .int (I (s_nb σ)), .ref (ρ 1), .int (I (s_nd σ)), .ref (ρ 2), .int (I (s_np σ)), .ref (ρ 3), .ref (ρ 4), .int (I (s_sw σ)), .int (I (s_jt σ)), .int (I (s_nm σ)), .ref (ρ 5), .ref (ρ 6), .int (I (sf)), .int (I (se))])) := ⟨_, rfl⟩
  show tm_V x (tm_H x (tm_u2 Λ (ρ 0) (.inr (7, [.int (I (0)), .int (I (s_nb σ)), .ref (ρ 1), .int (I (s_nd σ)), .ref (ρ 2), .int (I (s_np σ)), .ref (ρ 3), .ref (ρ 4), .int (I (s_sw σ)), .int (I (s_jt σ)), .int (I (s_nm σ)), .ref (ρ 5), .ref (ρ 6), .int (I (sf)), .int (I (se))])))) 0 0 5 [(0, .ref (ρ 0))] []
  rw [← hw2]
  have hw1_ρ_0 : w1 (ρ 0) = some (.inl (.inr (7, [.int (I (0)), .int (I (s_nb σ)), .ref (ρ 1), .int (I (s_nd σ)), .ref (ρ 2), .int (I (s_np σ)), .ref (ρ 3), .ref (ρ 4), .int (I (s_sw σ)), .int (I (s_jt σ)), .int (I (s_nm σ)), .ref (ρ 5), .ref (ρ 6), .int (I (sf)), .int (I (se))]))) := by rw [hw2]; first | done | exact tm_u2_s
  have hw1_ρ_1 := (show w1 (ρ 1) = _ by rw [hw2]; exact tm_u2_n (fun z => absurd (hm0.symm.trans (z ▸ hm1)) (by intro q; cases q))).trans hm1
  have hw1_ρ_2 := (show w1 (ρ 2) = _ by rw [hw2]; exact tm_u2_n (fun z => absurd (hm0.symm.trans (z ▸ hm2)) (by intro q; cases q))).trans hm2
  have hw1_ρ_3 := (show w1 (ρ 3) = _ by rw [hw2]; exact tm_u2_n (fun z => absurd (hm0.symm.trans (z ▸ hm3)) (by intro q; cases q))).trans hm3
  have hw1_ρ_4 := (show w1 (ρ 4) = _ by rw [hw2]; exact tm_u2_n (fun z => absurd (hm0.symm.trans (z ▸ hm4)) (by intro q; cases q))).trans hm4
  have hw1_ρ_5 := (show w1 (ρ 5) = _ by rw [hw2]; exact tm_u2_n (fun z => absurd (hm0.symm.trans (z ▸ hm5)) (by intro q; cases q))).trans hm5
  have hw1_ρ_6 := (show w1 (ρ 6) = _ by rw [hw2]; exact tm_u2_n (fun z => absurd (hm0.symm.trans (z ▸ hm6)) (by intro q; cases q))).trans hm6
  have hM_w1 : RM (tm_T x) w1 ρ 0 sf se σ := ⟨hw1_ρ_0, hw1_ρ_1, hw1_ρ_2, hw1_ρ_3, hw1_ρ_4, hw1_ρ_5, hw1_ρ_6, hmd⟩
  refine tm_ldc2 hC w_X6_153 dX6_digest_5 ?_
  refine tm_aload_n 0 hC dX6_digest_8 rfl rfl ?_
  refine tm_getf2 hC f_X6_23 hw1_ρ_0 rfl dX6_digest_9 ?_
  refine tm_i2l hC dX6_digest_12 ?_
  refine tm_ladd hC dX6_digest_13 ?_
  refine tm_ldc2 hC w_X6_155 dX6_digest_14 ?_
  refine tm_lmul hC dX6_digest_17 ?_
  refine tm_aload_n 0 hC dX6_digest_18 rfl rfl ?_
  refine tm_getf2 hC f_X6_27 hw1_ρ_0 rfl dX6_digest_19 ?_
  refine tm_i2l hC dX6_digest_22 ?_
  refine tm_ladd hC dX6_digest_23 ?_
  refine tm_ldc2 hC w_X6_155 dX6_digest_24 ?_
  refine tm_lmul hC dX6_digest_27 ?_
  refine tm_aload_n 0 hC dX6_digest_28 rfl rfl ?_
  refine tm_getf2 hC f_X6_60 hw1_ρ_0 rfl dX6_digest_29 ?_
  refine tm_i2l hC dX6_digest_32 ?_
  refine tm_ladd hC dX6_digest_33 ?_
  refine tm_lstore_n [(1, .long (((((8339 + ((I (s_sw σ)).toInt64)) * 31) + ((I (s_jt σ)).toInt64)) * 31) + ((I (s_nd σ)).toInt64))), (0, .ref (ρ 0))] hC dX6_digest_34 rfl (by rw [hB.2.1]; exact Nat.le_of_ble_eq_true rfl) rfl ?_
  refine tm_lload_n 0 hC dX6_digest_35 rfl rfl ?_
  refine tm_ldc2 hC w_X6_155 dX6_digest_36 ?_
  refine tm_lmul hC dX6_digest_39 ?_
  refine tm_aload_n 1 hC dX6_digest_40 rfl rfl ?_
  refine tm_getf2 hC f_X6_46 hw1_ρ_0 rfl dX6_digest_41 ?_
  refine tm_i2l hC dX6_digest_44 ?_
  refine tm_ladd hC dX6_digest_45 ?_
  refine tm_lstore_n [(1, .long (((((((8339 + ((I (s_sw σ)).toInt64)) * 31) + ((I (s_jt σ)).toInt64)) * 31) + ((I (s_nd σ)).toInt64)) * 31) + ((I (s_np σ)).toInt64))), (0, .ref (ρ 0))] hC dX6_digest_46 rfl (by rw [hB.2.1]; exact Nat.le_of_ble_eq_true rfl) rfl ?_
  refine tm_iconst hC dX6_digest_47 ?_
  refine tm_istore_n [(3, .int (I (0))), (1, .long (((((((8339 + ((I (s_sw σ)).toInt64)) * 31) + ((I (s_jt σ)).toInt64)) * 31) + ((I (s_nd σ)).toInt64)) * 31) + ((I (s_np σ)).toInt64))), (0, .ref (ρ 0))] hC dX6_digest_48 rfl (by rw [hB.2.1]; exact Nat.le_of_ble_eq_true rfl) rfl ?_
  have hL_49 : ∀ (fu : Nat) (dA : Int64) (ka : Nat), ((ka : Int) ≤ s_np σ ∧ dA = dgA σ ka) → ((s_np σ - ka).toNat) < fu → tm_V x (tm_H x w1) 0 0 49 [(0, .ref (ρ 0)), (1, .long (dA)), (3, .int (I ((ka : Int))))] [] := by
    intro fu
    induction fu with
    | zero => intro dA ka hinv hm; exact absurd hm (Nat.not_lt_zero _)
    | succ fu ih_49 =>
      intro dA ka hinv_49 hm_49
      obtain ⟨hka, hdA⟩ := hinv_49
      refine tm_iload_n 2 hC dX6_digest_49 rfl rfl ?_
      refine tm_aload_n 0 hC dX6_digest_50 rfl rfl ?_
      refine tm_getf2 hC f_X6_46 hw1_ρ_0 rfl dX6_digest_51 ?_
      refine tm_icmp_ge 77 hC dX6_digest_54 (by decide) (by omega) (fun c_54 => ?_) (fun c_54 => ?_)
      · refine tm_lload_n 1 hC dX6_digest_77 rfl rfl ?_
        refine tm_ldc2 hC w_X6_155 dX6_digest_78 ?_
        refine tm_lmul hC dX6_digest_81 ?_
        refine tm_aload_n 0 hC dX6_digest_82 rfl rfl ?_
        refine tm_getf2 hC f_X6_39 hw1_ρ_0 rfl dX6_digest_83 ?_
        refine tm_i2l hC dX6_digest_86 ?_
        refine tm_ladd hC dX6_digest_87 ?_
        refine tm_lstore_n [(1, .long ((dA * 31) + ((I (s_nb σ)).toInt64))), (0, .ref (ρ 0)), (3, .int (I ((ka : Int))))] hC dX6_digest_88 rfl (by rw [hB.2.1]; exact Nat.le_of_ble_eq_true rfl) rfl ?_
        refine tm_iconst hC dX6_digest_89 ?_
        refine tm_istore_n [(3, .int (I (0))), (1, .long ((dA * 31) + ((I (s_nb σ)).toInt64))), (0, .ref (ρ 0))] hC dX6_digest_90 rfl (by rw [hB.2.1]; exact Nat.le_of_ble_eq_true rfl) rfl ?_
        have hL_91 : ∀ (fu : Nat) (dB : Int64) (kb : Nat), ((kb : Int) ≤ s_nb σ ∧ dgB σ kb dB) → ((s_nb σ - kb).toNat) < fu → tm_V x (tm_H x w1) 0 0 91 [(0, .ref (ρ 0)), (1, .long (dB)), (3, .int (I ((kb : Int))))] [] := by
          intro fu
          induction fu with
          | zero => intro dB kb hinv hm; exact absurd hm (Nat.not_lt_zero _)
          | succ fu ih_91 =>
            intro dB kb hinv_91 hm_91
            obtain ⟨hkb, hdB⟩ := hinv_91
            refine tm_iload_n 2 hC dX6_digest_91 rfl rfl ?_
            refine tm_aload_n 0 hC dX6_digest_92 rfl rfl ?_
            refine tm_getf2 hC f_X6_39 hw1_ρ_0 rfl dX6_digest_93 ?_
            refine tm_icmp_ge 179 hC dX6_digest_96 (by decide) (by omega) (fun c_96 => ?_) (fun c_96 => ?_)
            · refine tm_lload_n 1 hC dX6_digest_179 rfl rfl ?_
              exact tm_lret hC hR dX6_digest_180 (⟨dB, hM_w1, rfl, by rw [show (s_nb σ).toNat = kb by omega]; exact hdB⟩)
            · refine tm_lload_n 1 hC dX6_digest_99 rfl rfl ?_
              refine tm_ldc2 hC w_X6_155 dX6_digest_100 ?_
              refine tm_lmul hC dX6_digest_103 ?_
              refine tm_aload_n 0 hC dX6_digest_104 rfl rfl ?_
              refine tm_iload_n 2 hC dX6_digest_105 rfl rfl ?_
              refine tm_callV (b := 0) (n := 0) (rest := [.long (dB * 31)]) hC (c_M_piecesOf (tm_g x) hst w1 ρ 0 sf se σ hM_w1 hw (kb : Int) (by omega)) k_X6_144 (by rw [hB.2.2.1]; exact ⟨Nat.le_of_ble_eq_true rfl, Nat.le_of_ble_eq_true rfl⟩) rfl (tm_rec2 hC hw1_ρ_0 rfl) rfl (by simp [Value.category]) dX6_digest_106 (fun v_106 w_106 hp_106 => ?_)
              obtain ⟨rfl, ks_106, rfl, hks_106, hkl_106⟩ := hp_106
              show tm_V x (tm_H x w1) 0 0 109 [(0, .ref (ρ 0)), (1, .long (dB)), (3, .int (I ((kb : Int))))] [.int (I ((ks_106.length : Int))), .long (dB * 31)]
              refine tm_i2l hC dX6_digest_109 ?_
              refine tm_ladd hC dX6_digest_110 ?_
              refine tm_lstore_n [(1, .long ((dB * 31) + ((I ((ks_106.length : Int))).toInt64))), (0, .ref (ρ 0)), (3, .int (I ((kb : Int))))] hC dX6_digest_111 rfl (by rw [hB.2.1]; exact Nat.le_of_ble_eq_true rfl) rfl ?_
              refine tm_aload_n 1 hC dX6_digest_112 rfl rfl ?_
              refine tm_iload_n 2 hC dX6_digest_113 rfl rfl ?_
              refine tm_iconst hC dX6_digest_114 ?_
              refine tm_callV (b := 0) (n := 0) (rest := []) hC (c_M_pieceFrom (tm_g x) hst w1 ρ 0 sf se σ hM_w1 hw (kb : Int) (by omega) 0 (by omega)) k_X6_147 (by rw [hB.2.2.1]; exact ⟨Nat.le_of_ble_eq_true rfl, Nat.le_of_ble_eq_true rfl⟩) rfl (tm_rec2 hC hw1_ρ_0 rfl) rfl (by decide) dX6_digest_115 (fun v_115 w_115 hp_115 => ?_)
              obtain ⟨rfl, p_115, rfl, hpf_115, hpb_115⟩ := hp_115
              show tm_V x (tm_H x w1) 0 0 118 [(1, .long ((dB * 31) + ((I ((ks_106.length : Int))).toInt64))), (0, .ref (ρ 0)), (3, .int (I ((kb : Int))))] [.int (I (p_115))]
              refine tm_istore [(4, .int (I (p_115))), (1, .long ((dB * 31) + ((I ((ks_106.length : Int))).toInt64))), (0, .ref (ρ 0)), (3, .int (I ((kb : Int))))] hC dX6_digest_118 (by rw [hB.2.1]; exact Nat.le_of_ble_eq_true rfl) rfl ?_
              have hL_120 : ∀ (fu : Nat) (dC : Int64) (p : Int) (ks : List Int) (pl : Int), (Srt σ (kb : Int) ks pl ∧ isPF σ (kb : Int) pl (s_nm σ) p ∧ (-1 ≤ p ∧ p < s_nm σ) ∧ dgP σ ks dC = dgP σ ks_106 (dB * 31 + (I (ks_106.length : Int)).toInt64)) → (ks.length) < fu → tm_V x (tm_H x w1) 0 0 120 [(0, .ref (ρ 0)), (1, .long (dC)), (3, .int (I ((kb : Int)))), (4, .int (I (p)))] [] := by
                intro fu
                induction fu with
                | zero => intro dC p ks pl hinv hm; exact absurd hm (Nat.not_lt_zero _)
                | succ fu ih_120 =>
                  intro dC p ks pl hinv_120 hm_120
                  obtain ⟨hks, hpf, hpb, hct⟩ := hinv_120
                  refine tm_iload 3 hC dX6_digest_120 rfl ?_
                  refine tm_iconst hC dX6_digest_122 ?_
                  refine tm_icmp_eq 173 hC dX6_digest_123 (by decide) (by omega) (fun c_123 => ?_) (fun c_123 => ?_)
                  · refine tm_iinc 2 [(3, .int (I ((kb : Int) + 1))), (0, .ref (ρ 0)), (1, .long (dC)), (4, .int (I (p)))] hC dX6_digest_173 rfl (by rw [hB.2.1]; exact Nat.le_of_ble_eq_true rfl) rfl ?_
                    refine tm_goto 91 hC dX6_digest_176 (by decide) ?_
                    refine tm_sub (L' := [(0, .ref (ρ 0)), (1, .long (dC)), (3, .int (I ((kb : Int) + 1)))]) [1, 2, 0] rfl ?_
                    exact ih_91  dC (kb + 1) (⟨by omega, dB, ks_106, hdB, hks_106, by have e := Srt_n hw hks (c_123 ▸ hpf); subst e; exact hct⟩) (by omega)
                  · obtain ⟨kq, rfl, hsq, hp9, hon, hpl9⟩ := Srt_c hw hks hpf c_123
                    have hk9 := wf_k hw p hp9
                    have hlq : (p :: kq).length = kq.length + 1 := rfl
                    refine tm_iconst hC dX6_digest_126 ?_
                    refine tm_istore [(5, .int (I (0))), (0, .ref (ρ 0)), (1, .long (dC)), (3, .int (I ((kb : Int)))), (4, .int (I (p)))] hC dX6_digest_127 (by rw [hB.2.1]; exact Nat.le_of_ble_eq_true rfl) rfl ?_
                    have hL_129 : ∀ (fu : Nat) (dD : Int64) (kw : Nat), ((kw : Int) ≤ 4 ∧ dD = dgW σ p dC kw) → (4 - kw) < fu → tm_V x (tm_H x w1) 0 0 129 [(0, .ref (ρ 0)), (1, .long (dD)), (3, .int (I ((kb : Int)))), (4, .int (I (p))), (5, .int (I ((kw : Int))))] [] := by
                      intro fu
                      induction fu with
                      | zero => intro dD kw hinv hm; exact absurd hm (Nat.not_lt_zero _)
                      | succ fu ih_129 =>
                        intro dD kw hinv_129 hm_129
                        obtain ⟨hkw, hdD⟩ := hinv_129
                        refine tm_iload 4 hC dX6_digest_129 rfl ?_
                        refine tm_iconst hC dX6_digest_131 ?_
                        refine tm_icmp_ge 157 hC dX6_digest_132 (by decide) (by omega) (fun c_132 => ?_) (fun c_132 => ?_)
                        · refine tm_aload_n 0 hC dX6_digest_157 rfl rfl ?_
                          refine tm_iload_n 2 hC dX6_digest_158 rfl rfl ?_
                          refine tm_aload_n 0 hC dX6_digest_159 rfl rfl ?_
                          refine tm_iload 3 hC dX6_digest_160 rfl ?_
                          refine tm_callV (b := 0) (n := 0) (rest := [.int (I ((kb : Int))), .ref (ρ 0)]) hC (c_M_to (tm_g x) hst w1 ρ 0 sf se σ hM_w1 hw p (by omega) ) k_X6_73 (by rw [hB.2.2.1]; exact ⟨Nat.le_of_ble_eq_true rfl, Nat.le_of_ble_eq_true rfl⟩) rfl (tm_rec2 hC hw1_ρ_0 rfl) rfl (by simp [Value.category]) dX6_digest_162 (fun v_162 w_162 hp_162 => ?_)
                          obtain ⟨rfl, rfl, hb_162⟩ := hp_162
                          show tm_V x (tm_H x w1) 0 0 165 [(0, .ref (ρ 0)), (1, .long (dD)), (3, .int (I ((kb : Int)))), (4, .int (I (p))), (5, .int (I ((kw : Int))))] [.int (I (s_cu σ (4 * p + 2))), .int (I ((kb : Int))), .ref (ρ 0)]
                          refine tm_callV (b := 0) (n := 0) (rest := []) hC (c_M_pieceFrom (tm_g x) hst w1 ρ 0 sf se σ hM_w1 hw (kb : Int) (by omega) (s_cu σ (4 * p + 2)) (by omega)) k_X6_147 (by rw [hB.2.2.1]; exact ⟨Nat.le_of_ble_eq_true rfl, Nat.le_of_ble_eq_true rfl⟩) rfl (tm_rec2 hC hw1_ρ_0 rfl) rfl (by decide) dX6_digest_165 (fun v_165 w_165 hp_165 => ?_)
                          obtain ⟨rfl, p_165, rfl, hpf_165, hpb_165⟩ := hp_165
                          show tm_V x (tm_H x w1) 0 0 168 [(0, .ref (ρ 0)), (1, .long (dD)), (3, .int (I ((kb : Int)))), (4, .int (I (p))), (5, .int (I ((kw : Int))))] [.int (I (p_165))]
                          refine tm_istore [(4, .int (I (p_165))), (0, .ref (ρ 0)), (1, .long (dD)), (3, .int (I ((kb : Int)))), (5, .int (I ((kw : Int))))] hC dX6_digest_168 (by rw [hB.2.1]; exact Nat.le_of_ble_eq_true rfl) rfl ?_
                          refine tm_goto 120 hC dX6_digest_170 (by decide) ?_
                          refine tm_sub (L' := [(0, .ref (ρ 0)), (1, .long (dD)), (3, .int (I ((kb : Int)))), (4, .int (I (p_165)))]) [1, 2, 3, 0] rfl ?_
                          exact ih_120  dD p_165 kq (s_cu σ (4 * p + 2)) (⟨hsq, hpf_165, by omega, by rw [hdD, show kw = 4 by omega]; exact hct⟩) (by omega)
                        · refine tm_lload_n 1 hC dX6_digest_135 rfl rfl ?_
                          refine tm_ldc2 hC w_X6_155 dX6_digest_136 ?_
                          refine tm_lmul hC dX6_digest_139 ?_
                          refine tm_aload_n 0 hC dX6_digest_140 rfl rfl ?_
                          refine tm_iload 3 hC dX6_digest_141 rfl ?_
                          refine tm_iload 4 hC dX6_digest_143 rfl ?_
                          refine tm_callV (b := 0) (n := 0) (rest := [.long (dD * 31)]) hC (c_M_told (tm_g x) hst w1 ρ 0 sf se σ hM_w1 hw p (kw : Int) (by omega)) k_X6_150 (by rw [hB.2.2.1]; exact ⟨Nat.le_of_ble_eq_true rfl, Nat.le_of_ble_eq_true rfl⟩) rfl (tm_rec2 hC hw1_ρ_0 rfl) rfl (by simp [Value.category]) dX6_digest_145 (fun v_145 w_145 hp_145 => ?_)
                          obtain ⟨rfl, rfl⟩ := hp_145
                          show tm_V x (tm_H x w1) 0 0 148 [(0, .ref (ρ 0)), (1, .long (dD)), (3, .int (I ((kb : Int)))), (4, .int (I (p))), (5, .int (I ((kw : Int))))] [.int (I (tellS σ p (kw : Int))), .long (dD * 31)]
                          refine tm_i2l hC dX6_digest_148 ?_
                          refine tm_ladd hC dX6_digest_149 ?_
                          refine tm_lstore_n [(1, .long ((dD * 31) + ((I (tellS σ p (kw : Int))).toInt64))), (0, .ref (ρ 0)), (3, .int (I ((kb : Int)))), (4, .int (I (p))), (5, .int (I ((kw : Int))))] hC dX6_digest_150 rfl (by rw [hB.2.1]; exact Nat.le_of_ble_eq_true rfl) rfl ?_
                          refine tm_iinc 4 [(5, .int (I ((kw : Int) + 1))), (1, .long ((dD * 31) + ((I (tellS σ p (kw : Int))).toInt64))), (0, .ref (ρ 0)), (3, .int (I ((kb : Int)))), (4, .int (I (p)))] hC dX6_digest_151 rfl (by rw [hB.2.1]; exact Nat.le_of_ble_eq_true rfl) rfl ?_
                          refine tm_goto 129 hC dX6_digest_154 (by decide) ?_
                          refine tm_sub (L' := [(0, .ref (ρ 0)), (1, .long ((dD * 31) + ((I (tellS σ p (kw : Int))).toInt64))), (3, .int (I ((kb : Int)))), (4, .int (I (p))), (5, .int (I ((kw : Int) + 1)))]) [2, 1, 3, 4, 0] rfl ?_
                          exact ih_129  ((dD * 31) + ((I (tellS σ p (kw : Int))).toInt64)) (kw + 1) (⟨by omega, by rw [hdD]; rfl⟩) (by omega)
                    refine tm_sub (L' := [(0, .ref (ρ 0)), (1, .long (dC)), (3, .int (I ((kb : Int)))), (4, .int (I (p))), (5, .int (I (0)))]) [1, 2, 3, 4, 0] rfl ?_
                    exact hL_129 _ dC 0 (⟨by omega, rfl⟩) (Nat.lt_succ_self _)
              refine tm_sub (L' := [(0, .ref (ρ 0)), (1, .long ((dB * 31) + ((I ((ks_106.length : Int))).toInt64))), (3, .int (I ((kb : Int)))), (4, .int (I (p_115)))]) [2, 1, 3, 0] rfl ?_
              exact hL_120 _ ((dB * 31) + ((I ((ks_106.length : Int))).toInt64)) p_115 ks_106 0 (⟨hks_106, hpf_115, by omega, rfl⟩) (Nat.lt_succ_self _)
        refine tm_sub (L' := [(0, .ref (ρ 0)), (1, .long ((dA * 31) + ((I (s_nb σ)).toInt64))), (3, .int (I (0)))]) [2, 1, 0] rfl ?_
        exact hL_91 _ ((dA * 31) + ((I (s_nb σ)).toInt64)) 0 (⟨by omega, by rw [hdA]; show _ = dg2 σ; unfold dg2; rw [show (s_np σ).toNat = ka by omega]⟩) (Nat.lt_succ_self _)
      · refine tm_lload_n 1 hC dX6_digest_57 rfl rfl ?_
        refine tm_ldc2 hC w_X6_155 dX6_digest_58 ?_
        refine tm_lmul hC dX6_digest_61 ?_
        refine tm_aload_n 0 hC dX6_digest_62 rfl rfl ?_
        refine tm_iload_n 2 hC dX6_digest_63 rfl rfl ?_
        refine tm_iconst hC dX6_digest_64 ?_
        refine tm_callV (b := 0) (n := 0) (rest := [.long (dA * 31)]) hC (c_M_want (tm_g x) hst w1 ρ 0 sf se σ hM_w1 hw (ka : Int) (by omega) 3 (by omega) ) k_X6_79 (by rw [hB.2.2.1]; exact ⟨Nat.le_of_ble_eq_true rfl, Nat.le_of_ble_eq_true rfl⟩) rfl (tm_rec2 hC hw1_ρ_0 rfl) rfl (by simp [Value.category]) dX6_digest_65 (fun v_65 w_65 hp_65 => ?_)
        obtain ⟨rfl, rfl, hb_65⟩ := hp_65
        show tm_V x (tm_H x w1) 0 0 68 [(0, .ref (ρ 0)), (1, .long (dA)), (3, .int (I ((ka : Int))))] [.int (I (s_wa σ (4 * (ka : Int) + 3))), .long (dA * 31)]
        refine tm_i2l hC dX6_digest_68 ?_
        refine tm_ladd hC dX6_digest_69 ?_
        refine tm_lstore_n [(1, .long ((dA * 31) + ((I (s_wa σ (4 * (ka : Int) + 3))).toInt64))), (0, .ref (ρ 0)), (3, .int (I ((ka : Int))))] hC dX6_digest_70 rfl (by rw [hB.2.1]; exact Nat.le_of_ble_eq_true rfl) rfl ?_
        refine tm_iinc 2 [(3, .int (I ((ka : Int) + 1))), (1, .long ((dA * 31) + ((I (s_wa σ (4 * (ka : Int) + 3))).toInt64))), (0, .ref (ρ 0))] hC dX6_digest_71 rfl (by rw [hB.2.1]; exact Nat.le_of_ble_eq_true rfl) rfl ?_
        refine tm_goto 49 hC dX6_digest_74 (by decide) ?_
        refine tm_sub (L' := [(0, .ref (ρ 0)), (1, .long ((dA * 31) + ((I (s_wa σ (4 * (ka : Int) + 3))).toInt64))), (3, .int (I ((ka : Int) + 1)))]) [2, 1, 0] rfl ?_
        exact ih_49  ((dA * 31) + ((I (s_wa σ (4 * (ka : Int) + 3))).toInt64)) (ka + 1) (⟨by omega, by rw [hdA]; rfl⟩) (by omega)
  refine tm_sub (L' := [(0, .ref (ρ 0)), (1, .long (((((((8339 + ((I (s_sw σ)).toInt64)) * 31) + ((I (s_jt σ)).toInt64)) * 31) + ((I (s_nd σ)).toInt64)) * 31) + ((I (s_np σ)).toInt64))), (3, .int (I (0)))]) [2, 1, 0] rfl ?_
  exact hL_49 _ (((((((8339 + ((I (s_sw σ)).toInt64)) * 31) + ((I (s_jt σ)).toInt64)) * 31) + ((I (s_nd σ)).toInt64)) * 31) + ((I (s_np σ)).toInt64)) 0 (⟨by omega, rfl⟩) (Nat.lt_succ_self _)

set_option maxHeartbeats 4000000 in
set_option maxRecDepth 100000 in
theorem c_M_used (γ : tmG) (hst : γ.1.stackTraces = false) (Λ : tmL) (ρ : Nat → Nat) (th sf se : Int) (σ : ST) (hM : RM γ.2.2.1 Λ ρ th sf se σ) (hw : WF0 σ) : tm_Con γ (tm_h2 γ.2.1 γ.2.2.1 γ.2.2.2.1) M_X6_used 4 0 0 [.ref (ρ 0)] Λ (fun v w' => ∃ r, RM γ.2.2.1 w' ρ 0 sf se σ ∧ v = some (.double r) ∧ Sp_used σ r) := by
  refine tm_con hst (by decide) (Nat.le_of_ble_eq_true rfl) (fun x hB hR => ?_)
  have hg := hB.1
  subst hg
  have hC : tm_C x cX6_used RX6 (some FieldType.double) := hB.2.2.2.1
  obtain ⟨hm0, hm1, hm2, hm3, hm4, hm5, hm6, hmd⟩ := id hM
  have hn := wf_n hw
  show tm_V x (tm_H x Λ) 0 0 0 [(0, .ref (ρ 0))] []
  refine tm_aload_n 0 hC dX6_used_0 rfl rfl ?_
  refine tm_iconst hC dX6_used_1 ?_
  refine tm_putf2 hC f_X6_36 hm0 (tt_7_0 _) (Nat.le_of_ble_eq_true rfl) dX6_used_2 ?_
  obtain ⟨w1, hw2⟩ : ∃ z, z = tm_u2 Λ (ρ 0) (.inr (7, [.int (I (0)), .int (I (s_nb σ)), .ref (ρ 1), .int (I (s_nd σ)), .ref (ρ 2), .int (I (s_np σ)), .ref (ρ 3), .ref (ρ 4), .int (I (s_sw σ)), .int (I (s_jt σ)), .int (I (s_nm σ)), .ref (ρ 5), .ref (ρ 6), .int (I (sf)), .int (I (se))])) := ⟨_, rfl⟩
  show tm_V x (tm_H x (tm_u2 Λ (ρ 0) (.inr (7, [.int (I (0)), .int (I (s_nb σ)), .ref (ρ 1), .int (I (s_nd σ)), .ref (ρ 2), .int (I (s_np σ)), .ref (ρ 3), .ref (ρ 4), .int (I (s_sw σ)), .int (I (s_jt σ)), .int (I (s_nm σ)), .ref (ρ 5), .ref (ρ 6), .int (I (sf)), .int (I (se))])))) 0 0 5 [(0, .ref (ρ 0))] []
  rw [← hw2]
  have hw1_ρ_0 : w1 (ρ 0) = some (.inl (.inr (7, [.int (I (0)), .int (I (s_nb σ)), .ref (ρ 1), .int (I (s_nd σ)), .ref (ρ 2), .int (I (s_np σ)), .ref (ρ 3), .ref (ρ 4), .int (I (s_sw σ)), .int (I (s_jt σ)), .int (I (s_nm σ)), .ref (ρ 5), .ref (ρ 6), .int (I (sf)), .int (I (se))]))) := by rw [hw2]; first | done | exact tm_u2_s
  have hw1_ρ_1 := (show w1 (ρ 1) = _ by rw [hw2]; exact tm_u2_n (fun z => absurd (hm0.symm.trans (z ▸ hm1)) (by intro q; cases q))).trans hm1
  have hw1_ρ_2 := (show w1 (ρ 2) = _ by rw [hw2]; exact tm_u2_n (fun z => absurd (hm0.symm.trans (z ▸ hm2)) (by intro q; cases q))).trans hm2
  have hw1_ρ_3 := (show w1 (ρ 3) = _ by rw [hw2]; exact tm_u2_n (fun z => absurd (hm0.symm.trans (z ▸ hm3)) (by intro q; cases q))).trans hm3
  have hw1_ρ_4 := (show w1 (ρ 4) = _ by rw [hw2]; exact tm_u2_n (fun z => absurd (hm0.symm.trans (z ▸ hm4)) (by intro q; cases q))).trans hm4
  have hw1_ρ_5 := (show w1 (ρ 5) = _ by rw [hw2]; exact tm_u2_n (fun z => absurd (hm0.symm.trans (z ▸ hm5)) (by intro q; cases q))).trans hm5
  have hw1_ρ_6 := (show w1 (ρ 6) = _ by rw [hw2]; exact tm_u2_n (fun z => absurd (hm0.symm.trans (z ▸ hm6)) (by intro q; cases q))).trans hm6
  have hM_w1 : RM (tm_T x) w1 ρ 0 sf se σ := ⟨hw1_ρ_0, hw1_ρ_1, hw1_ρ_2, hw1_ρ_3, hw1_ρ_4, hw1_ρ_5, hw1_ρ_6, hmd⟩
  refine tm_lconstZ hC dX6_used_5 ?_
  refine tm_lstore_n [(1, .long (L64 (0))), (0, .ref (ρ 0))] hC dX6_used_6 rfl (by rw [hB.2.1]; exact Nat.le_of_ble_eq_true rfl) rfl ?_
  refine tm_lconstZ hC dX6_used_7 ?_
  refine tm_lstore_n [(3, .long (L64 (0))), (1, .long (L64 (0))), (0, .ref (ρ 0))] hC dX6_used_8 rfl (by rw [hB.2.1]; exact Nat.le_of_ble_eq_true rfl) rfl ?_
  refine tm_iconst hC dX6_used_9 ?_
  refine tm_istore [(5, .int (I (0))), (3, .long (L64 (0))), (1, .long (L64 (0))), (0, .ref (ρ 0))] hC dX6_used_10 (by rw [hB.2.1]; exact Nat.le_of_ble_eq_true rfl) rfl ?_
  have hL_12 : ∀ (fu : Nat) (pA : Int) (aA : Int) (kb : Nat), ((kb : Int) ≤ s_nb σ ∧ usR σ kb aA pA) → ((s_nb σ - kb).toNat) < fu → tm_V x (tm_H x w1) 0 0 12 [(0, .ref (ρ 0)), (1, .long (L64 (pA))), (3, .long (L64 (aA))), (5, .int (I ((kb : Int))))] [] := by
    intro fu
    induction fu with
    | zero => intro pA aA kb hinv hm; exact absurd hm (Nat.not_lt_zero _)
    | succ fu ih_12 =>
      intro pA aA kb hinv_12 hm_12
      obtain ⟨hkb, hus⟩ := hinv_12
      have hub := usR_b hw kb hkb hus
      refine tm_iload 3 hC dX6_used_12 rfl ?_
      refine tm_aload_n 0 hC dX6_used_14 rfl rfl ?_
      refine tm_getf2 hC f_X6_39 hw1_ρ_0 rfl dX6_used_15 ?_
      refine tm_icmp_ge 120 hC dX6_used_18 (by decide) (by omega) (fun c_18 => ?_) (fun c_18 => ?_)
      · refine tm_lload_n 2 hC dX6_used_120 rfl rfl ?_
        refine tm_lconstZ hC dX6_used_121 ?_
        refine tm_lcmpZ hC (by omega) dX6_used_122 ?_
        refine tm_if_ne 130 hC dX6_used_123 (by decide) (lcZ_b _ _) (fun c_123 => ?_) (fun c_123 => ?_)
        · refine tm_lload_n 1 hC dX6_used_130 rfl rfl ?_
          refine tm_l2d hC dX6_used_131 ?_
          refine tm_lload_n 2 hC dX6_used_132 rfl rfl ?_
          refine tm_l2d hC dX6_used_133 ?_
          refine tm_ddiv hC (n64Z (by omega) (by omega) (fun z => c_123 (lcZ_e.mpr z))) dX6_used_134 ?_
          exact tm_dret hC hR dX6_used_135 (⟨_, hM_w1, rfl, aA, pA, by rw [show (s_nb σ).toNat = kb by omega]; exact hus, (if_neg (fun z => c_123 (lcZ_e.mpr z))).symm⟩)
        · refine tm_dconst0 hC dX6_used_126 ?_
          refine tm_goto 135 hC dX6_used_127 (by decide) ?_
          exact tm_dret hC hR dX6_used_135 (⟨_, hM_w1, rfl, aA, pA, by rw [show (s_nb σ).toNat = kb by omega]; exact hus, (if_pos (lcZ_e.mp c_123)).symm⟩)
      · have hb9 := wf_b hw kb (by omega)
        refine tm_aload_n 0 hC dX6_used_21 rfl rfl ?_
        refine tm_iload 3 hC dX6_used_22 rfl ?_
        refine tm_callV (b := 0) (n := 0) (rest := []) hC (c_M_piecesOf (tm_g x) hst w1 ρ 0 sf se σ hM_w1 hw (kb : Int) (by omega)) k_X6_144 (by rw [hB.2.2.1]; exact ⟨Nat.le_of_ble_eq_true rfl, Nat.le_of_ble_eq_true rfl⟩) rfl (tm_rec2 hC hw1_ρ_0 rfl) rfl (by decide) dX6_used_24 (fun v_24 w_24 hp_24 => ?_)
        obtain ⟨rfl, ks_24, rfl, hks_24, hkl_24⟩ := hp_24
        show tm_V x (tm_H x w1) 0 0 27 [(0, .ref (ρ 0)), (1, .long (L64 (pA))), (3, .long (L64 (aA))), (5, .int (I ((kb : Int))))] [.int (I ((ks_24.length : Int)))]
        refine tm_if_ne 33 hC dX6_used_27 (by decide) (by omega) (fun c_27 => ?_) (fun c_27 => ?_)
        · refine tm_lload_n 2 hC dX6_used_33 rfl rfl ?_
          refine tm_aload_n 0 hC dX6_used_34 rfl rfl ?_
          refine tm_iload 3 hC dX6_used_35 rfl ?_
          refine tm_callV (b := 0) (n := 0) (rest := [.long (L64 (aA))]) hC (c_M_length (tm_g x) hst w1 ρ 0 sf se σ hM_w1 hw (kb : Int) (by omega) ) k_X6_57 (by rw [hB.2.2.1]; exact ⟨Nat.le_of_ble_eq_true rfl, Nat.le_of_ble_eq_true rfl⟩) rfl (tm_rec2 hC hw1_ρ_0 rfl) rfl (by simp [Value.category]) dX6_used_37 (fun v_37 w_37 hp_37 => ?_)
          obtain ⟨rfl, rfl, hb_37⟩ := hp_37
          show tm_V x (tm_H x w1) 0 0 40 [(0, .ref (ρ 0)), (1, .long (L64 (pA))), (3, .long (L64 (aA))), (5, .int (I ((kb : Int))))] [.int (I (s_wo σ (3 * (kb : Int)))), .long (L64 (aA))]
          refine tm_i2lZ hC (by omega) dX6_used_40 ?_
          refine tm_aload_n 0 hC dX6_used_41 rfl rfl ?_
          refine tm_iload 3 hC dX6_used_42 rfl ?_
          refine tm_callV (b := 0) (n := 0) (rest := [.long (L64 (s_wo σ (3 * (kb : Int)))), .long (L64 (aA))]) hC (c_M_width (tm_g x) hst w1 ρ 0 sf se σ hM_w1 hw (kb : Int) (by omega) ) k_X6_107 (by rw [hB.2.2.1]; exact ⟨Nat.le_of_ble_eq_true rfl, Nat.le_of_ble_eq_true rfl⟩) rfl (tm_rec2 hC hw1_ρ_0 rfl) rfl (by simp [Value.category]) dX6_used_44 (fun v_44 w_44 hp_44 => ?_)
          obtain ⟨rfl, rfl, hb_44⟩ := hp_44
          show tm_V x (tm_H x w1) 0 0 47 [(0, .ref (ρ 0)), (1, .long (L64 (pA))), (3, .long (L64 (aA))), (5, .int (I ((kb : Int))))] [.int (I (s_wo σ (3 * (kb : Int) + 1))), .long (L64 (s_wo σ (3 * (kb : Int)))), .long (L64 (aA))]
          refine tm_i2lZ hC (by omega) dX6_used_47 ?_
          refine tm_lmulZ hC dX6_used_48 ?_
          refine tm_laddZ hC dX6_used_49 ?_
          refine tm_lstore_n [(3, .long (L64 (aA + ((s_wo σ (3 * (kb : Int))) * (s_wo σ (3 * (kb : Int) + 1)))))), (0, .ref (ρ 0)), (1, .long (L64 (pA))), (5, .int (I ((kb : Int))))] hC dX6_used_50 rfl (by rw [hB.2.1]; exact Nat.le_of_ble_eq_true rfl) rfl ?_
          refine tm_iconst hC dX6_used_51 ?_
          refine tm_istore [(6, .int (I (0))), (3, .long (L64 (aA + ((s_wo σ (3 * (kb : Int))) * (s_wo σ (3 * (kb : Int) + 1)))))), (0, .ref (ρ 0)), (1, .long (L64 (pA))), (5, .int (I ((kb : Int))))] hC dX6_used_52 (by rw [hB.2.1]; exact Nat.le_of_ble_eq_true rfl) rfl ?_
          have hL_54 : ∀ (fu : Nat) (pB : Int) (kn : Nat), ((kn : Int) ≤ s_nm σ ∧ pB = pA + csum σ (kb : Int) (usC σ) kn) → ((s_nm σ - kn).toNat) < fu → tm_V x (tm_H x w1) 0 0 54 [(0, .ref (ρ 0)), (1, .long (L64 (pB))), (3, .long (L64 (aA + ((s_wo σ (3 * (kb : Int))) * (s_wo σ (3 * (kb : Int) + 1)))))), (5, .int (I ((kb : Int)))), (6, .int (I ((kn : Int))))] [] := by
            intro fu
            induction fu with
            | zero => intro pB kn hinv hm; exact absurd hm (Nat.not_lt_zero _)
            | succ fu ih_54 =>
              intro pB kn hinv_54 hm_54
              obtain ⟨hkn, hpB⟩ := hinv_54
              refine tm_iload 4 hC dX6_used_54 rfl ?_
              refine tm_aload_n 0 hC dX6_used_56 rfl rfl ?_
              refine tm_getf2 hC f_X6_63 hw1_ρ_0 rfl dX6_used_57 ?_
              refine tm_icmp_ge 114 hC dX6_used_60 (by decide) (by omega) (fun c_60 => ?_) (fun c_60 => ?_)
              · refine tm_iinc 3 [(5, .int (I ((kb : Int) + 1))), (0, .ref (ρ 0)), (1, .long (L64 (pB))), (3, .long (L64 (aA + ((s_wo σ (3 * (kb : Int))) * (s_wo σ (3 * (kb : Int) + 1)))))), (6, .int (I ((kn : Int))))] hC dX6_used_114 rfl (by rw [hB.2.1]; exact Nat.le_of_ble_eq_true rfl) rfl ?_
                refine tm_goto 12 hC dX6_used_117 (by decide) ?_
                refine tm_sub (L' := [(0, .ref (ρ 0)), (1, .long (L64 (pB))), (3, .long (L64 (aA + ((s_wo σ (3 * (kb : Int))) * (s_wo σ (3 * (kb : Int) + 1)))))), (5, .int (I ((kb : Int) + 1)))]) [1, 2, 3, 0] rfl ?_
                exact ih_12  pB (aA + ((s_wo σ (3 * (kb : Int))) * (s_wo σ (3 * (kb : Int) + 1)))) (kb + 1) (⟨by omega, aA, pA, ks_24, hus, hks_24, Or.inr ⟨fun z => by rw [z] at c_27; exact c_27 rfl, rfl, by rw [hpB, csum_l hw _ hks_24 (by omega) (by omega)]⟩⟩) (by omega)
              · have hk9 := wf_k hw kn (by omega)
                refine tm_lload_n 1 hC dX6_used_63 rfl rfl ?_
                refine tm_aload_n 0 hC dX6_used_64 rfl rfl ?_
                refine tm_iload 4 hC dX6_used_65 rfl ?_
                refine tm_iload 3 hC dX6_used_67 rfl ?_
                refine tm_callV (b := 0) (n := 0) (rest := [.long (L64 (pB))]) hC (c_M_isOn (tm_g x) hst w1 ρ 0 sf se σ hM_w1 hw (kn : Int) (by omega) (kb : Int) (by omega) ) k_X6_66 (by rw [hB.2.2.1]; exact ⟨Nat.le_of_ble_eq_true rfl, Nat.le_of_ble_eq_true rfl⟩) rfl (tm_rec2 hC hw1_ρ_0 rfl) rfl (by simp [Value.category]) dX6_used_69 (fun v_69 w_69 hp_69 => ?_)
                obtain ⟨rfl, rfl, hb_69⟩ := hp_69
                show tm_V x (tm_H x w1) 0 0 72 [(0, .ref (ρ 0)), (1, .long (L64 (pB))), (3, .long (L64 (aA + ((s_wo σ (3 * (kb : Int))) * (s_wo σ (3 * (kb : Int) + 1)))))), (5, .int (I ((kb : Int)))), (6, .int (I ((kn : Int))))] [.int (I (bi (s_cu σ (4 * (kn : Int)) = (kb : Int)))), .long (L64 (pB))]
                refine tm_ifb_eq 105 hC dX6_used_72 (by decide) (fun c_72 => ?_) (fun c_72 => ?_)
                · refine tm_lconstZ hC dX6_used_105 ?_
                  refine tm_laddZ hC dX6_used_106 ?_
                  refine tm_lstore_n [(1, .long (L64 (pB + 0))), (0, .ref (ρ 0)), (3, .long (L64 (aA + ((s_wo σ (3 * (kb : Int))) * (s_wo σ (3 * (kb : Int) + 1)))))), (5, .int (I ((kb : Int)))), (6, .int (I ((kn : Int))))] hC dX6_used_107 rfl (by rw [hB.2.1]; exact Nat.le_of_ble_eq_true rfl) rfl ?_
                  refine tm_iinc 4 [(6, .int (I ((kn : Int) + 1))), (1, .long (L64 (pB + 0))), (0, .ref (ρ 0)), (3, .long (L64 (aA + ((s_wo σ (3 * (kb : Int))) * (s_wo σ (3 * (kb : Int) + 1)))))), (5, .int (I ((kb : Int))))] hC dX6_used_108 rfl (by rw [hB.2.1]; exact Nat.le_of_ble_eq_true rfl) rfl ?_
                  refine tm_goto 54 hC dX6_used_111 (by decide) ?_
                  refine tm_sub (L' := [(0, .ref (ρ 0)), (1, .long (L64 (pB + 0))), (3, .long (L64 (aA + ((s_wo σ (3 * (kb : Int))) * (s_wo σ (3 * (kb : Int) + 1)))))), (5, .int (I ((kb : Int)))), (6, .int (I ((kn : Int) + 1)))]) [2, 1, 3, 4, 0] rfl ?_
                  exact ih_54  (pB + 0) (kn + 1) (⟨by omega, by rw [csum_0 c_72]; omega⟩) (by omega)
                · have hp9 := wf_p hw (s_cu σ (4 * (kn : Int) + 3)) (by omega)
                  refine tm_aload_n 0 hC dX6_used_75 rfl rfl ?_
                  refine tm_iload 4 hC dX6_used_76 rfl ?_
                  refine tm_callV (b := 0) (n := 0) (rest := [.long (L64 (pB))]) hC (c_M_to (tm_g x) hst w1 ρ 0 sf se σ hM_w1 hw (kn : Int) (by omega) ) k_X6_73 (by rw [hB.2.2.1]; exact ⟨Nat.le_of_ble_eq_true rfl, Nat.le_of_ble_eq_true rfl⟩) rfl (tm_rec2 hC hw1_ρ_0 rfl) rfl (by simp [Value.category]) dX6_used_78 (fun v_78 w_78 hp_78 => ?_)
                  obtain ⟨rfl, rfl, hb_78⟩ := hp_78
                  show tm_V x (tm_H x w1) 0 0 81 [(0, .ref (ρ 0)), (1, .long (L64 (pB))), (3, .long (L64 (aA + ((s_wo σ (3 * (kb : Int))) * (s_wo σ (3 * (kb : Int) + 1)))))), (5, .int (I ((kb : Int)))), (6, .int (I ((kn : Int))))] [.int (I (s_cu σ (4 * (kn : Int) + 2))), .long (L64 (pB))]
                  refine tm_aload_n 0 hC dX6_used_81 rfl rfl ?_
                  refine tm_iload 4 hC dX6_used_82 rfl ?_
                  refine tm_callV (b := 0) (n := 0) (rest := [.int (I (s_cu σ (4 * (kn : Int) + 2))), .long (L64 (pB))]) hC (c_M_from (tm_g x) hst w1 ρ 0 sf se σ hM_w1 hw (kn : Int) (by omega) ) k_X6_70 (by rw [hB.2.2.1]; exact ⟨Nat.le_of_ble_eq_true rfl, Nat.le_of_ble_eq_true rfl⟩) rfl (tm_rec2 hC hw1_ρ_0 rfl) rfl (by simp [Value.category]) dX6_used_84 (fun v_84 w_84 hp_84 => ?_)
                  obtain ⟨rfl, rfl, hb_84⟩ := hp_84
                  show tm_V x (tm_H x w1) 0 0 87 [(0, .ref (ρ 0)), (1, .long (L64 (pB))), (3, .long (L64 (aA + ((s_wo σ (3 * (kb : Int))) * (s_wo σ (3 * (kb : Int) + 1)))))), (5, .int (I ((kb : Int)))), (6, .int (I ((kn : Int))))] [.int (I (s_cu σ (4 * (kn : Int) + 1))), .int (I (s_cu σ (4 * (kn : Int) + 2))), .long (L64 (pB))]
                  refine tm_isub hC dX6_used_87 ?_
                  refine tm_i2lZ hC (by omega) dX6_used_88 ?_
                  refine tm_aload_n 0 hC dX6_used_89 rfl rfl ?_
                  refine tm_aload_n 0 hC dX6_used_90 rfl rfl ?_
                  refine tm_iload 4 hC dX6_used_91 rfl ?_
                  refine tm_callV (b := 0) (n := 0) (rest := [.ref (ρ 0), .long (L64 ((s_cu σ (4 * (kn : Int) + 2)) - (s_cu σ (4 * (kn : Int) + 1)))), .long (L64 (pB))]) hC (c_M_partOf (tm_g x) hst w1 ρ 0 sf se σ hM_w1 hw (kn : Int) (by omega) ) k_X6_76 (by rw [hB.2.2.1]; exact ⟨Nat.le_of_ble_eq_true rfl, Nat.le_of_ble_eq_true rfl⟩) rfl (tm_rec2 hC hw1_ρ_0 rfl) rfl (by simp [Value.category]) dX6_used_93 (fun v_93 w_93 hp_93 => ?_)
                  obtain ⟨rfl, rfl, hb_93⟩ := hp_93
                  show tm_V x (tm_H x w1) 0 0 96 [(0, .ref (ρ 0)), (1, .long (L64 (pB))), (3, .long (L64 (aA + ((s_wo σ (3 * (kb : Int))) * (s_wo σ (3 * (kb : Int) + 1)))))), (5, .int (I ((kb : Int)))), (6, .int (I ((kn : Int))))] [.int (I (s_cu σ (4 * (kn : Int) + 3))), .ref (ρ 0), .long (L64 ((s_cu σ (4 * (kn : Int) + 2)) - (s_cu σ (4 * (kn : Int) + 1)))), .long (L64 (pB))]
                  refine tm_iconst hC dX6_used_96 ?_
                  refine tm_callV (b := 0) (n := 0) (rest := [.long (L64 ((s_cu σ (4 * (kn : Int) + 2)) - (s_cu σ (4 * (kn : Int) + 1)))), .long (L64 (pB))]) hC (c_M_want (tm_g x) hst w1 ρ 0 sf se σ hM_w1 hw (s_cu σ (4 * (kn : Int) + 3)) (by omega) 1 (by omega) ) k_X6_79 (by rw [hB.2.2.1]; exact ⟨Nat.le_of_ble_eq_true rfl, Nat.le_of_ble_eq_true rfl⟩) rfl (tm_rec2 hC hw1_ρ_0 rfl) rfl (by simp [Value.category]) dX6_used_97 (fun v_97 w_97 hp_97 => ?_)
                  obtain ⟨rfl, rfl, hb_97⟩ := hp_97
                  show tm_V x (tm_H x w1) 0 0 100 [(0, .ref (ρ 0)), (1, .long (L64 (pB))), (3, .long (L64 (aA + ((s_wo σ (3 * (kb : Int))) * (s_wo σ (3 * (kb : Int) + 1)))))), (5, .int (I ((kb : Int)))), (6, .int (I ((kn : Int))))] [.int (I (s_wa σ (4 * (s_cu σ (4 * (kn : Int) + 3)) + 1))), .long (L64 ((s_cu σ (4 * (kn : Int) + 2)) - (s_cu σ (4 * (kn : Int) + 1)))), .long (L64 (pB))]
                  refine tm_i2lZ hC (by omega) dX6_used_100 ?_
                  refine tm_lmulZ hC dX6_used_101 ?_
                  refine tm_goto 106 hC dX6_used_102 (by decide) ?_
                  refine tm_laddZ hC dX6_used_106 ?_
                  refine tm_lstore_n [(1, .long (L64 (pB + (((s_cu σ (4 * (kn : Int) + 2)) - (s_cu σ (4 * (kn : Int) + 1))) * (s_wa σ (4 * (s_cu σ (4 * (kn : Int) + 3)) + 1)))))), (0, .ref (ρ 0)), (3, .long (L64 (aA + ((s_wo σ (3 * (kb : Int))) * (s_wo σ (3 * (kb : Int) + 1)))))), (5, .int (I ((kb : Int)))), (6, .int (I ((kn : Int))))] hC dX6_used_107 rfl (by rw [hB.2.1]; exact Nat.le_of_ble_eq_true rfl) rfl ?_
                  refine tm_iinc 4 [(6, .int (I ((kn : Int) + 1))), (1, .long (L64 (pB + (((s_cu σ (4 * (kn : Int) + 2)) - (s_cu σ (4 * (kn : Int) + 1))) * (s_wa σ (4 * (s_cu σ (4 * (kn : Int) + 3)) + 1)))))), (0, .ref (ρ 0)), (3, .long (L64 (aA + ((s_wo σ (3 * (kb : Int))) * (s_wo σ (3 * (kb : Int) + 1)))))), (5, .int (I ((kb : Int))))] hC dX6_used_108 rfl (by rw [hB.2.1]; exact Nat.le_of_ble_eq_true rfl) rfl ?_
                  refine tm_goto 54 hC dX6_used_111 (by decide) ?_
                  refine tm_sub (L' := [(0, .ref (ρ 0)), (1, .long (L64 (pB + (((s_cu σ (4 * (kn : Int) + 2)) - (s_cu σ (4 * (kn : Int) + 1))) * (s_wa σ (4 * (s_cu σ (4 * (kn : Int) + 3)) + 1)))))), (3, .long (L64 (aA + ((s_wo σ (3 * (kb : Int))) * (s_wo σ (3 * (kb : Int) + 1)))))), (5, .int (I ((kb : Int)))), (6, .int (I ((kn : Int) + 1)))]) [2, 1, 3, 4, 0] rfl ?_
                  exact ih_54  (pB + (((s_cu σ (4 * (kn : Int) + 2)) - (s_cu σ (4 * (kn : Int) + 1))) * (s_wa σ (4 * (s_cu σ (4 * (kn : Int) + 3)) + 1)))) (kn + 1) (⟨by omega, by show pB + usC σ (kn : Int) = _; rw [csum_1 c_72, hpB]; omega⟩) (by omega)
          refine tm_sub (L' := [(0, .ref (ρ 0)), (1, .long (L64 (pA))), (3, .long (L64 (aA + ((s_wo σ (3 * (kb : Int))) * (s_wo σ (3 * (kb : Int) + 1)))))), (5, .int (I ((kb : Int)))), (6, .int (I (0)))]) [2, 3, 1, 4, 0] rfl ?_
          exact hL_54 _ pA 0 (⟨by omega, by show pA = pA + 0; omega⟩) (Nat.lt_succ_self _)
        · refine tm_goto 114 hC dX6_used_30 (by decide) ?_
          refine tm_iinc 3 [(5, .int (I ((kb : Int) + 1))), (0, .ref (ρ 0)), (1, .long (L64 (pA))), (3, .long (L64 (aA)))] hC dX6_used_114 rfl (by rw [hB.2.1]; exact Nat.le_of_ble_eq_true rfl) rfl ?_
          refine tm_goto 12 hC dX6_used_117 (by decide) ?_
          refine tm_sub (L' := [(0, .ref (ρ 0)), (1, .long (L64 (pA))), (3, .long (L64 (aA))), (5, .int (I ((kb : Int) + 1)))]) [1, 2, 3, 0] rfl ?_
          exact ih_12  pA aA (kb + 1) (⟨by omega, aA, pA, ks_24, hus, hks_24, Or.inl ⟨List.length_eq_zero_iff.mp (by omega), rfl, rfl⟩⟩) (by omega)
  refine tm_sub (L' := [(0, .ref (ρ 0)), (1, .long (L64 (0))), (3, .long (L64 (0))), (5, .int (I (0)))]) [3, 2, 1, 0] rfl ?_
  exact hL_12 _ 0 0 0 (⟨by omega, rfl, rfl⟩) (Nat.lt_succ_self _)

theorem rm_ne {T : ClassId × ClassId × ClassId × ClassId} {Λ : tmL} {ρ : Nat → Nat} {th sf se : Int} {σ : ST} (h : RM T Λ ρ th sf se σ) {q : Nat} (hq : Λ q = none) : ∀ i, i < 7 → ρ i ≠ q := by
  obtain ⟨h0, h1, h2, h3, h4, h5, h6, -⟩ := h
  intro i hi e
  subst e
  have : i = 0 ∨ i = 1 ∨ i = 2 ∨ i = 3 ∨ i = 4 ∨ i = 5 ∨ i = 6 := by omega
  rcases this with e | e | e | e | e | e | e <;> subst e
  · rw [h0] at hq; cases hq
  · rw [h1] at hq; cases hq
  · rw [h2] at hq; cases hq
  · rw [h3] at hq; cases hq
  · rw [h4] at hq; cases hq
  · rw [h5] at hq; cases hq
  · rw [h6] at hq; cases hq

set_option maxHeartbeats 4000000 in
set_option maxRecDepth 100000 in
theorem c_M_bestUse (γ : tmG) (hst : γ.1.stackTraces = false) (Λ : tmL) (ρ : Nat → Nat) (th sf se : Int) (σ : ST) (hM : RM γ.2.2.1 Λ ρ th sf se σ) (hw : WF0 σ) (b g l : Int) (hr : (-2147483648 ≤ b ∧ b ≤ 2147483647) ∧ (-2147483648 ≤ g ∧ g ≤ 2147483647) ∧ (-2147483648 ≤ l ∧ l ≤ 2147483647)) : tm_Con γ (tm_h2 γ.2.1 γ.2.2.1 γ.2.2.2.1) M_X6_bestUse 4 1 3011 [.ref (ρ 0), .int (I (b)), .int (I (g)), .int (I (l))] Λ (fun v w' => ∃ k sf' se' r, RM γ.2.2.1 w' ρ k sf' se' σ ∧ v = some (.int (I r)) ∧ Sp_best σ b g l k r) := by
  refine tm_con hst (by decide) (Nat.le_of_ble_eq_true rfl) (fun x hB hR => ?_)
  have hg := hB.1
  subst hg
  have hC : tm_C x cX6_bestUse RX6 (some FieldType.int) := hB.2.2.2.1
  obtain ⟨hm0, hm1, hm2, hm3, hm4, hm5, hm6, hmd⟩ := id hM
  have hn := wf_n hw
  show tm_V x (tm_H x Λ) 1 3011 0 [(0, .ref (ρ 0)), (1, .int (I (b))), (2, .int (I (g))), (3, .int (I (l)))] []
  refine tm_aload_n 0 hC dX6_bestUse_0 rfl rfl ?_
  refine tm_iconst hC dX6_bestUse_1 ?_
  refine tm_putf2 hC f_X6_36 hm0 (tt_7_0 _) (Nat.le_of_ble_eq_true rfl) dX6_bestUse_2 ?_
  obtain ⟨w1, hw2⟩ : ∃ z, z = tm_u2 Λ (ρ 0) (.inr (7, [.int (I (0)), .int (I (s_nb σ)), .ref (ρ 1), .int (I (s_nd σ)), .ref (ρ 2), .int (I (s_np σ)), .ref (ρ 3), .ref (ρ 4), .int (I (s_sw σ)), .int (I (s_jt σ)), .int (I (s_nm σ)), .ref (ρ 5), .ref (ρ 6), .int (I (sf)), .int (I (se))])) := ⟨_, rfl⟩
  show tm_V x (tm_H x (tm_u2 Λ (ρ 0) (.inr (7, [.int (I (0)), .int (I (s_nb σ)), .ref (ρ 1), .int (I (s_nd σ)), .ref (ρ 2), .int (I (s_np σ)), .ref (ρ 3), .ref (ρ 4), .int (I (s_sw σ)), .int (I (s_jt σ)), .int (I (s_nm σ)), .ref (ρ 5), .ref (ρ 6), .int (I (sf)), .int (I (se))])))) 1 3011 5 [(0, .ref (ρ 0)), (1, .int (I (b))), (2, .int (I (g))), (3, .int (I (l)))] []
  rw [← hw2]
  have hw1_ρ_0 : w1 (ρ 0) = some (.inl (.inr (7, [.int (I (0)), .int (I (s_nb σ)), .ref (ρ 1), .int (I (s_nd σ)), .ref (ρ 2), .int (I (s_np σ)), .ref (ρ 3), .ref (ρ 4), .int (I (s_sw σ)), .int (I (s_jt σ)), .int (I (s_nm σ)), .ref (ρ 5), .ref (ρ 6), .int (I (sf)), .int (I (se))]))) := by rw [hw2]; first | done | exact tm_u2_s
  have hw1_ρ_1 := (show w1 (ρ 1) = _ by rw [hw2]; exact tm_u2_n (fun z => absurd (hm0.symm.trans (z ▸ hm1)) (by intro q; cases q))).trans hm1
  have hw1_ρ_2 := (show w1 (ρ 2) = _ by rw [hw2]; exact tm_u2_n (fun z => absurd (hm0.symm.trans (z ▸ hm2)) (by intro q; cases q))).trans hm2
  have hw1_ρ_3 := (show w1 (ρ 3) = _ by rw [hw2]; exact tm_u2_n (fun z => absurd (hm0.symm.trans (z ▸ hm3)) (by intro q; cases q))).trans hm3
  have hw1_ρ_4 := (show w1 (ρ 4) = _ by rw [hw2]; exact tm_u2_n (fun z => absurd (hm0.symm.trans (z ▸ hm4)) (by intro q; cases q))).trans hm4
  have hw1_ρ_5 := (show w1 (ρ 5) = _ by rw [hw2]; exact tm_u2_n (fun z => absurd (hm0.symm.trans (z ▸ hm5)) (by intro q; cases q))).trans hm5
  have hw1_ρ_6 := (show w1 (ρ 6) = _ by rw [hw2]; exact tm_u2_n (fun z => absurd (hm0.symm.trans (z ▸ hm6)) (by intro q; cases q))).trans hm6
  have hM_w1 : RM (tm_T x) w1 ρ 0 sf se σ := ⟨hw1_ρ_0, hw1_ρ_1, hw1_ρ_2, hw1_ρ_3, hw1_ρ_4, hw1_ρ_5, hw1_ρ_6, hmd⟩
  refine tm_aload_n 0 hC dX6_bestUse_5 rfl rfl ?_
  refine tm_iload_n 1 hC dX6_bestUse_6 rfl rfl ?_
  refine tm_callV (b := 1) (n := 3011) (rest := []) hC (c_M_isBoard (tm_g x) hst w1 ρ 0 sf se σ hM_w1 hw b (by omega) ) k_X6_53 (by rw [hB.2.2.1]; exact ⟨Nat.le_of_ble_eq_true rfl, Nat.le_of_ble_eq_true rfl⟩) rfl (tm_rec2 hC hw1_ρ_0 rfl) rfl (by decide) dX6_bestUse_7 (fun v_7 w_7 hp_7 => ?_)
  obtain ⟨rfl, rfl⟩ := hp_7
  show tm_V x (tm_H x w1) 1 3011 10 [(0, .ref (ρ 0)), (1, .int (I (b))), (2, .int (I (g))), (3, .int (I (l)))] [.int (I (bi (0 ≤ b ∧ b ≤ s_nb σ - 1)))]
  refine tm_ifb_ne 19 hC dX6_bestUse_10 (by decide) (fun c_10 => ?_) (fun c_10 => ?_)
  · have hb9 := wf_b hw b (by omega)
    refine tm_iload_n 2 hC dX6_bestUse_19 rfl rfl ?_
    refine tm_iconst hC dX6_bestUse_20 ?_
    refine tm_iconst hC dX6_bestUse_21 ?_
    refine tm_callS (b := 1) (n := 3011) (rest := []) hC (c_M_isIn (tm_g x) hst _ w1 g 0 3 (by omega)) k_X6_42 (by rw [hB.2.2.1]; exact ⟨Nat.le_of_ble_eq_true rfl, Nat.le_of_ble_eq_true rfl⟩) rfl rfl (by decide) dX6_bestUse_22 (fun v_22 w_22 hp_22 => ?_)
    obtain ⟨rfl, rfl⟩ := hp_22
    show tm_V x (tm_H x w1) 1 3011 25 [(0, .ref (ρ 0)), (1, .int (I (b))), (2, .int (I (g))), (3, .int (I (l)))] [.int (I (bi (0 ≤ g ∧ g ≤ 3)))]
    refine tm_ifb_eq 39 hC dX6_bestUse_25 (by decide) (fun c_25 => ?_) (fun c_25 => ?_)
    · refine tm_aload_n 0 hC dX6_bestUse_39 rfl rfl ?_
      refine tm_iconst hC dX6_bestUse_40 ?_
      refine tm_callV (b := 1) (n := 3011) (rest := []) hC (c_M_fail (tm_g x) hst w1 ρ 0 sf se σ hM_w1 hw 2) k_X6_49 (by rw [hB.2.2.1]; exact ⟨Nat.le_of_ble_eq_true rfl, Nat.le_of_ble_eq_true rfl⟩) rfl (tm_rec2 hC hw1_ρ_0 rfl) rfl (by decide) dX6_bestUse_41 (fun v_41 w_41 hp_41 => ?_)
      obtain ⟨hf_41, rfl⟩ := hp_41
      obtain ⟨hm0_41, hm1_41, hm2_41, hm3_41, hm4_41, hm5_41, hm6_41, -⟩ := id hf_41
      show tm_V x (tm_H x w_41) 1 3011 44 [(0, .ref (ρ 0)), (1, .int (I (b))), (2, .int (I (g))), (3, .int (I (l)))] [.int (I (0))]
      exact tm_iret hC hR dX6_bestUse_44 (⟨2, sf, se, 0, hf_41, rfl, Or.inr (Or.inl ⟨by omega, by omega, rfl⟩)⟩)
    · refine tm_iload_n 3 hC dX6_bestUse_28 rfl rfl ?_
      refine tm_iconst hC dX6_bestUse_29 ?_
      refine tm_sipush hC dX6_bestUse_30 rfl ?_
      refine tm_callS (b := 1) (n := 3011) (rest := []) hC (c_M_isIn (tm_g x) hst _ w1 l 0 3000 (by omega)) k_X6_42 (by rw [hB.2.2.1]; exact ⟨Nat.le_of_ble_eq_true rfl, Nat.le_of_ble_eq_true rfl⟩) rfl rfl (by decide) dX6_bestUse_33 (fun v_33 w_33 hp_33 => ?_)
      obtain ⟨rfl, rfl⟩ := hp_33
      show tm_V x (tm_H x w1) 1 3011 36 [(0, .ref (ρ 0)), (1, .int (I (b))), (2, .int (I (g))), (3, .int (I (l)))] [.int (I (bi (0 ≤ l ∧ l ≤ 3000)))]
      refine tm_ifb_ne 45 hC dX6_bestUse_36 (by decide) (fun c_36 => ?_) (fun c_36 => ?_)
      · refine tm_iload_n 3 hC dX6_bestUse_45 rfl rfl ?_
        refine tm_aload_n 0 hC dX6_bestUse_46 rfl rfl ?_
        refine tm_getf2 hC f_X6_23 hw1_ρ_0 rfl dX6_bestUse_47 ?_
        refine tm_iadd hC dX6_bestUse_50 ?_
        refine tm_istore [(4, .int (I (l + (s_sw σ)))), (0, .ref (ρ 0)), (1, .int (I (b))), (2, .int (I (g))), (3, .int (I (l)))] hC dX6_bestUse_51 (by rw [hB.2.1]; exact Nat.le_of_ble_eq_true rfl) rfl ?_
        refine tm_iload 0 hC dX6_bestUse_53 rfl ?_
        refine tm_iconst hC dX6_bestUse_55 ?_
        refine tm_iadd hC dX6_bestUse_56 ?_
        refine tm_less (b' := 1 + 0) (n' := ((l + (s_sw σ)) + 1 : Int).toNat + 0) ⟨by omega, by omega⟩ ?_
        refine tm_newi2 hC (by omega) w_arr_int dX6_bestUse_57 (fun q3 hq4 => ?_)
        obtain ⟨w5, hw6⟩ : ∃ z, z = tm_u2 w1 q3 (tm_ai (tm_T x) (((l + (s_sw σ)) + 1 : Int).toNat) (fun _ => 0)) := ⟨_, rfl⟩
        show tm_V x (tm_H x (tm_u2 w1 q3 (tm_ai (tm_T x) (((l + (s_sw σ)) + 1 : Int).toNat) (fun _ => 0)))) 0 0 59 [(4, .int (I (l + (s_sw σ)))), (0, .ref (ρ 0)), (1, .int (I (b))), (2, .int (I (g))), (3, .int (I (l)))] [.ref (q3)]
        rw [← hw6]
        have hw5_q3 : w5 q3 = some (.inl (tm_ai (tm_T x) (((l + (s_sw σ)) + 1 : Int).toNat) (fun _ => 0))) := by rw [hw6]; first | done | exact tm_u2_s
        have hw5_ρ_0 := (show w5 (ρ 0) = _ by rw [hw6]; exact tm_u2_n (fun z => by subst z; rw [hw1_ρ_0] at hq4; cases hq4)).trans hw1_ρ_0
        have hw5_ρ_1 := (show w5 (ρ 1) = _ by rw [hw6]; exact tm_u2_n (fun z => by subst z; rw [hw1_ρ_1] at hq4; cases hq4)).trans hw1_ρ_1
        have hw5_ρ_2 := (show w5 (ρ 2) = _ by rw [hw6]; exact tm_u2_n (fun z => by subst z; rw [hw1_ρ_2] at hq4; cases hq4)).trans hw1_ρ_2
        have hw5_ρ_3 := (show w5 (ρ 3) = _ by rw [hw6]; exact tm_u2_n (fun z => by subst z; rw [hw1_ρ_3] at hq4; cases hq4)).trans hw1_ρ_3
        have hw5_ρ_4 := (show w5 (ρ 4) = _ by rw [hw6]; exact tm_u2_n (fun z => by subst z; rw [hw1_ρ_4] at hq4; cases hq4)).trans hw1_ρ_4
        have hw5_ρ_5 := (show w5 (ρ 5) = _ by rw [hw6]; exact tm_u2_n (fun z => by subst z; rw [hw1_ρ_5] at hq4; cases hq4)).trans hw1_ρ_5
        have hw5_ρ_6 := (show w5 (ρ 6) = _ by rw [hw6]; exact tm_u2_n (fun z => by subst z; rw [hw1_ρ_6] at hq4; cases hq4)).trans hw1_ρ_6
        have hqn : ∀ i, i < 7 → ρ i ≠ q3 := rm_ne hM_w1 hq4
        have hM_w5 : RM (tm_T x) w5 ρ 0 sf se σ := ⟨hw5_ρ_0, hw5_ρ_1, hw5_ρ_2, hw5_ρ_3, hw5_ρ_4, hw5_ρ_5, hw5_ρ_6, hmd⟩
        refine tm_astore [(5, .ref (q3)), (4, .int (I (l + (s_sw σ)))), (0, .ref (ρ 0)), (1, .int (I (b))), (2, .int (I (g))), (3, .int (I (l)))] hC dX6_bestUse_59 (by rw [hB.2.1]; exact Nat.le_of_ble_eq_true rfl) rfl ?_
        refine tm_iconst hC dX6_bestUse_61 ?_
        refine tm_istore [(6, .int (I (0))), (5, .ref (q3)), (4, .int (I (l + (s_sw σ)))), (0, .ref (ρ 0)), (1, .int (I (b))), (2, .int (I (g))), (3, .int (I (l)))] hC dX6_bestUse_62 (by rw [hB.2.1]; exact Nat.le_of_ble_eq_true rfl) rfl ?_
        have hL_64 : ∀ (fu : Nat) (W1 : tmL) (f1 : Int → Int) (pn : Nat), (RM (tm_T x) W1 ρ 0 sf se σ ∧ W1 q3 = some (.inl (tm_ai (tm_T x) ((l + s_sw σ + 1 : Int).toNat) f1)) ∧ (pn : Int) ≤ s_np σ ∧ f1 = knN σ b g (l + s_sw σ) pn) → ((s_np σ - pn).toNat) < fu → tm_V x (tm_H x W1) 0 0 64 [(0, .ref (ρ 0)), (1, .int (I (b))), (2, .int (I (g))), (3, .int (I (l))), (4, .int (I (l + (s_sw σ)))), (5, .ref (q3)), (6, .int (I ((pn : Int))))] [] := by
          intro fu
          induction fu with
          | zero => intro W1 f1 pn hinv hm; exact absurd hm (Nat.not_lt_zero _)
          | succ fu ih_64 =>
            intro W1 f1 pn hinv_64 hm_64
            obtain ⟨hM1, hQ1, hpn, hf1⟩ := hinv_64
            have hB1 : knB f1 := by rw [hf1]; exact knN_b hw pn hpn
            obtain ⟨hm0_W1, hm1_W1, hm2_W1, hm3_W1, hm4_W1, hm5_W1, hm6_W1, -⟩ := id hM1
            skip
            refine tm_iload 6 hC dX6_bestUse_64 rfl ?_
            refine tm_aload_n 0 hC dX6_bestUse_66 rfl rfl ?_
            refine tm_getf2 hC f_X6_46 hm0_W1 rfl dX6_bestUse_67 ?_
            refine tm_icmp_ge 189 hC dX6_bestUse_70 (by decide) (by omega) (fun c_70 => ?_) (fun c_70 => ?_)
            · refine tm_aload 5 hC dX6_bestUse_189 rfl ?_
              refine tm_iload 4 hC dX6_bestUse_191 rfl ?_
              refine tm_iald2 hC hQ1 (by omega) dX6_bestUse_193 ?_
              exact tm_iret hC hR dX6_bestUse_194 (⟨0, sf, se, (f1 (l + (s_sw σ))), hM1, rfl, Or.inr (Or.inr ⟨by omega, by omega, rfl, by rw [hf1, show (s_np σ).toNat = pn by omega]⟩)⟩)
            · have hp9 := wf_p hw pn (by omega)
              refine tm_aload_n 0 hC dX6_bestUse_73 rfl rfl ?_
              refine tm_iload 6 hC dX6_bestUse_74 rfl ?_
              refine tm_iconst hC dX6_bestUse_76 ?_
              refine tm_callV (b := 0) (n := 0) (rest := []) hC (c_M_want (tm_g x) hst W1 ρ 0 sf se σ hM1 hw (pn : Int) (by omega) 1 (by omega) ) k_X6_79 (by rw [hB.2.2.1]; exact ⟨Nat.le_of_ble_eq_true rfl, Nat.le_of_ble_eq_true rfl⟩) rfl (tm_rec2 hC hm0_W1 rfl) rfl (by decide) dX6_bestUse_77 (fun v_77 w_77 hp_77 => ?_)
              obtain ⟨rfl, rfl, hb_77⟩ := hp_77
              show tm_V x (tm_H x W1) 0 0 80 [(0, .ref (ρ 0)), (1, .int (I (b))), (2, .int (I (g))), (3, .int (I (l))), (4, .int (I (l + (s_sw σ)))), (5, .ref (q3)), (6, .int (I ((pn : Int))))] [.int (I (s_wa σ (4 * (pn : Int) + 1)))]
              refine tm_aload_n 0 hC dX6_bestUse_80 rfl rfl ?_
              refine tm_iload_n 1 hC dX6_bestUse_81 rfl rfl ?_
              refine tm_callV (b := 0) (n := 0) (rest := [.int (I (s_wa σ (4 * (pn : Int) + 1)))]) hC (c_M_width (tm_g x) hst W1 ρ 0 sf se σ hM1 hw b (by omega) ) k_X6_107 (by rw [hB.2.2.1]; exact ⟨Nat.le_of_ble_eq_true rfl, Nat.le_of_ble_eq_true rfl⟩) rfl (tm_rec2 hC hm0_W1 rfl) rfl (by simp [Value.category]) dX6_bestUse_82 (fun v_82 w_82 hp_82 => ?_)
              obtain ⟨rfl, rfl, hb_82⟩ := hp_82
              show tm_V x (tm_H x W1) 0 0 85 [(0, .ref (ρ 0)), (1, .int (I (b))), (2, .int (I (g))), (3, .int (I (l))), (4, .int (I (l + (s_sw σ)))), (5, .ref (q3)), (6, .int (I ((pn : Int))))] [.int (I (s_wo σ (3 * b + 1))), .int (I (s_wa σ (4 * (pn : Int) + 1)))]
              refine tm_icmp_gt 183 hC dX6_bestUse_85 (by decide) (by omega) (fun c_85 => ?_) (fun c_85 => ?_)
              · refine tm_iinc 6 [(6, .int (I ((pn : Int) + 1))), (0, .ref (ρ 0)), (1, .int (I (b))), (2, .int (I (g))), (3, .int (I (l))), (4, .int (I (l + (s_sw σ)))), (5, .ref (q3))] hC dX6_bestUse_183 rfl (by rw [hB.2.1]; exact Nat.le_of_ble_eq_true rfl) rfl ?_
                refine tm_goto 64 hC dX6_bestUse_186 (by decide) ?_
                refine tm_sub (L' := [(0, .ref (ρ 0)), (1, .int (I (b))), (2, .int (I (g))), (3, .int (I (l))), (4, .int (I (l + (s_sw σ)))), (5, .ref (q3)), (6, .int (I ((pn : Int) + 1)))]) [1, 2, 3, 4, 5, 6, 0] rfl ?_
                exact ih_64  W1 f1 (pn + 1) (⟨hM1, hQ1, by omega, by rw [hf1]; exact (knN_0 (fun z => by omega)).symm⟩) (by omega)
              · refine tm_aload_n 0 hC dX6_bestUse_88 rfl rfl ?_
                refine tm_iload 6 hC dX6_bestUse_89 rfl ?_
                refine tm_iconst hC dX6_bestUse_91 ?_
                refine tm_callV (b := 0) (n := 0) (rest := []) hC (c_M_want (tm_g x) hst W1 ρ 0 sf se σ hM1 hw (pn : Int) (by omega) 2 (by omega) ) k_X6_79 (by rw [hB.2.2.1]; exact ⟨Nat.le_of_ble_eq_true rfl, Nat.le_of_ble_eq_true rfl⟩) rfl (tm_rec2 hC hm0_W1 rfl) rfl (by decide) dX6_bestUse_92 (fun v_92 w_92 hp_92 => ?_)
                obtain ⟨rfl, rfl, hb_92⟩ := hp_92
                show tm_V x (tm_H x W1) 0 0 95 [(0, .ref (ρ 0)), (1, .int (I (b))), (2, .int (I (g))), (3, .int (I (l))), (4, .int (I (l + (s_sw σ)))), (5, .ref (q3)), (6, .int (I ((pn : Int))))] [.int (I (s_wa σ (4 * (pn : Int) + 2)))]
                refine tm_iload_n 2 hC dX6_bestUse_95 rfl rfl ?_
                refine tm_icmp_ge 102 hC dX6_bestUse_96 (by decide) (by omega) (fun c_96 => ?_) (fun c_96 => ?_)
                · refine tm_aload_n 0 hC dX6_bestUse_102 rfl rfl ?_
                  refine tm_iload 6 hC dX6_bestUse_103 rfl ?_
                  refine tm_iconst hC dX6_bestUse_105 ?_
                  refine tm_callV (b := 0) (n := 0) (rest := []) hC (c_M_want (tm_g x) hst W1 ρ 0 sf se σ hM1 hw (pn : Int) (by omega) 0 (by omega) ) k_X6_79 (by rw [hB.2.2.1]; exact ⟨Nat.le_of_ble_eq_true rfl, Nat.le_of_ble_eq_true rfl⟩) rfl (tm_rec2 hC hm0_W1 rfl) rfl (by decide) dX6_bestUse_106 (fun v_106 w_106 hp_106 => ?_)
                  obtain ⟨rfl, rfl, hb_106⟩ := hp_106
                  show tm_V x (tm_H x W1) 0 0 109 [(0, .ref (ρ 0)), (1, .int (I (b))), (2, .int (I (g))), (3, .int (I (l))), (4, .int (I (l + (s_sw σ)))), (5, .ref (q3)), (6, .int (I ((pn : Int))))] [.int (I (s_wa σ (4 * (pn : Int) + 0)))]
                  refine tm_aload_n 0 hC dX6_bestUse_109 rfl rfl ?_
                  refine tm_getf2 hC f_X6_23 hm0_W1 rfl dX6_bestUse_110 ?_
                  refine tm_iadd hC dX6_bestUse_113 ?_
                  refine tm_istore [(7, .int (I ((s_wa σ (4 * (pn : Int) + 0)) + (s_sw σ)))), (0, .ref (ρ 0)), (1, .int (I (b))), (2, .int (I (g))), (3, .int (I (l))), (4, .int (I (l + (s_sw σ)))), (5, .ref (q3)), (6, .int (I ((pn : Int))))] hC dX6_bestUse_114 (by rw [hB.2.1]; exact Nat.le_of_ble_eq_true rfl) rfl ?_
                  refine tm_iconst hC dX6_bestUse_116 ?_
                  refine tm_istore [(8, .int (I (0))), (7, .int (I ((s_wa σ (4 * (pn : Int) + 0)) + (s_sw σ)))), (0, .ref (ρ 0)), (1, .int (I (b))), (2, .int (I (g))), (3, .int (I (l))), (4, .int (I (l + (s_sw σ)))), (5, .ref (q3)), (6, .int (I ((pn : Int))))] hC dX6_bestUse_117 (by rw [hB.2.1]; exact Nat.le_of_ble_eq_true rfl) rfl ?_
                  have hL_119 : ∀ (fu : Nat) (W2 : tmL) (f2 : Int → Int) (kn : Nat), (RM (tm_T x) W2 ρ 0 sf se σ ∧ W2 q3 = some (.inl (tm_ai (tm_T x) ((l + s_sw σ + 1 : Int).toNat) f2)) ∧ (kn : Int) ≤ s_wa σ (4 * (pn : Int) + 3) ∧ f2 = knI (s_wa σ (4 * (pn : Int) + 0) + s_sw σ) (s_wa σ (4 * (pn : Int) + 0)) (l + s_sw σ) f1 kn) → ((s_wa σ (4 * (pn : Int) + 3) - kn).toNat) < fu → tm_V x (tm_H x W2) 0 0 119 [(0, .ref (ρ 0)), (1, .int (I (b))), (2, .int (I (g))), (3, .int (I (l))), (4, .int (I (l + (s_sw σ)))), (5, .ref (q3)), (6, .int (I ((pn : Int)))), (7, .int (I ((s_wa σ (4 * (pn : Int) + 0)) + (s_sw σ)))), (8, .int (I ((kn : Int))))] [] := by
                    intro fu
                    induction fu with
                    | zero => intro W2 f2 kn hinv hm; exact absurd hm (Nat.not_lt_zero _)
                    | succ fu ih_119 =>
                      intro W2 f2 kn hinv_119 hm_119
                      obtain ⟨hM2, hQ2, hkn, hf2⟩ := hinv_119
                      have hB2 : knB f2 := by rw [hf2]; exact knI_b hB1 (by omega) (by omega) kn
                      obtain ⟨hm0_W2, hm1_W2, hm2_W2, hm3_W2, hm4_W2, hm5_W2, hm6_W2, -⟩ := id hM2
                      skip
                      refine tm_iload 8 hC dX6_bestUse_119 rfl ?_
                      refine tm_aload_n 0 hC dX6_bestUse_121 rfl rfl ?_
                      refine tm_iload 6 hC dX6_bestUse_122 rfl ?_
                      refine tm_iconst hC dX6_bestUse_124 ?_
                      refine tm_callV (b := 0) (n := 0) (rest := [.int (I ((kn : Int)))]) hC (c_M_want (tm_g x) hst W2 ρ 0 sf se σ hM2 hw (pn : Int) (by omega) 3 (by omega) ) k_X6_79 (by rw [hB.2.2.1]; exact ⟨Nat.le_of_ble_eq_true rfl, Nat.le_of_ble_eq_true rfl⟩) rfl (tm_rec2 hC hm0_W2 rfl) rfl (by simp [Value.category]) dX6_bestUse_125 (fun v_125 w_125 hp_125 => ?_)
                      obtain ⟨rfl, rfl, hb_125⟩ := hp_125
                      show tm_V x (tm_H x W2) 0 0 128 [(0, .ref (ρ 0)), (1, .int (I (b))), (2, .int (I (g))), (3, .int (I (l))), (4, .int (I (l + (s_sw σ)))), (5, .ref (q3)), (6, .int (I ((pn : Int)))), (7, .int (I ((s_wa σ (4 * (pn : Int) + 0)) + (s_sw σ)))), (8, .int (I ((kn : Int))))] [.int (I (s_wa σ (4 * (pn : Int) + 3))), .int (I ((kn : Int)))]
                      refine tm_icmp_ge 183 hC dX6_bestUse_128 (by decide) (by omega) (fun c_128 => ?_) (fun c_128 => ?_)
                      · refine tm_iinc 6 [(6, .int (I ((pn : Int) + 1))), (0, .ref (ρ 0)), (1, .int (I (b))), (2, .int (I (g))), (3, .int (I (l))), (4, .int (I (l + (s_sw σ)))), (5, .ref (q3)), (7, .int (I ((s_wa σ (4 * (pn : Int) + 0)) + (s_sw σ)))), (8, .int (I ((kn : Int))))] hC dX6_bestUse_183 rfl (by rw [hB.2.1]; exact Nat.le_of_ble_eq_true rfl) rfl ?_
                        refine tm_goto 64 hC dX6_bestUse_186 (by decide) ?_
                        refine tm_sub (L' := [(0, .ref (ρ 0)), (1, .int (I (b))), (2, .int (I (g))), (3, .int (I (l))), (4, .int (I (l + (s_sw σ)))), (5, .ref (q3)), (6, .int (I ((pn : Int) + 1)))]) [1, 2, 3, 4, 5, 6, 0] rfl ?_
                        exact ih_64  W2 f2 (pn + 1) (⟨hM2, hQ2, by omega, by rw [hf2, hf1, show kn = (s_wa σ (4 * (pn : Int) + 3)).toNat by omega]; exact (knN_1 ⟨by omega, by omega⟩).symm⟩) (by omega)
                      · refine tm_iload 4 hC dX6_bestUse_131 rfl ?_
                        refine tm_istore [(9, .int (I (l + (s_sw σ)))), (0, .ref (ρ 0)), (1, .int (I (b))), (2, .int (I (g))), (3, .int (I (l))), (4, .int (I (l + (s_sw σ)))), (5, .ref (q3)), (6, .int (I ((pn : Int)))), (7, .int (I ((s_wa σ (4 * (pn : Int) + 0)) + (s_sw σ)))), (8, .int (I ((kn : Int))))] hC dX6_bestUse_133 (by rw [hB.2.1]; exact Nat.le_of_ble_eq_true rfl) rfl ?_
                        have hL_135 : ∀ (fu : Nat) (W3 : tmL) (f3 : Int → Int) (r : Int), (RM (tm_T x) W3 ρ 0 sf se σ ∧ W3 q3 = some (.inl (tm_ai (tm_T x) ((l + s_sw σ + 1 : Int).toNat) f3)) ∧ (-1 ≤ r ∧ r ≤ l + s_sw σ) ∧ f3 = knP (s_wa σ (4 * (pn : Int) + 0) + s_sw σ) (s_wa σ (4 * (pn : Int) + 0)) (l + s_sw σ) f2 r) → ((r + 1).toNat) < fu → tm_V x (tm_H x W3) 0 0 135 [(0, .ref (ρ 0)), (1, .int (I (b))), (2, .int (I (g))), (3, .int (I (l))), (4, .int (I (l + (s_sw σ)))), (5, .ref (q3)), (6, .int (I ((pn : Int)))), (7, .int (I ((s_wa σ (4 * (pn : Int) + 0)) + (s_sw σ)))), (8, .int (I ((kn : Int)))), (9, .int (I (r)))] [] := by
                          intro fu
                          induction fu with
                          | zero => intro W3 f3 r hinv hm; exact absurd hm (Nat.not_lt_zero _)
                          | succ fu ih_135 =>
                            intro W3 f3 r hinv_135 hm_135
                            obtain ⟨hM3, hQ3, hr9, hf3⟩ := hinv_135
                            have hB3 : knB f3 := by rw [hf3]; exact knP_b hB2 (by omega) (by omega)
                            obtain ⟨hm0_W3, hm1_W3, hm2_W3, hm3_W3, hm4_W3, hm5_W3, hm6_W3, -⟩ := id hM3
                            skip
                            refine tm_iload 9 hC dX6_bestUse_135 rfl ?_
                            refine tm_iload 7 hC dX6_bestUse_137 rfl ?_
                            refine tm_icmp_lt 177 hC dX6_bestUse_139 (by decide) (by omega) (fun c_139 => ?_) (fun c_139 => ?_)
                            · refine tm_iinc 8 [(8, .int (I ((kn : Int) + 1))), (0, .ref (ρ 0)), (1, .int (I (b))), (2, .int (I (g))), (3, .int (I (l))), (4, .int (I (l + (s_sw σ)))), (5, .ref (q3)), (6, .int (I ((pn : Int)))), (7, .int (I ((s_wa σ (4 * (pn : Int) + 0)) + (s_sw σ)))), (9, .int (I (r)))] hC dX6_bestUse_177 rfl (by rw [hB.2.1]; exact Nat.le_of_ble_eq_true rfl) rfl ?_
                              refine tm_goto 119 hC dX6_bestUse_180 (by decide) ?_
                              refine tm_sub (L' := [(0, .ref (ρ 0)), (1, .int (I (b))), (2, .int (I (g))), (3, .int (I (l))), (4, .int (I (l + (s_sw σ)))), (5, .ref (q3)), (6, .int (I ((pn : Int)))), (7, .int (I ((s_wa σ (4 * (pn : Int) + 0)) + (s_sw σ)))), (8, .int (I ((kn : Int) + 1)))]) [1, 2, 3, 4, 5, 6, 7, 8, 0] rfl ?_
                              exact ih_119  W3 f3 (kn + 1) (⟨hM3, hQ3, by omega, by rw [hf3, knP_e (by omega) (by omega) (by omega), hf2]; rfl⟩) (by omega)
                            · have hv1 := hB3 r (by omega)
                              have hv2 := hB3 (r - (s_wa σ (4 * (pn : Int) + 0) + s_sw σ)) (by omega)
                              refine tm_aload 5 hC dX6_bestUse_142 rfl ?_
                              refine tm_iload 9 hC dX6_bestUse_144 rfl ?_
                              refine tm_aload 5 hC dX6_bestUse_146 rfl ?_
                              refine tm_iload 9 hC dX6_bestUse_148 rfl ?_
                              refine tm_iald2 hC hQ3 (by omega) dX6_bestUse_150 ?_
                              refine tm_aload 5 hC dX6_bestUse_151 rfl ?_
                              refine tm_iload 9 hC dX6_bestUse_153 rfl ?_
                              refine tm_iload 7 hC dX6_bestUse_155 rfl ?_
                              refine tm_isub hC dX6_bestUse_157 ?_
                              refine tm_iald2 hC hQ3 (by omega) dX6_bestUse_158 ?_
                              refine tm_aload_n 0 hC dX6_bestUse_159 rfl rfl ?_
                              refine tm_iload 6 hC dX6_bestUse_160 rfl ?_
                              refine tm_iconst hC dX6_bestUse_162 ?_
                              refine tm_callV (b := 0) (n := 0) (rest := [.int (I (f3 (r - ((s_wa σ (4 * (pn : Int) + 0)) + (s_sw σ))))), .int (I (f3 (r))), .int (I (r)), .ref (q3)]) hC (c_M_want (tm_g x) hst W3 ρ 0 sf se σ hM3 hw (pn : Int) (by omega) 0 (by omega) ) k_X6_79 (by rw [hB.2.2.1]; exact ⟨Nat.le_of_ble_eq_true rfl, Nat.le_of_ble_eq_true rfl⟩) rfl (tm_rec2 hC hm0_W3 rfl) rfl (by simp [Value.category]) dX6_bestUse_163 (fun v_163 w_163 hp_163 => ?_)
                              obtain ⟨rfl, rfl, hb_163⟩ := hp_163
                              show tm_V x (tm_H x W3) 0 0 166 [(0, .ref (ρ 0)), (1, .int (I (b))), (2, .int (I (g))), (3, .int (I (l))), (4, .int (I (l + (s_sw σ)))), (5, .ref (q3)), (6, .int (I ((pn : Int)))), (7, .int (I ((s_wa σ (4 * (pn : Int) + 0)) + (s_sw σ)))), (8, .int (I ((kn : Int)))), (9, .int (I (r)))] [.int (I (s_wa σ (4 * (pn : Int) + 0))), .int (I (f3 (r - ((s_wa σ (4 * (pn : Int) + 0)) + (s_sw σ))))), .int (I (f3 (r))), .int (I (r)), .ref (q3)]
                              refine tm_iadd hC dX6_bestUse_166 ?_
                              refine tm_mm hC true x_X6_83 (by omega) (by rw [hB.2.2.1]; exact ⟨Nat.le_of_ble_eq_true rfl, Nat.le_of_ble_eq_true rfl⟩) ((by simp [Value.category])) dX6_bestUse_167 ?_
                              show tm_V x (tm_H x W3) 0 0 170 [(0, .ref (ρ 0)), (1, .int (I (b))), (2, .int (I (g))), (3, .int (I (l))), (4, .int (I (l + (s_sw σ)))), (5, .ref (q3)), (6, .int (I ((pn : Int)))), (7, .int (I ((s_wa σ (4 * (pn : Int) + 0)) + (s_sw σ)))), (8, .int (I ((kn : Int)))), (9, .int (I (r)))] [.int (I (max (f3 (r)) ((f3 (r - ((s_wa σ (4 * (pn : Int) + 0)) + (s_sw σ)))) + (s_wa σ (4 * (pn : Int) + 0))))), .int (I (r)), .ref (q3)]
                              refine tm_iast2 hC hQ3 (by omega) dX6_bestUse_170 ?_
                              obtain ⟨w7, hw8⟩ : ∃ z, z = tm_u2 W3 q3 (tm_ai (tm_T x) (((l + (s_sw σ)) + 1 : Int).toNat) (tm_ui f3 (r) (max (f3 (r)) ((f3 (r - ((s_wa σ (4 * (pn : Int) + 0)) + (s_sw σ)))) + (s_wa σ (4 * (pn : Int) + 0)))))) := ⟨_, rfl⟩
                              show tm_V x (tm_H x (tm_u2 W3 q3 (tm_ai (tm_T x) (((l + (s_sw σ)) + 1 : Int).toNat) (tm_ui f3 (r) (max (f3 (r)) ((f3 (r - ((s_wa σ (4 * (pn : Int) + 0)) + (s_sw σ)))) + (s_wa σ (4 * (pn : Int) + 0)))))))) 0 0 171 [(0, .ref (ρ 0)), (1, .int (I (b))), (2, .int (I (g))), (3, .int (I (l))), (4, .int (I (l + (s_sw σ)))), (5, .ref (q3)), (6, .int (I ((pn : Int)))), (7, .int (I ((s_wa σ (4 * (pn : Int) + 0)) + (s_sw σ)))), (8, .int (I ((kn : Int)))), (9, .int (I (r)))] []
                              rw [← hw8]
                              have hw7_q3 : w7 q3 = some (.inl (tm_ai (tm_T x) (((l + (s_sw σ)) + 1 : Int).toNat) (tm_ui f3 (r) (max (f3 (r)) ((f3 (r - ((s_wa σ (4 * (pn : Int) + 0)) + (s_sw σ)))) + (s_wa σ (4 * (pn : Int) + 0))))))) := by rw [hw8]; first | done | exact tm_u2_s
                              have hw7_ρ_0 := (show w7 (ρ 0) = _ by rw [hw8]; exact tm_u2_n (hqn 0 (by decide))).trans hm0_W3
                              have hw7_ρ_1 := (show w7 (ρ 1) = _ by rw [hw8]; exact tm_u2_n (hqn 1 (by decide))).trans hm1_W3
                              have hw7_ρ_2 := (show w7 (ρ 2) = _ by rw [hw8]; exact tm_u2_n (hqn 2 (by decide))).trans hm2_W3
                              have hw7_ρ_3 := (show w7 (ρ 3) = _ by rw [hw8]; exact tm_u2_n (hqn 3 (by decide))).trans hm3_W3
                              have hw7_ρ_4 := (show w7 (ρ 4) = _ by rw [hw8]; exact tm_u2_n (hqn 4 (by decide))).trans hm4_W3
                              have hw7_ρ_5 := (show w7 (ρ 5) = _ by rw [hw8]; exact tm_u2_n (hqn 5 (by decide))).trans hm5_W3
                              have hw7_ρ_6 := (show w7 (ρ 6) = _ by rw [hw8]; exact tm_u2_n (hqn 6 (by decide))).trans hm6_W3
                              have hM_w7 : RM (tm_T x) w7 ρ 0 sf se σ := ⟨hw7_ρ_0, hw7_ρ_1, hw7_ρ_2, hw7_ρ_3, hw7_ρ_4, hw7_ρ_5, hw7_ρ_6, hmd⟩
                              refine tm_iinc 9 [(9, .int (I (r + (-1)))), (0, .ref (ρ 0)), (1, .int (I (b))), (2, .int (I (g))), (3, .int (I (l))), (4, .int (I (l + (s_sw σ)))), (5, .ref (q3)), (6, .int (I ((pn : Int)))), (7, .int (I ((s_wa σ (4 * (pn : Int) + 0)) + (s_sw σ)))), (8, .int (I ((kn : Int))))] hC dX6_bestUse_171 rfl (by rw [hB.2.1]; exact Nat.le_of_ble_eq_true rfl) rfl ?_
                              refine tm_goto 135 hC dX6_bestUse_174 (by decide) ?_
                              refine tm_sub (L' := [(0, .ref (ρ 0)), (1, .int (I (b))), (2, .int (I (g))), (3, .int (I (l))), (4, .int (I (l + (s_sw σ)))), (5, .ref (q3)), (6, .int (I ((pn : Int)))), (7, .int (I ((s_wa σ (4 * (pn : Int) + 0)) + (s_sw σ)))), (8, .int (I ((kn : Int)))), (9, .int (I (r + (-1))))]) [1, 2, 3, 4, 5, 6, 7, 8, 9, 0] rfl ?_
                              exact ih_135  w7 (tm_ui f3 (r) (max (f3 (r)) ((f3 (r - ((s_wa σ (4 * (pn : Int) + 0)) + (s_sw σ)))) + (s_wa σ (4 * (pn : Int) + 0))))) (r + (-1)) (⟨hM_w7, hw7_q3, by omega, by rw [hf3]; exact knP_s (by omega) (by omega) (by omega)⟩) (by omega)
                        refine tm_sub (L' := [(0, .ref (ρ 0)), (1, .int (I (b))), (2, .int (I (g))), (3, .int (I (l))), (4, .int (I (l + (s_sw σ)))), (5, .ref (q3)), (6, .int (I ((pn : Int)))), (7, .int (I ((s_wa σ (4 * (pn : Int) + 0)) + (s_sw σ)))), (8, .int (I ((kn : Int)))), (9, .int (I (l + (s_sw σ))))]) [1, 2, 3, 4, 5, 6, 7, 8, 9, 0] rfl ?_
                        exact hL_135 _ W2 f2 (l + (s_sw σ)) (⟨hM2, hQ2, by omega, knP_0.symm⟩) (Nat.lt_succ_self _)
                  refine tm_sub (L' := [(0, .ref (ρ 0)), (1, .int (I (b))), (2, .int (I (g))), (3, .int (I (l))), (4, .int (I (l + (s_sw σ)))), (5, .ref (q3)), (6, .int (I ((pn : Int)))), (7, .int (I ((s_wa σ (4 * (pn : Int) + 0)) + (s_sw σ)))), (8, .int (I (0)))]) [2, 3, 4, 5, 6, 7, 8, 1, 0] rfl ?_
                  exact hL_119 _ W1 f1 0 (⟨hM1, hQ1, by omega, rfl⟩) (Nat.lt_succ_self _)
                · refine tm_goto 183 hC dX6_bestUse_99 (by decide) ?_
                  refine tm_iinc 6 [(6, .int (I ((pn : Int) + 1))), (0, .ref (ρ 0)), (1, .int (I (b))), (2, .int (I (g))), (3, .int (I (l))), (4, .int (I (l + (s_sw σ)))), (5, .ref (q3))] hC dX6_bestUse_183 rfl (by rw [hB.2.1]; exact Nat.le_of_ble_eq_true rfl) rfl ?_
                  refine tm_goto 64 hC dX6_bestUse_186 (by decide) ?_
                  refine tm_sub (L' := [(0, .ref (ρ 0)), (1, .int (I (b))), (2, .int (I (g))), (3, .int (I (l))), (4, .int (I (l + (s_sw σ)))), (5, .ref (q3)), (6, .int (I ((pn : Int) + 1)))]) [1, 2, 3, 4, 5, 6, 0] rfl ?_
                  exact ih_64  W1 f1 (pn + 1) (⟨hM1, hQ1, by omega, by rw [hf1]; exact (knN_0 (fun z => by omega)).symm⟩) (by omega)
        refine tm_sub (L' := [(0, .ref (ρ 0)), (1, .int (I (b))), (2, .int (I (g))), (3, .int (I (l))), (4, .int (I (l + (s_sw σ)))), (5, .ref (q3)), (6, .int (I (0)))]) [3, 4, 5, 6, 2, 1, 0] rfl ?_
        exact hL_64 _ w5 (fun _ => 0) 0 (⟨hM_w5, hw5_q3, by omega, rfl⟩) (Nat.lt_succ_self _)
      · refine tm_aload_n 0 hC dX6_bestUse_39 rfl rfl ?_
        refine tm_iconst hC dX6_bestUse_40 ?_
        refine tm_callV (b := 1) (n := 3011) (rest := []) hC (c_M_fail (tm_g x) hst w1 ρ 0 sf se σ hM_w1 hw 2) k_X6_49 (by rw [hB.2.2.1]; exact ⟨Nat.le_of_ble_eq_true rfl, Nat.le_of_ble_eq_true rfl⟩) rfl (tm_rec2 hC hw1_ρ_0 rfl) rfl (by decide) dX6_bestUse_41 (fun v_41 w_41 hp_41 => ?_)
        obtain ⟨hf_41, rfl⟩ := hp_41
        obtain ⟨hm0_41, hm1_41, hm2_41, hm3_41, hm4_41, hm5_41, hm6_41, -⟩ := id hf_41
        show tm_V x (tm_H x w_41) 1 3011 44 [(0, .ref (ρ 0)), (1, .int (I (b))), (2, .int (I (g))), (3, .int (I (l)))] [.int (I (0))]
        exact tm_iret hC hR dX6_bestUse_44 (⟨2, sf, se, 0, hf_41, rfl, Or.inr (Or.inl ⟨by omega, by omega, rfl⟩)⟩)
  · refine tm_aload_n 0 hC dX6_bestUse_13 rfl rfl ?_
    refine tm_iconst hC dX6_bestUse_14 ?_
    refine tm_callV (b := 1) (n := 3011) (rest := []) hC (c_M_fail (tm_g x) hst w1 ρ 0 sf se σ hM_w1 hw 1) k_X6_49 (by rw [hB.2.2.1]; exact ⟨Nat.le_of_ble_eq_true rfl, Nat.le_of_ble_eq_true rfl⟩) rfl (tm_rec2 hC hw1_ρ_0 rfl) rfl (by decide) dX6_bestUse_15 (fun v_15 w_15 hp_15 => ?_)
    obtain ⟨hf_15, rfl⟩ := hp_15
    obtain ⟨hm0_15, hm1_15, hm2_15, hm3_15, hm4_15, hm5_15, hm6_15, -⟩ := id hf_15
    show tm_V x (tm_H x w_15) 1 3011 18 [(0, .ref (ρ 0)), (1, .int (I (b))), (2, .int (I (g))), (3, .int (I (l)))] [.int (I (0))]
    exact tm_iret hC hR dX6_bestUse_18 (⟨1, sf, se, 0, hf_15, rfl, Or.inl ⟨by omega, rfl⟩⟩)
