section
variable {x : tmX} {cc : ByteArray} {own : String} {ret : Option FieldType} {G : Heap → Prop} {b n pc : Nat} {L L' : List (Nat × Value)} {st : List Value}
theorem tm_tabIn {u lo hi dflt off : Int} {offs : Array Int} {ln : Nat} (tgt : Nat) (hC : tm_C x cc own ret) (hd : decode cc pc = .ok (.tableswitch dflt lo hi offs, ln)) (hr : -2147483648 ≤ u ∧ u ≤ 2147483647) (h : lo ≤ u ∧ u ≤ hi) (ho : offs[(u - lo).toNat]? = some off) (ht : (pc : Int) + off = (tgt : Int)) (k : tm_V x G b n tgt L st) : tm_V x G b n pc L (.int (I u) :: st) :=
  fun H locs ls cells slots h1 h2 hS hG hl => lv_tableIn hC.1 hC.2.1 hd (by rw [I_toInt hr]; omega) (by rw [I_toInt hr]; omega) (by rw [I_toInt hr]; exact ho) ht (k H locs ls cells slots h1 h2 hS hG hl)
theorem tm_tabOut {u lo hi dflt : Int} {offs : Array Int} {ln : Nat} (tgt : Nat) (hC : tm_C x cc own ret) (hd : decode cc pc = .ok (.tableswitch dflt lo hi offs, ln)) (hr : -2147483648 ≤ u ∧ u ≤ 2147483647) (h : u < lo ∨ hi < u) (ht : (pc : Int) + dflt = (tgt : Int)) (k : tm_V x G b n tgt L st) : tm_V x G b n pc L (.int (I u) :: st) :=
  fun H locs ls cells slots h1 h2 hS hG hl => lv_tableOut hC.1 hC.2.1 hd (by rw [I_toInt hr]; exact h) ht (k H locs ls cells slots h1 h2 hS hG hl)
end
/-! order on a board -/
theorem Srt_ge {σ : ST} (hw : WF0 σ) {b : Int} : ∀ (ks : List Int) (pl : Int), Srt σ b ks pl → ∀ (j : Nat) (k : Int), ks[j]? = some k → pl ≤ s_cu σ (4 * k + 1) := by
  intro ks
  induction ks with
  | nil => intro pl h j k hk; simp at hk
  | cons q r ih =>
    intro pl h j k hk
    obtain ⟨kq, e, h3, h4, h5, h6⟩ := Srt_c hw h h.2.1 (by have := h.1; omega)
    have k9 := wf_k hw q h4
    cases j with
    | zero => simp at hk; subst hk; exact h6
    | succ j => have := ih _ h.2.2 j k (by simpa using hk); omega
theorem Srt_lt {σ : ST} (hw : WF0 σ) {b : Int} : ∀ (ks : List Int) (pl : Int), Srt σ b ks pl → ∀ (i j : Nat) (k l : Int), i < j → ks[i]? = some k → ks[j]? = some l → s_cu σ (4 * k + 2) + s_sw σ ≤ s_cu σ (4 * l + 1) := by
  intro ks
  induction ks with
  | nil => intro pl h i j k l hij hk; simp at hk
  | cons q r ih =>
    intro pl h i j k l hij hk hl
    obtain ⟨kq, e, h3, h4, h5, h6⟩ := Srt_c hw h h.2.1 (by have := h.1; omega)
    have hn := wf_n hw
    cases j with
    | zero => omega
    | succ j =>
      cases i with
      | zero =>
        simp at hk; subst hk
        have hl' : r[j]? = some l := by simpa using hl
        have g1 := Srt_ge hw r _ h.2.2 j l hl'
        obtain ⟨g2, g3⟩ := Srt_mem hw r _ h.2.2 j l hl'
        have k1 := wf_k hw q h4
        have k2 := wf_k hw l g2
        rcases Int.lt_trichotomy q l with z | z | z
        · have := wf_s hw q l (by omega) z (by omega) (by rw [h5, g3]); omega
        · subst z; omega
        · have := wf_s hw l q (by omega) z (by omega) (by rw [h5, g3]); omega
      | succ i => exact ih _ h.2.2 i j k l (by omega) (by simpa using hk) (by simpa using hl)
theorem rmS_le {σ : ST} (hw : WF0 σ) {b : Int} {ks : List Int} (h : Srt σ b ks 0) {i j : Nat} {k : Int} (hk : ks[j]? = some k) (hj : j < i) (hi : i ≤ ks.length) : s_cu σ (4 * k + 2) + s_sw σ ≤ rmS σ ks i := by
  obtain ⟨i9, rfl⟩ : ∃ m, i = m + 1 := ⟨i - 1, by omega⟩
  have hl : i9 < ks.length := by omega
  rw [rmS_s (List.getElem?_eq_getElem hl)]
  rcases Nat.lt_or_ge j i9 with z | z
  · have h1 := Srt_lt hw ks 0 h j i9 k _ z hk (List.getElem?_eq_getElem hl)
    have h2 := wf_k hw _ (Srt_mem hw ks 0 h i9 _ (List.getElem?_eq_getElem hl)).1
    have hn := wf_n hw
    omega
  · have e : j = i9 := by omega
    subst e
    rw [List.getElem?_eq_getElem hl] at hk
    cases hk
    exact Int.le_refl _
theorem rmE_ge {σ : ST} (hw : WF0 σ) {b : Int} {ks : List Int} (h : Srt σ b ks 0) {i j : Nat} {k : Int} (hk : ks[j]? = some k) (hj : i ≤ j) : rmE σ b ks i ≤ s_cu σ (4 * k + 1) - s_sw σ := by
  obtain ⟨hl, -⟩ := List.getElem?_eq_some_iff.mp hk
  have hl2 : i < ks.length := by omega
  rw [rmE_k (List.getElem?_eq_getElem hl2)]
  rcases Nat.lt_or_ge i j with z | z
  · have h1 := Srt_lt hw ks 0 h i j _ k z (List.getElem?_eq_getElem hl2) hk
    have h2 := wf_k hw _ (Srt_mem hw ks 0 h i _ (List.getElem?_eq_getElem hl2)).1
    have hn := wf_n hw
    omega
  · have e : i = j := by omega
    subst e
    rw [List.getElem?_eq_getElem hl2] at hk
    cases hk
    exact Int.le_refl _
theorem rm_at {σ : ST} (hw : WF0 σ) {b : Int} {ks : List Int} (h : Srt σ b ks 0) {k : Int} (hk : 0 ≤ k ∧ k < s_nm σ) (e : s_cu σ (4 * k) = b) : ∃ j : Nat, ks[j]? = some k := List.getElem?_of_mem (srt_in hw h hk e)
def clr (σ : ST) (b q ln : Int) : Prop := ∀ k, 0 ≤ k ∧ k < s_nm σ → s_cu σ (4 * k) = b → s_cu σ (4 * k + 1) < q + ln + s_sw σ → s_cu σ (4 * k + 2) + s_sw σ ≤ q
theorem rm_clr {σ : ST} (hw : WF0 σ) {b q ln : Int} {ks : List Int} (h : Srt σ b ks 0) {i : Nat} (hi : i ≤ ks.length) (h1 : rmS σ ks i ≤ q) (h2 : q + ln ≤ rmE σ b ks i) : clr σ b q ln := by
  intro k hk e hf
  obtain ⟨j, hj⟩ := rm_at hw h hk e
  rcases Nat.lt_or_ge j i with z | z
  · have := rmS_le hw h hj z hi; omega
  · have := rmE_ge hw h hj z; omega
theorem rm_of {σ : ST} (hw : WF0 σ) {b q ln : Int} {ks : List Int} (h : Srt σ b ks 0) (h0 : 0 ≤ q) (hL : q + ln ≤ s_wo σ (3 * b)) (hc : clr σ b q ln) : ∃ i, i ≤ ks.length ∧ rmS σ ks i ≤ q ∧ q + ln ≤ rmE σ b ks i := by
  obtain ⟨i, h3, h4⟩ := pk_least (fun i : Nat => i = ks.length ∨ ∃ k, ks[i]? = some k ∧ q + ln + s_sw σ ≤ s_cu σ (4 * k + 1)) ⟨ks.length, Or.inl rfl⟩
  have hi : i ≤ ks.length := by
    rcases h3 with h3 | ⟨k, hk, -⟩
    · omega
    · obtain ⟨hl, -⟩ := List.getElem?_eq_some_iff.mp hk; omega
  refine ⟨i, hi, ?_, ?_⟩
  · cases i with
    | zero => rw [rmS_0]; exact h0
    | succ i9 =>
      have hl : i9 < ks.length := by omega
      have hk := List.getElem?_eq_getElem hl
      rw [rmS_s hk]
      obtain ⟨g1, g2⟩ := Srt_mem hw ks 0 h i9 _ hk
      refine hc _ g1 g2 ?_
      have h5 := h4 i9 (by omega)
      apply Int.lt_of_not_ge
      intro z
      exact h5 (Or.inr ⟨_, hk, by omega⟩)
  · rcases h3 with h3 | ⟨k, hk, h5⟩
    · rw [rmE_n (by omega)]; exact hL
    · rw [rmE_k hk]; omega
theorem rm_R {σ : ST} (hw : WF0 σ) {b pl : Int} {ks : List Int} (h : Srt σ b ks 0) {i : Nat} (hi : i ≤ ks.length) (hb : 0 ≤ b ∧ b < s_nb σ) (h1 : rmS σ ks i ≤ pl) (h2 : pl < rmE σ b ks i) : roomR σ b pl (rmE σ b ks i - rmS σ ks i) := by
  have hn := wf_n hw
  have hb9 := wf_b hw b hb
  refine ⟨rmS σ ks i, rmE σ b ks i, ⟨?_, fun k hk e1 e2 => ?_, ?_⟩, ⟨?_, fun k hk e1 e2 => ?_, ?_⟩, rfl⟩
  · cases i with
    | zero => rw [rmS_0]; exact Int.le_refl _
    | succ i9 =>
      have hl : i9 < ks.length := by omega
      have hk := List.getElem?_eq_getElem hl
      have := wf_k hw _ (Srt_mem hw ks 0 h i9 _ hk).1
      rw [rmS_s hk]; omega
  · obtain ⟨j, hj⟩ := rm_at hw h hk e1
    have k9 := wf_k hw k hk
    rcases Nat.lt_or_ge j i with z | z
    · exact rmS_le hw h hj z hi
    · have := rmE_ge hw h hj z; omega
  · cases i with
    | zero => exact Or.inl rmS_0
    | succ i9 =>
      have hl : i9 < ks.length := by omega
      have hk := List.getElem?_eq_getElem hl
      obtain ⟨g1, g2⟩ := Srt_mem hw ks 0 h i9 _ hk
      rw [rmS_s hk] at h1 ⊢
      exact Or.inr ⟨_, g1, g2, by omega, rfl⟩
  · rcases Nat.lt_or_ge i ks.length with z | z
    · have hk := List.getElem?_eq_getElem z
      obtain ⟨g1, g2⟩ := Srt_mem hw ks 0 h i _ hk
      have k9 := wf_k hw _ g1
      rw [g2] at k9
      rw [rmE_k hk]; omega
    · rw [rmE_n z]; exact Int.le_refl _
  · obtain ⟨j, hj⟩ := rm_at hw h hk e1
    have k9 := wf_k hw k hk
    rcases Nat.lt_or_ge j i with z | z
    · have := rmS_le hw h hj z hi; omega
    · exact rmE_ge hw h hj z
  · rcases Nat.lt_or_ge i ks.length with z | z
    · have hk := List.getElem?_eq_getElem z
      obtain ⟨g1, g2⟩ := Srt_mem hw ks 0 h i _ hk
      rw [rmE_k hk] at h2 ⊢
      exact Or.inr ⟨_, g1, g2, by omega, rfl⟩
    · exact Or.inl (rmE_n z)
/-! how many defects end ahead of a place -/
def cntT (σ : ST) : List Int → Int → Nat
  | [], _ => 0
  | d :: l, s => cntT σ l s + (if s_fl σ (4 * d + 2) ≤ s then 1 else 0)
theorem cntT_mono {σ : ST} {s t : Int} (h : s ≤ t) : ∀ l : List Int, cntT σ l s ≤ cntT σ l t := by
  intro l
  induction l with
  | nil => exact Nat.le_refl _
  | cons d r ih =>
    show cntT σ r s + (if s_fl σ (4 * d + 2) ≤ s then 1 else 0) ≤ cntT σ r t + (if s_fl σ (4 * d + 2) ≤ t then 1 else 0)
    by_cases e : s_fl σ (4 * d + 2) ≤ s
    · rw [if_pos e, if_pos (by omega)]; omega
    · rw [if_neg e]; omega
theorem cntT_lt {σ : ST} {s t : Int} (h : s ≤ t) {d : Int} (h1 : s < s_fl σ (4 * d + 2)) (h2 : s_fl σ (4 * d + 2) ≤ t) : ∀ l : List Int, d ∈ l → cntT σ l s + 1 ≤ cntT σ l t := by
  intro l
  induction l with
  | nil => intro hd; cases hd
  | cons q r ih =>
    intro hd
    show cntT σ r s + (if s_fl σ (4 * q + 2) ≤ s then 1 else 0) + 1 ≤ cntT σ r t + (if s_fl σ (4 * q + 2) ≤ t then 1 else 0)
    rcases List.mem_cons.mp hd with e | e
    · subst e
      have := cntT_mono (σ := σ) h r
      rw [if_neg (by omega), if_pos h2]; omega
    · have := ih e
      by_cases z : s_fl σ (4 * q + 2) ≤ s
      · rw [if_pos z, if_pos (by omega)]; omega
      · rw [if_neg z]; omega
theorem cntT_len {σ : ST} {s : Int} : ∀ l : List Int, cntT σ l s ≤ l.length := by
  intro l
  induction l with
  | nil => exact Nat.le_refl _
  | cons d r ih =>
    show cntT σ r s + (if s_fl σ (4 * d + 2) ≤ s then 1 else 0) ≤ r.length + 1
    by_cases e : s_fl σ (4 * d + 2) ≤ s
    · rw [if_pos e]; omega
    · rw [if_neg e]; omega
/-- from a bad place to the next good one a defect is passed -/
theorem fg_pass {σ : ST} (hw : WF0 σ) {b g e r s : Int} {ds : List Int} (hs : Dsr σ b ds) (hg : s_wo σ (3 * b + 2) ≤ g) (hse : s ≤ e) (he : ¬ gdP σ b g e) (hr : isFG σ b g e r) : cntT σ ds s + 1 ≤ cntT σ ds r := by
  have hx : ∃ d, (0 ≤ d ∧ d < s_nd σ) ∧ s_fl σ (4 * d) = b ∧ s_fl σ (4 * d + 1) ≤ e ∧ e < s_fl σ (4 * d + 2) ∧ g < s_fl σ (4 * d + 3) := by
    apply Classical.byContradiction
    intro z
    refine he ⟨hg, fun d hd e1 e2 e3 => Int.le_of_not_gt (fun q => z ⟨d, hd, e1, e2, e3, q⟩)⟩
  obtain ⟨d, hd, e1, e2, e3, e4⟩ := hx
  have hd9 := wf_d hw d hd
  rw [e1] at hd9
  have hto : s_fl σ (4 * d + 2) ≤ r := by
    apply Int.le_of_not_gt
    intro z
    have h1 := hr.1
    have := (hr.2.2.2 (by omega)).2 d hd e1 (by omega) z
    omega
  exact cntT_lt (by have := hr.1; omega) (by omega) hto ds ((hs.1 d).mpr ⟨hd, e1⟩)
theorem isFW_u {σ : ST} {b g pl r r' : Int} (h : isFW σ b g pl r) (h' : isFW σ b g pl r') : r = r' := by
  obtain ⟨h1, h2, h3, h4⟩ := h
  obtain ⟨g1, g2, g3, g4⟩ := h'
  rcases Int.lt_trichotomy r r' with q | q | q
  · exact absurd (g3 r h1 q) (h4 (by omega))
  · exact q
  · exact absurd (h3 r' g1 q) (g4 (by omega))
theorem str_fg {σ : ST} {b g fr s : Int} {ss : List (Int × Int)} (h : StrP σ b g ss fr) (hs : isFG σ b g fr s) (hl : s < s_wo σ (3 * b)) : ∃ e sq, ss = (s, e) :: sq ∧ isFW σ b g s e ∧ StrP σ b g sq e := by
  obtain ⟨f1, f2, f3, f4⟩ := hs
  cases ss with
  | nil => exact absurd (f4 hl) (h s f1 hl)
  | cons q sq =>
    obtain ⟨a, e⟩ := q
    obtain ⟨h1, h2, h3, h4, h5, h6, h7⟩ := h
    have ea : a = s := by
      rcases Int.lt_trichotomy a s with z | z | z
      · exact absurd (h5 a (Int.le_refl _) h2) (f3 a h1 z)
      · exact z
      · exact absurd (f4 hl) (h4 s f1 z)
    subst ea
    exact ⟨e, sq, rfl, ⟨by omega, h3, h5, h6⟩, h7⟩
theorem str_no {σ : ST} {b g fr s : Int} {ss : List (Int × Int)} (h : StrP σ b g ss fr) (hs : isFG σ b g fr s) (hl : ¬ s < s_wo σ (3 * b)) : ss = [] := by
  cases ss with
  | nil => rfl
  | cons q sq =>
    obtain ⟨a, e⟩ := q
    obtain ⟨h1, h2, h3, h4, h5, h6, h7⟩ := h
    exact absurd (h5 a (Int.le_refl _) h2) (hs.2.2.1 a h1 (by omega))
theorem str_at {σ : ST} {b g : Int} : ∀ (ss : List (Int × Int)) (fr : Int), StrP σ b g ss fr → ∀ (n : Nat) (s e : Int), ss[n]? = some (s, e) → (fr ≤ s ∧ s < s_wo σ (3 * b)) ∧ isFW σ b g s e := by
  intro ss
  induction ss with
  | nil => intro fr h n s e hn; simp at hn
  | cons q sq ih =>
    obtain ⟨a, e9⟩ := q
    intro fr h n s e hn
    obtain ⟨h1, h2, h3, h4, h5, h6, h7⟩ := h
    cases n with
    | zero =>
      simp at hn
      obtain ⟨rfl, rfl⟩ := hn
      exact ⟨⟨h1, by omega⟩, by omega, h3, h5, h6⟩
    | succ n =>
      obtain ⟨i1, i2⟩ := ih e9 h7 n s e (by simpa using hn)
      exact ⟨by omega, i2⟩
def AG (σ : ST) (b g q ln : Int) : Prop := ∀ j, q ≤ j → j < q + ln → gdP σ b g j
theorem ag_pos {σ : ST} (hw : WF0 σ) {b g pl ln : Int} (h1 : 1 ≤ ln) : AG σ b g pl ln ↔ (s_wo σ (3 * b + 2) ≤ g ∧ ∀ d, 0 ≤ d ∧ d < s_nd σ → s_fl σ (4 * d) = b → g < s_fl σ (4 * d + 3) → s_fl σ (4 * d + 1) < pl + ln → s_fl σ (4 * d + 2) ≤ pl) := by
  constructor
  · intro h
    refine ⟨(h pl (Int.le_refl _) (by omega)).1, fun d hd e1 e2 e3 => ?_⟩
    have hd9 := wf_d hw d hd
    apply Int.le_of_not_gt
    intro hz
    by_cases q : s_fl σ (4 * d + 1) ≤ pl
    · have := (h pl (Int.le_refl _) (by omega)).2 d hd e1 q hz; omega
    · have := (h (s_fl σ (4 * d + 1)) (by omega) e3).2 d hd e1 (Int.le_refl _) (by omega); omega
  · rintro ⟨g1, g2⟩ j j1 j2
    refine ⟨g1, fun d hd e1 e2 e3 => ?_⟩
    apply Int.le_of_not_gt
    intro hbad
    have := g2 d hd e1 hbad (by omega)
    omega
/-- the earliest place of a room -/
def isEW (σ : ST) (b g ln rs re r : Int) : Prop := (r = -1 ∧ ∀ q, rs ≤ q → q + ln ≤ re → ¬ AG σ b g q ln) ∨ ((rs ≤ r ∧ r + ln ≤ re) ∧ AG σ b g r ln ∧ ∀ q, rs ≤ q → q < r → ¬ AG σ b g q ln)
theorem ew_skip {σ : ST} {b g ln rs pl wr r : Int} (h1 : 1 ≤ ln) (hn : ∀ q, rs ≤ q → q < pl → ¬ AG σ b g q ln) (hw : isFW σ b g pl wr) (hl : wr < pl + ln) (hL : wr < s_wo σ (3 * b)) (hr : isFG σ b g wr r) : ∀ q, rs ≤ q → q < r → ¬ AG σ b g q ln := by
  intro q q1 q2 z
  by_cases e : q < pl
  · exact hn q q1 e z
  · by_cases e2 : q ≤ wr
    · exact hw.2.2.2 hL (z wr e2 (by omega))
    · exact hr.2.2.1 q (by omega) q2 (z q (Int.le_refl _) (by omega))
theorem poss_i {σ : ST} (hw : WF0 σ) {p b pl ln : Int} (h1 : 1 ≤ ln) : Poss σ p ln b pl ↔ (0 ≤ pl ∧ pl + ln ≤ s_wo σ (3 * b)) ∧ s_wa σ (4 * p + 1) ≤ s_wo σ (3 * b + 1) ∧ AG σ b (s_wa σ (4 * p + 2)) pl ln ∧ clr σ b pl ln := by
  rw [ag_pos hw h1]
  constructor
  · rintro ⟨a1, a2, a3, a4, a5, a6⟩; exact ⟨⟨a1, a2⟩, a3, ⟨a4, a5⟩, a6⟩
  · rintro ⟨⟨a1, a2⟩, a3, ⟨a4, a5⟩, a6⟩; exact ⟨a1, a2, a3, a4, a5, a6⟩
theorem earl_no {σ : ST} (hw : WF0 σ) {p b : Int} {ks : List Int} (hs : Srt σ b ks 0) (hl : 1 ≤ s_wa σ (4 * p + 0)) {i : Nat} (hi : ks.length < i) (h : ∀ j, j < i → ∀ q, rmS σ ks j ≤ q → q + s_wa σ (4 * p + 0) ≤ rmE σ b ks j → ¬ AG σ b (s_wa σ (4 * p + 2)) q (s_wa σ (4 * p + 0))) : isEarl σ p b (-1) := by
  refine Or.inl ⟨rfl, fun q z => ?_⟩
  obtain ⟨a1, a2, a3, a4⟩ := (poss_i hw hl).mp z
  obtain ⟨j, j1, j2, j3⟩ := rm_of hw hs a1.1 a1.2 a4
  exact h j (by omega) q j2 j3 a3
theorem earl_at {σ : ST} (hw : WF0 σ) {p b r : Int} (hb : 0 ≤ b ∧ b < s_nb σ) {ks : List Int} (hs : Srt σ b ks 0) (hl : 1 ≤ s_wa σ (4 * p + 0)) (hwd : s_wa σ (4 * p + 1) ≤ s_wo σ (3 * b + 1)) {i : Nat} (hi : i ≤ ks.length) (hr : 0 ≤ r) (h : ∀ j, j < i → ∀ q, rmS σ ks j ≤ q → q + s_wa σ (4 * p + 0) ≤ rmE σ b ks j → ¬ AG σ b (s_wa σ (4 * p + 2)) q (s_wa σ (4 * p + 0))) (he : isEW σ b (s_wa σ (4 * p + 2)) (s_wa σ (4 * p + 0)) (rmS σ ks i) (rmE σ b ks i) r) : isEarl σ p b r ∧ ∃ i, i ≤ ks.length ∧ rmS σ ks i ≤ r ∧ r < rmE σ b ks i := by
  have hn := wf_n hw
  rcases he with he | ⟨e1, e2, e3⟩
  · omega
  · have hE : rmE σ b ks i ≤ s_wo σ (3 * b) := by
      rcases Nat.lt_or_ge i ks.length with z | z
      · have hk := List.getElem?_eq_getElem z
        obtain ⟨g1, g2⟩ := Srt_mem hw ks 0 hs i _ hk
        have k9 := wf_k hw _ g1
        rw [g2] at k9
        rw [rmE_k hk]; omega
      · rw [rmE_n z]; exact Int.le_refl _
    refine ⟨Or.inr ⟨(poss_i hw hl).mpr ⟨⟨hr, by omega⟩, hwd, e2, rm_clr hw hs hi e1.1 e1.2⟩, fun q hq z => ?_⟩, i, hi, e1.1, by omega⟩
    obtain ⟨a1, a2, a3, a4⟩ := (poss_i hw hl).mp z
    obtain ⟨j, j1, j2, j3⟩ := rm_of hw hs a1.1 a1.2 a4
    rcases Nat.lt_trichotomy j i with c | c | c
    · exact h j c q j2 j3 a3
    · subst c; exact e3 q j2 hq a3
    · have hil : i < ks.length := by omega
      have hk := List.getElem?_eq_getElem hil
      have d1 := rmS_le hw hs hk c j1
      have d2 := wf_k hw _ (Srt_mem hw ks 0 hs i _ hk).1
      rw [rmE_k hk] at e1
      omega

set_option maxHeartbeats 4000000 in
set_option maxRecDepth 100000 in
theorem c_B_count (γ : tmG) (hst : γ.1.stackTraces = false) (Λ : tmL) (κ : KP) (σ : ST) (hM : RC γ.2.2.1 Λ κ σ) (hw : WF0 σ) (b : Int) (hb : 0 ≤ b ∧ b < s_nb σ) (g : Int) (hg : 0 ≤ g ∧ g ≤ 3) : tm_Con γ (tm_h2 γ.2.1 γ.2.2.1 γ.2.2.2.1) M_X0_countStretches 6 0 0 [.ref (k_bo κ b), .int (I (g))] Λ (fun v w' => Λ = w' ∧ ∃ ss : List (Int × Int), v = some (.int (I (ss.length : Int))) ∧ StrP σ b g ss 0 ∧ (ss.length : Int) ≤ 25) := by
  refine tm_con hst (by decide) (Nat.le_of_ble_eq_true rfl) (fun x hB hR => ?_)
  have hg := hB.1
  subst hg
  have hC : tm_C x cX0_countStretches RX0 (some FieldType.int) := hB.2.2.2.1
  have hn := wf_n hw
  have hb9 := wf_b hw b hb
  have hkl := rc_len hM hw b hb
  have hds := rc_dsr hM b hb
  obtain ⟨ss0, hss0⟩ := StrP_ex (σ := σ) (b := b) (g := g) (s_wo σ (3 * b)).toNat 0 (by omega)
  show tm_V x (tm_H x Λ) 0 0 0 [(0, .ref (k_bo κ b)), (1, .int (I (g)))] []
  refine tm_iconst hC dX0_countStretches_0 ?_
  refine tm_istore_n [(2, .int (I (0))), (0, .ref (k_bo κ b)), (1, .int (I (g)))] hC dX0_countStretches_1 rfl (by rw [hB.2.1]; exact Nat.le_of_ble_eq_true rfl) rfl ?_
  refine tm_aload_n 1 hC dX0_countStretches_2 rfl rfl ?_
  refine tm_iconst hC dX0_countStretches_3 ?_
  refine tm_iload_n 2 hC dX0_countStretches_4 rfl rfl ?_
  refine tm_callV (b := 0) (n := 0) (rest := []) hC (c_B_firstGood (tm_g x) hst Λ κ σ hM hw b (by omega) 0 g (by omega)) k_X0_73 (by rw [hB.2.2.1]; exact ⟨Nat.le_of_ble_eq_true rfl, Nat.le_of_ble_eq_true rfl⟩) rfl (tm_rec2 hC (rc_B hM b (by omega)) rfl) rfl (by decide) dX0_countStretches_5 (fun v_5 w_5 hp_5 => ?_)
  obtain ⟨rfl, fg_5, rfl, hfg_5⟩ := hp_5
  show tm_V x (tm_H x Λ) 0 0 8 [(2, .int (I (0))), (0, .ref (k_bo κ b)), (1, .int (I (g)))] [.int (I (fg_5))]
  have hfb_5 := hfg_5.1
  have hfc_5 := hfg_5.2.1
  refine tm_istore_n [(3, .int (I (fg_5))), (2, .int (I (0))), (0, .ref (k_bo κ b)), (1, .int (I (g)))] hC dX0_countStretches_8 rfl (by rw [hB.2.1]; exact Nat.le_of_ble_eq_true rfl) rfl ?_
  have hL_9 : ∀ (fu : Nat) (n9 : Nat) (s : Int) (fr : Int) (ss : List (Int × Int)), (StrP σ b g ss fr ∧ isFG σ b g fr s ∧ (0 ≤ fr ∧ fr ≤ s ∧ s ≤ s_wo σ (3 * b)) ∧ n9 + ss.length = ss0.length ∧ (n9 : Int) ≤ 25 ∧ (s < s_wo σ (3 * b) → n9 ≤ cntT σ (k_ds κ b) s)) → (ss.length) < fu → tm_V x (tm_H x Λ) 0 0 9 [(0, .ref (k_bo κ b)), (1, .int (I (g))), (2, .int (I ((n9 : Int)))), (3, .int (I (s)))] [] := by
    intro fu
    induction fu with
    | zero => intro n9 s fr ss hinv hm; exact absurd hm (Nat.not_lt_zero _)
    | succ fu ih_9 =>
      intro n9 s fr ss hinv_9 hm_9
      obtain ⟨hSt, hfg, hfr, hln, hn25, hct⟩ := hinv_9
      have hcl := cntT_len (σ := σ) (s := s) (k_ds κ b)
      refine tm_iload_n 3 hC dX0_countStretches_9 rfl rfl ?_
      refine tm_aload_n 0 hC dX0_countStretches_10 rfl rfl ?_
      have hx1 := rc_B hM b (by omega)
      refine tm_getf2 hC f_X0_19 hx1 rfl dX0_countStretches_11 ?_
      refine tm_icmp_ge 41 hC dX0_countStretches_14 (by decide) (by omega) (fun c_14 => ?_) (fun c_14 => ?_)
      · refine tm_iload_n 2 hC dX0_countStretches_41 rfl rfl ?_
        exact tm_iret hC hR dX0_countStretches_42 (⟨rfl, ss0, by (have := str_no hSt hfg (by omega)); (have e : n9 = ss0.length := by rw [this] at hln; simpa using hln); rw [e], hss0, by (have := str_no hSt hfg (by omega)); rw [this] at hln; simp at hln; omega⟩)
      · have c_14l : s < s_wo σ (3 * b) := by omega
        have hct9 := hct c_14l
        obtain ⟨e9, sq, hse, hfw9, hsq⟩ := str_fg hSt hfg c_14l
        have hsl : ss.length = sq.length + 1 := by rw [hse]; rfl
        refine tm_iload_n 2 hC dX0_countStretches_17 rfl rfl ?_
        refine tm_aload_n 0 hC dX0_countStretches_18 rfl rfl ?_
        refine tm_getf2 hC f_X0_10 hx1 rfl dX0_countStretches_19 ?_
        refine tm_callV (b := 0) (n := 0) (rest := [.int (I ((n9 : Int)))]) hC (c_Lsz (tm_g x) hst _ _ _ (((k_ds κ b).length : Int)) (rc_bd hM b (by omega)) (len_m _ _)) k_X0_29 (by rw [hB.2.2.1]; exact ⟨Nat.le_of_ble_eq_true rfl, Nat.le_of_ble_eq_true rfl⟩) rfl (tm_recL hC (rc_bd hM b (by omega))) rfl (by simp [Value.category]) dX0_countStretches_22 (fun v_22 w_22 hp_22 => ?_)
        obtain ⟨rfl, rfl⟩ := hp_22
        show tm_V x (tm_H x Λ) 0 0 25 [(0, .ref (k_bo κ b)), (1, .int (I (g))), (2, .int (I ((n9 : Int)))), (3, .int (I (s)))] [.int (I (((k_ds κ b).length : Int))), .int (I ((n9 : Int)))]
        refine tm_icmp_gt 41 hC dX0_countStretches_25 (by decide) (by omega) (fun c_25 => ?_) (fun c_25 => ?_)
        · exact ((by omega) : False).elim
        · refine tm_iinc 2 [(2, .int (I ((n9 : Int) + 1))), (0, .ref (k_bo κ b)), (1, .int (I (g))), (3, .int (I (s)))] hC dX0_countStretches_28 rfl (by rw [hB.2.1]; exact Nat.le_of_ble_eq_true rfl) rfl ?_
          refine tm_aload_n 1 hC dX0_countStretches_31 rfl rfl ?_
          refine tm_iload_n 3 hC dX0_countStretches_32 rfl rfl ?_
          refine tm_iload_n 2 hC dX0_countStretches_33 rfl rfl ?_
          refine tm_callV (b := 0) (n := 0) (rest := []) hC (c_B_next (tm_g x) hst Λ κ σ hM hw b (by omega) s g (by omega)) k_X0_76 (by rw [hB.2.2.1]; exact ⟨Nat.le_of_ble_eq_true rfl, Nat.le_of_ble_eq_true rfl⟩) rfl (tm_rec2 hC (rc_B hM b (by omega)) rfl) rfl (by decide) dX0_countStretches_34 (fun v_34 w_34 hp_34 => ?_)
          obtain ⟨rfl, nx_34, rfl, e8, hfw8, hfg9⟩ := hp_34
          have e89 := isFW_u hfw8 hfw9
          rw [e89] at hfg9
          have hnb1 := hfw9.1
          have hnb2 := hfw9.2.1
          have hnb3 := hfg9.1
          have hnb4 := hfg9.2.1
          show tm_V x (tm_H x Λ) 0 0 37 [(2, .int (I ((n9 : Int) + 1))), (0, .ref (k_bo κ b)), (1, .int (I (g))), (3, .int (I (s)))] [.int (I (nx_34))]
          refine tm_istore_n [(3, .int (I (nx_34))), (2, .int (I ((n9 : Int) + 1))), (0, .ref (k_bo κ b)), (1, .int (I (g)))] hC dX0_countStretches_37 rfl (by rw [hB.2.1]; exact Nat.le_of_ble_eq_true rfl) rfl ?_
          refine tm_goto 9 hC dX0_countStretches_38 (by decide) ?_
          refine tm_sub (L' := [(0, .ref (k_bo κ b)), (1, .int (I (g))), (2, .int (I ((n9 : Int) + 1))), (3, .int (I (nx_34)))]) [2, 3, 1, 0] rfl ?_
          exact ih_9  (n9 + 1) nx_34 e9 sq (⟨hsq, hfg9, by omega, by omega, by omega, fun z => (by have := fg_pass hw hds (hfg.2.2.2 c_14l).1 (show s ≤ e9 by omega) (hfw9.2.2.2 (by omega)) hfg9; have := hct c_14l; omega)⟩) (by rw [hsl] at hm_9; omega)
  refine tm_sub (L' := [(0, .ref (k_bo κ b)), (1, .int (I (g))), (2, .int (I (0))), (3, .int (I (fg_5)))]) [2, 3, 1, 0] rfl ?_
  exact hL_9 _ 0 fg_5 0 ss0 (⟨hss0, hfg_5, by omega, by omega, by omega, fun _ => Nat.zero_le _⟩) (Nat.lt_succ_self _)

set_option maxHeartbeats 4000000 in
set_option maxRecDepth 100000 in
theorem c_B_start (γ : tmG) (hst : γ.1.stackTraces = false) (Λ : tmL) (κ : KP) (σ : ST) (hM : RC γ.2.2.1 Λ κ σ) (hw : WF0 σ) (b : Int) (hb : 0 ≤ b ∧ b < s_nb σ) (g : Int) (hg : 0 ≤ g ∧ g ≤ 3) (m9 : Nat) (ss0 : List (Int × Int)) (hss0 : StrP σ b g ss0 0) (hm9 : m9 < ss0.length) (hl25 : (ss0.length : Int) ≤ 25) : tm_Con γ (tm_h2 γ.2.1 γ.2.2.1 γ.2.2.2.1) M_X0_stretchStart 6 0 0 [.ref (k_bo κ b), .int (I ((m9 : Int))), .int (I (g))] Λ (fun v w' => Λ = w' ∧ ∃ s e, v = some (.int (I s)) ∧ ss0[m9]? = some (s, e)) := by
  refine tm_con hst (by decide) (Nat.le_of_ble_eq_true rfl) (fun x hB hR => ?_)
  have hg := hB.1
  subst hg
  have hC : tm_C x cX0_stretchStart RX0 (some FieldType.int) := hB.2.2.2.1
  have hn := wf_n hw
  have hb9 := wf_b hw b hb
  have hkl := rc_len hM hw b hb
  show tm_V x (tm_H x Λ) 0 0 0 [(0, .ref (k_bo κ b)), (1, .int (I ((m9 : Int)))), (2, .int (I (g)))] []
  refine tm_aload_n 0 hC dX0_stretchStart_0 rfl rfl ?_
  refine tm_iconst hC dX0_stretchStart_1 ?_
  refine tm_iload_n 2 hC dX0_stretchStart_2 rfl rfl ?_
  refine tm_callV (b := 0) (n := 0) (rest := []) hC (c_B_firstGood (tm_g x) hst Λ κ σ hM hw b (by omega) 0 g (by omega)) k_X0_73 (by rw [hB.2.2.1]; exact ⟨Nat.le_of_ble_eq_true rfl, Nat.le_of_ble_eq_true rfl⟩) rfl (tm_rec2 hC (rc_B hM b (by omega)) rfl) rfl (by decide) dX0_stretchStart_3 (fun v_3 w_3 hp_3 => ?_)
  obtain ⟨rfl, fg_3, rfl, hfg_3⟩ := hp_3
  show tm_V x (tm_H x Λ) 0 0 6 [(0, .ref (k_bo κ b)), (1, .int (I ((m9 : Int)))), (2, .int (I (g)))] [.int (I (fg_3))]
  have hfb_3 := hfg_3.1
  have hfc_3 := hfg_3.2.1
  refine tm_istore_n [(3, .int (I (fg_3))), (0, .ref (k_bo κ b)), (1, .int (I ((m9 : Int)))), (2, .int (I (g)))] hC dX0_stretchStart_6 rfl (by rw [hB.2.1]; exact Nat.le_of_ble_eq_true rfl) rfl ?_
  refine tm_iconst hC dX0_stretchStart_7 ?_
  refine tm_istore [(4, .int (I (0))), (3, .int (I (fg_3))), (0, .ref (k_bo κ b)), (1, .int (I ((m9 : Int)))), (2, .int (I (g)))] hC dX0_stretchStart_8 (by rw [hB.2.1]; exact Nat.le_of_ble_eq_true rfl) rfl ?_
  have hL_10 : ∀ (fu : Nat) (i : Nat) (s : Int) (fr : Int) (ss : List (Int × Int)), (StrP σ b g ss fr ∧ isFG σ b g fr s ∧ (0 ≤ fr ∧ fr ≤ s ∧ s ≤ s_wo σ (3 * b)) ∧ i ≤ m9 ∧ ss0[m9]? = ss[m9 - i]?) → (m9 - i) < fu → tm_V x (tm_H x Λ) 0 0 10 [(0, .ref (k_bo κ b)), (1, .int (I ((m9 : Int)))), (2, .int (I (g))), (3, .int (I (s))), (4, .int (I ((i : Int))))] [] := by
    intro fu
    induction fu with
    | zero => intro i s fr ss hinv hm; exact absurd hm (Nat.not_lt_zero _)
    | succ fu ih_10 =>
      intro i s fr ss hinv_10 hm_10
      obtain ⟨hSt, hfg, hfr, him, hat⟩ := hinv_10
      have hsl : s < s_wo σ (3 * b) := by
        apply Int.lt_of_not_ge
        intro z
        rw [str_no hSt hfg (by omega), List.getElem?_eq_getElem hm9] at hat
        simp at hat
      obtain ⟨e9, sq, hse, hfw9, hsq⟩ := str_fg hSt hfg hsl
      refine tm_iload 4 hC dX0_stretchStart_10 rfl ?_
      refine tm_iload_n 1 hC dX0_stretchStart_12 rfl rfl ?_
      refine tm_icmp_ge 37 hC dX0_stretchStart_13 (by decide) (by omega) (fun c_13 => ?_) (fun c_13 => ?_)
      · refine tm_iload_n 3 hC dX0_stretchStart_37 rfl rfl ?_
        exact tm_iret hC hR dX0_stretchStart_38 (⟨rfl, s, e9, rfl, by rw [hat, hse, show m9 - i = 0 by omega]; rfl⟩)
      · refine tm_iload_n 3 hC dX0_stretchStart_16 rfl rfl ?_
        refine tm_aload_n 0 hC dX0_stretchStart_17 rfl rfl ?_
        have hx1 := rc_B hM b (by omega)
        refine tm_getf2 hC f_X0_19 hx1 rfl dX0_stretchStart_18 ?_
        refine tm_icmp_ge 37 hC dX0_stretchStart_21 (by decide) (by omega) (fun c_21 => ?_) (fun c_21 => ?_)
        · exact ((by omega) : False).elim
        · refine tm_aload_n 0 hC dX0_stretchStart_24 rfl rfl ?_
          refine tm_iload_n 3 hC dX0_stretchStart_25 rfl rfl ?_
          refine tm_iload_n 2 hC dX0_stretchStart_26 rfl rfl ?_
          refine tm_callV (b := 0) (n := 0) (rest := []) hC (c_B_next (tm_g x) hst Λ κ σ hM hw b (by omega) s g (by omega)) k_X0_76 (by rw [hB.2.2.1]; exact ⟨Nat.le_of_ble_eq_true rfl, Nat.le_of_ble_eq_true rfl⟩) rfl (tm_rec2 hC (rc_B hM b (by omega)) rfl) rfl (by decide) dX0_stretchStart_27 (fun v_27 w_27 hp_27 => ?_)
          obtain ⟨rfl, nx_27, rfl, e8, hfw8, hfg9⟩ := hp_27
          have e89 := isFW_u hfw8 hfw9
          have hnb1 := hfw9.1
          have hnb2 := hfw9.2.1
          rw [e89] at hfg9
          have hnb3 := hfg9.1
          have hnb4 := hfg9.2.1
          show tm_V x (tm_H x Λ) 0 0 30 [(0, .ref (k_bo κ b)), (1, .int (I ((m9 : Int)))), (2, .int (I (g))), (3, .int (I (s))), (4, .int (I ((i : Int))))] [.int (I (nx_27))]
          refine tm_istore_n [(3, .int (I (nx_27))), (0, .ref (k_bo κ b)), (1, .int (I ((m9 : Int)))), (2, .int (I (g))), (4, .int (I ((i : Int))))] hC dX0_stretchStart_30 rfl (by rw [hB.2.1]; exact Nat.le_of_ble_eq_true rfl) rfl ?_
          refine tm_iinc 4 [(4, .int (I ((i : Int) + 1))), (3, .int (I (nx_27))), (0, .ref (k_bo κ b)), (1, .int (I ((m9 : Int)))), (2, .int (I (g)))] hC dX0_stretchStart_31 rfl (by rw [hB.2.1]; exact Nat.le_of_ble_eq_true rfl) rfl ?_
          refine tm_goto 10 hC dX0_stretchStart_34 (by decide) ?_
          refine tm_sub (L' := [(0, .ref (k_bo κ b)), (1, .int (I ((m9 : Int)))), (2, .int (I (g))), (3, .int (I (nx_27))), (4, .int (I ((i : Int) + 1)))]) [2, 3, 4, 1, 0] rfl ?_
          exact ih_10  (i + 1) nx_27 e9 sq (⟨hsq, hfg9, by omega, by omega, by rw [hat, hse, show m9 - i = (m9 - (i + 1)) + 1 by omega]; rfl⟩) (by omega)
  refine tm_sub (L' := [(0, .ref (k_bo κ b)), (1, .int (I ((m9 : Int)))), (2, .int (I (g))), (3, .int (I (fg_3))), (4, .int (I (0)))]) [2, 3, 4, 1, 0] rfl ?_
  exact hL_10 _ 0 fg_3 0 ss0 (⟨hss0, hfg_3, by omega, by omega, rfl⟩) (Nat.lt_succ_self _)

set_option maxHeartbeats 4000000 in
set_option maxRecDepth 100000 in
theorem c_B_within (γ : tmG) (hst : γ.1.stackTraces = false) (Λ : tmL) (κ : KP) (σ : ST) (hM : RC γ.2.2.1 Λ κ σ) (hw : WF0 σ) (b : Int) (hb : 0 ≤ b ∧ b < s_nb σ) (p : Int) (hp : 0 ≤ p ∧ p < s_np σ) (rs re : Int) (hr : (0 ≤ rs ∧ rs ≤ 3010) ∧ -10 ≤ re ∧ re ≤ s_wo σ (3 * b)) (hgr : s_wo σ (3 * b + 2) ≤ s_wa σ (4 * p + 2)) : tm_Con γ (tm_h2 γ.2.1 γ.2.2.1 γ.2.2.2.1) M_X0_earliestWithin 5 0 0 [.ref (k_bo κ b), .int (I (rs)), .int (I (re)), .ref (k_pa κ p)] Λ (fun v w' => Λ = w' ∧ ∃ r, v = some (.int (I r)) ∧ isEW σ b (s_wa σ (4 * p + 2)) (s_wa σ (4 * p + 0)) rs re r ∧ -1 ≤ r ∧ r ≤ 3000) := by
  refine tm_con hst (by decide) (Nat.le_of_ble_eq_true rfl) (fun x hB hR => ?_)
  have hg := hB.1
  subst hg
  have hC : tm_C x cX0_earliestWithin RX0 (some FieldType.int) := hB.2.2.2.1
  have hn := wf_n hw
  have hb9 := wf_b hw b hb
  have hkl := rc_len hM hw b hb
  have hp9 := wf_p hw p hp
  have hds := rc_dsr hM b hb
  show tm_V x (tm_H x Λ) 0 0 0 [(0, .ref (k_bo κ b)), (1, .int (I (rs))), (2, .int (I (re))), (3, .ref (k_pa κ p))] []
  refine tm_iload_n 1 hC dX0_earliestWithin_0 rfl rfl ?_
  refine tm_istore [(4, .int (I (rs))), (0, .ref (k_bo κ b)), (1, .int (I (rs))), (2, .int (I (re))), (3, .ref (k_pa κ p))] hC dX0_earliestWithin_1 (by rw [hB.2.1]; exact Nat.le_of_ble_eq_true rfl) rfl ?_
  refine tm_iconst hC dX0_earliestWithin_3 ?_
  refine tm_istore [(5, .int (I (0))), (4, .int (I (rs))), (0, .ref (k_bo κ b)), (1, .int (I (rs))), (2, .int (I (re))), (3, .ref (k_pa κ p))] hC dX0_earliestWithin_4 (by rw [hB.2.1]; exact Nat.le_of_ble_eq_true rfl) rfl ?_
  have hL_6 : ∀ (fu : Nat) (pl : Int) (i : Nat), ((rs ≤ pl ∧ pl ≤ 3010) ∧ i ≤ cntT σ (k_ds κ b) pl ∧ ∀ q, rs ≤ q → q < pl → ¬ AG σ b (s_wa σ (4 * p + 2)) q (s_wa σ (4 * p + 0))) → (24 - i) < fu → tm_V x (tm_H x Λ) 0 0 6 [(0, .ref (k_bo κ b)), (1, .int (I (rs))), (2, .int (I (re))), (3, .ref (k_pa κ p)), (4, .int (I (pl))), (5, .int (I ((i : Int))))] [] := by
    intro fu
    induction fu with
    | zero => intro pl i hinv hm; exact absurd hm (Nat.not_lt_zero _)
    | succ fu ih_6 =>
      intro pl i hinv_6 hm_6
      obtain ⟨hpl, hct, hno⟩ := hinv_6
      have hcl := cntT_len (σ := σ) (s := pl) (k_ds κ b)
      refine tm_iload 5 hC dX0_earliestWithin_6 rfl ?_
      refine tm_aload_n 0 hC dX0_earliestWithin_8 rfl rfl ?_
      have hx1 := rc_B hM b (by omega)
      refine tm_getf2 hC f_X0_10 hx1 rfl dX0_earliestWithin_9 ?_
      refine tm_callV (b := 0) (n := 0) (rest := [.int (I ((i : Int)))]) hC (c_Lsz (tm_g x) hst _ _ _ (((k_ds κ b).length : Int)) (rc_bd hM b (by omega)) (len_m _ _)) k_X0_29 (by rw [hB.2.2.1]; exact ⟨Nat.le_of_ble_eq_true rfl, Nat.le_of_ble_eq_true rfl⟩) rfl (tm_recL hC (rc_bd hM b (by omega))) rfl (by simp [Value.category]) dX0_earliestWithin_12 (fun v_12 w_12 hp_12 => ?_)
      obtain ⟨rfl, rfl⟩ := hp_12
      show tm_V x (tm_H x Λ) 0 0 15 [(0, .ref (k_bo κ b)), (1, .int (I (rs))), (2, .int (I (re))), (3, .ref (k_pa κ p)), (4, .int (I (pl))), (5, .int (I ((i : Int))))] [.int (I (((k_ds κ b).length : Int))), .int (I ((i : Int)))]
      refine tm_icmp_gt 74 hC dX0_earliestWithin_15 (by decide) (by omega) (fun c_15 => ?_) (fun c_15 => ?_)
      · exact ((by omega) : False).elim
      · refine tm_iload 4 hC dX0_earliestWithin_18 rfl ?_
        refine tm_aload_n 3 hC dX0_earliestWithin_20 rfl rfl ?_
        have hx2 := rc_P hM p (by omega)
        refine tm_getf2 hC f_X0_97 hx2 rfl dX0_earliestWithin_21 ?_
        refine tm_iadd hC dX0_earliestWithin_24 ?_
        refine tm_iload_n 2 hC dX0_earliestWithin_25 rfl rfl ?_
        refine tm_icmp_gt 74 hC dX0_earliestWithin_26 (by decide) (by omega) (fun c_26 => ?_) (fun c_26 => ?_)
        · refine tm_iconst hC dX0_earliestWithin_74 ?_
          exact tm_iret hC hR dX0_earliestWithin_75 (⟨rfl, -1, rfl, Or.inl ⟨rfl, fun q q1 q2 => hno q q1 (by omega)⟩, by omega⟩)
        · refine tm_aload_n 0 hC dX0_earliestWithin_29 rfl rfl ?_
          refine tm_iload 4 hC dX0_earliestWithin_30 rfl ?_
          refine tm_aload_n 3 hC dX0_earliestWithin_32 rfl rfl ?_
          refine tm_getf2 hC f_X0_59 hx2 rfl dX0_earliestWithin_33 ?_
          refine tm_callV (b := 0) (n := 0) (rest := []) hC (c_B_firstWorse (tm_g x) hst Λ κ σ hM hw b (by omega) pl (s_wa σ (4 * p + 2)) (by omega)) k_X0_70 (by rw [hB.2.2.1]; exact ⟨Nat.le_of_ble_eq_true rfl, Nat.le_of_ble_eq_true rfl⟩) rfl (tm_rec2 hC (rc_B hM b (by omega)) rfl) rfl (by decide) dX0_earliestWithin_36 (fun v_36 w_36 hp_36 => ?_)
          obtain ⟨rfl, fw_36, rfl, hfw_36⟩ := hp_36
          show tm_V x (tm_H x Λ) 0 0 39 [(0, .ref (k_bo κ b)), (1, .int (I (rs))), (2, .int (I (re))), (3, .ref (k_pa κ p)), (4, .int (I (pl))), (5, .int (I ((i : Int))))] [.int (I (fw_36))]
          have hfb_36 := hfw_36.1
          have hfc_36 := hfw_36.2.1
          refine tm_istore [(6, .int (I (fw_36))), (0, .ref (k_bo κ b)), (1, .int (I (rs))), (2, .int (I (re))), (3, .ref (k_pa κ p)), (4, .int (I (pl))), (5, .int (I ((i : Int))))] hC dX0_earliestWithin_39 (by rw [hB.2.1]; exact Nat.le_of_ble_eq_true rfl) rfl ?_
          refine tm_iload 0 hC dX0_earliestWithin_41 rfl ?_
          refine tm_iload 5 hC dX0_earliestWithin_43 rfl ?_
          refine tm_aload_n 4 hC dX0_earliestWithin_45 rfl rfl ?_
          refine tm_getf2 hC f_X0_97 hx2 rfl dX0_earliestWithin_46 ?_
          refine tm_iadd hC dX0_earliestWithin_49 ?_
          refine tm_icmp_lt 56 hC dX0_earliestWithin_50 (by decide) (by omega) (fun c_50 => ?_) (fun c_50 => ?_)
          · refine tm_aload_n 1 hC dX0_earliestWithin_56 rfl rfl ?_
            refine tm_iload 0 hC dX0_earliestWithin_57 rfl ?_
            refine tm_aload_n 4 hC dX0_earliestWithin_59 rfl rfl ?_
            refine tm_getf2 hC f_X0_59 hx2 rfl dX0_earliestWithin_60 ?_
            refine tm_callV (b := 0) (n := 0) (rest := []) hC (c_B_firstGood (tm_g x) hst Λ κ σ hM hw b (by omega) fw_36 (s_wa σ (4 * p + 2)) (by omega)) k_X0_73 (by rw [hB.2.2.1]; exact ⟨Nat.le_of_ble_eq_true rfl, Nat.le_of_ble_eq_true rfl⟩) rfl (tm_rec2 hC (rc_B hM b (by omega)) rfl) rfl (by decide) dX0_earliestWithin_63 (fun v_63 w_63 hp_63 => ?_)
            obtain ⟨rfl, fg_63, rfl, hfg_63⟩ := hp_63
            show tm_V x (tm_H x Λ) 0 0 66 [(6, .int (I (fw_36))), (0, .ref (k_bo κ b)), (1, .int (I (rs))), (2, .int (I (re))), (3, .ref (k_pa κ p)), (4, .int (I (pl))), (5, .int (I ((i : Int))))] [.int (I (fg_63))]
            have hfb_63 := hfg_63.1
            have hfc_63 := hfg_63.2.1
            refine tm_istore [(4, .int (I (fg_63))), (6, .int (I (fw_36))), (0, .ref (k_bo κ b)), (1, .int (I (rs))), (2, .int (I (re))), (3, .ref (k_pa κ p)), (5, .int (I ((i : Int))))] hC dX0_earliestWithin_66 (by rw [hB.2.1]; exact Nat.le_of_ble_eq_true rfl) rfl ?_
            refine tm_iinc 6 [(5, .int (I ((i : Int) + 1))), (4, .int (I (fg_63))), (6, .int (I (fw_36))), (0, .ref (k_bo κ b)), (1, .int (I (rs))), (2, .int (I (re))), (3, .ref (k_pa κ p))] hC dX0_earliestWithin_68 rfl (by rw [hB.2.1]; exact Nat.le_of_ble_eq_true rfl) rfl ?_
            refine tm_goto 6 hC dX0_earliestWithin_71 (by decide) ?_
            refine tm_sub (L' := [(0, .ref (k_bo κ b)), (1, .int (I (rs))), (2, .int (I (re))), (3, .ref (k_pa κ p)), (4, .int (I (fg_63))), (5, .int (I ((i : Int) + 1)))]) [3, 4, 5, 6, 1, 0] rfl ?_
            exact ih_6  fg_63 (i + 1) (⟨by omega, by (have := fg_pass hw hds hgr (show pl ≤ fw_36 by omega) (hfw_36.2.2.2 (by omega)) hfg_63); omega, ew_skip (by omega) hno hfw_36 (by omega) (by omega) hfg_63⟩) (by (have := fg_pass hw hds hgr (show pl ≤ fw_36 by omega) (hfw_36.2.2.2 (by omega)) hfg_63); (have := cntT_len (σ := σ) (s := fg_63) (k_ds κ b)); omega)
          · refine tm_iload 5 hC dX0_earliestWithin_53 rfl ?_
            exact tm_iret hC hR dX0_earliestWithin_55 (⟨rfl, pl, rfl, Or.inr ⟨by omega, fun j j1 j2 => hfw_36.2.2.1 j j1 (by omega), hno⟩, by omega⟩)
  refine tm_sub (L' := [(0, .ref (k_bo κ b)), (1, .int (I (rs))), (2, .int (I (re))), (3, .ref (k_pa κ p)), (4, .int (I (rs))), (5, .int (I (0)))]) [2, 3, 4, 5, 1, 0] rfl ?_
  exact hL_6 _ rs 0 (⟨by omega, Nat.zero_le _, fun q q1 q2 => by omega⟩) (Nat.lt_succ_self _)

theorem earl_w {σ : ST} {p b : Int} (h : s_wo σ (3 * b + 1) < s_wa σ (4 * p + 1) ∨ s_wa σ (4 * p + 2) < s_wo σ (3 * b + 2)) : isEarl σ p b (-1) := by
  refine Or.inl ⟨rfl, fun q z => ?_⟩
  have h1 := z.2.2.1
  have h2 := z.2.2.2.1
  omega
theorem inv_e {σ : ST} {p b : Int} {ks : List Int} {i : Nat} {r : Int} (h : ∀ j, j < i → ∀ q, rmS σ ks j ≤ q → q + s_wa σ (4 * p + 0) ≤ rmE σ b ks j → ¬ AG σ b (s_wa σ (4 * p + 2)) q (s_wa σ (4 * p + 0))) (hr : isEW σ b (s_wa σ (4 * p + 2)) (s_wa σ (4 * p + 0)) (rmS σ ks i) (rmE σ b ks i) r) (hn : r < 0) (h0 : 0 ≤ rmS σ ks i) : ∀ j, j < i + 1 → ∀ q, rmS σ ks j ≤ q → q + s_wa σ (4 * p + 0) ≤ rmE σ b ks j → ¬ AG σ b (s_wa σ (4 * p + 2)) q (s_wa σ (4 * p + 0)) := by
  intro j hj q q1 q2
  by_cases e : j = i
  · subst e
    rcases hr with hr | hr
    · exact hr.2 q q1 q2
    · have := hr.1.1; omega
  · exact h j (by omega) q q1 q2

set_option maxHeartbeats 4000000 in
set_option maxRecDepth 100000 in
theorem c_B_earliest (γ : tmG) (hst : γ.1.stackTraces = false) (Λ : tmL) (κ : KP) (σ : ST) (hM : RC γ.2.2.1 Λ κ σ) (hw : WF0 σ) (b : Int) (hb : 0 ≤ b ∧ b < s_nb σ) (p : Int) (hp : 0 ≤ p ∧ p < s_np σ) : tm_Con γ (tm_h2 γ.2.1 γ.2.2.1 γ.2.2.2.1) M_X0_earliestPlace 6 0 0 [.ref (k_bo κ b), .ref (k_pa κ p), .int (I (s_sw σ))] Λ (fun v w' => Λ = w' ∧ ∃ r, v = some (.int (I r)) ∧ isEarl σ p b r ∧ (-1 ≤ r ∧ r ≤ 3000) ∧ (0 ≤ r → ∃ i, i ≤ (k_ks κ b).length ∧ rmS σ (k_ks κ b) i ≤ r ∧ r < rmE σ b (k_ks κ b) i)) := by
  refine tm_con hst (by decide) (Nat.le_of_ble_eq_true rfl) (fun x hB hR => ?_)
  have hg := hB.1
  subst hg
  have hC : tm_C x cX0_earliestPlace RX0 (some FieldType.int) := hB.2.2.2.1
  have hn := wf_n hw
  have hb9 := wf_b hw b hb
  have hkl := rc_len hM hw b hb
  have hp9 := wf_p hw p hp
  have hSt := rc_srt hM b hb
  show tm_V x (tm_H x Λ) 0 0 0 [(0, .ref (k_bo κ b)), (1, .ref (k_pa κ p)), (2, .int (I (s_sw σ)))] []
  refine tm_aload_n 1 hC dX0_earliestPlace_0 rfl rfl ?_
  have hx1 := rc_P hM p (by omega)
  refine tm_getf2 hC f_X0_79 hx1 rfl dX0_earliestPlace_1 ?_
  refine tm_aload_n 0 hC dX0_earliestPlace_4 rfl rfl ?_
  have hx2 := rc_B hM b (by omega)
  refine tm_getf2 hC f_X0_23 hx2 rfl dX0_earliestPlace_5 ?_
  refine tm_icmp_gt 22 hC dX0_earliestPlace_8 (by decide) (by omega) (fun c_8 => ?_) (fun c_8 => ?_)
  · refine tm_iconst hC dX0_earliestPlace_22 ?_
    exact tm_iret hC hR dX0_earliestPlace_23 (⟨rfl, -1, rfl, earl_w (by omega), by omega, fun z => by omega⟩)
  · refine tm_aload_n 1 hC dX0_earliestPlace_11 rfl rfl ?_
    refine tm_getf2 hC f_X0_59 hx1 rfl dX0_earliestPlace_12 ?_
    refine tm_aload_n 0 hC dX0_earliestPlace_15 rfl rfl ?_
    refine tm_getf2 hC f_X0_26 hx2 rfl dX0_earliestPlace_16 ?_
    refine tm_icmp_ge 24 hC dX0_earliestPlace_19 (by decide) (by omega) (fun c_19 => ?_) (fun c_19 => ?_)
    · refine tm_iconst hC dX0_earliestPlace_24 ?_
      refine tm_istore_n [(3, .int (I (0))), (0, .ref (k_bo κ b)), (1, .ref (k_pa κ p)), (2, .int (I (s_sw σ)))] hC dX0_earliestPlace_25 rfl (by rw [hB.2.1]; exact Nat.le_of_ble_eq_true rfl) rfl ?_
      have hL_26 : ∀ (fu : Nat) (i : Nat), ((i : Int) ≤ ((k_ks κ b).length : Int) + 1 ∧ ∀ j, j < i → ∀ q, rmS σ (k_ks κ b) j ≤ q → q + s_wa σ (4 * p + 0) ≤ rmE σ b (k_ks κ b) j → ¬ AG σ b (s_wa σ (4 * p + 2)) q (s_wa σ (4 * p + 0))) → ((((k_ks κ b).length : Int) + 1 - i).toNat) < fu → tm_V x (tm_H x Λ) 0 0 26 [(0, .ref (k_bo κ b)), (1, .ref (k_pa κ p)), (2, .int (I (s_sw σ))), (3, .int (I ((i : Int))))] [] := by
        intro fu
        induction fu with
        | zero => intro i hinv hm; exact absurd hm (Nat.not_lt_zero _)
        | succ fu ih_26 =>
          intro i hinv_26 hm_26
          obtain ⟨hi, hno⟩ := hinv_26
          refine tm_iload_n 3 hC dX0_earliestPlace_26 rfl rfl ?_
          refine tm_aload_n 0 hC dX0_earliestPlace_27 rfl rfl ?_
          refine tm_getf2 hC f_X0_16 hx2 rfl dX0_earliestPlace_28 ?_
          refine tm_callV (b := 0) (n := 0) (rest := [.int (I ((i : Int)))]) hC (c_Lsz (tm_g x) hst _ _ _ (((k_ks κ b).length : Int)) (rc_bp hM b (by omega)) (len_m _ _)) k_X0_29 (by rw [hB.2.2.1]; exact ⟨Nat.le_of_ble_eq_true rfl, Nat.le_of_ble_eq_true rfl⟩) rfl (tm_recL hC (rc_bp hM b (by omega))) rfl (by simp [Value.category]) dX0_earliestPlace_31 (fun v_31 w_31 hp_31 => ?_)
          obtain ⟨rfl, rfl⟩ := hp_31
          show tm_V x (tm_H x Λ) 0 0 34 [(0, .ref (k_bo κ b)), (1, .ref (k_pa κ p)), (2, .int (I (s_sw σ))), (3, .int (I ((i : Int))))] [.int (I (((k_ks κ b).length : Int))), .int (I ((i : Int)))]
          refine tm_icmp_gt 70 hC dX0_earliestPlace_34 (by decide) (by omega) (fun c_34 => ?_) (fun c_34 => ?_)
          · refine tm_iconst hC dX0_earliestPlace_70 ?_
            exact tm_iret hC hR dX0_earliestPlace_71 (⟨rfl, -1, rfl, earl_no hw hSt (by omega) (by omega) hno, by omega, fun z => by omega⟩)
          · refine tm_aload_n 0 hC dX0_earliestPlace_37 rfl rfl ?_
            refine tm_aload_n 0 hC dX0_earliestPlace_38 rfl rfl ?_
            refine tm_iload_n 3 hC dX0_earliestPlace_39 rfl rfl ?_
            refine tm_iload_n 2 hC dX0_earliestPlace_40 rfl rfl ?_
            refine tm_callV (b := 0) (n := 0) (rest := [.ref (k_bo κ b)]) hC (c_B_roomStart (tm_g x) hst Λ κ σ hM hw b (by omega) i (by omega)) k_X0_87 (by rw [hB.2.2.1]; exact ⟨Nat.le_of_ble_eq_true rfl, Nat.le_of_ble_eq_true rfl⟩) rfl (tm_rec2 hC (rc_B hM b (by omega)) rfl) rfl (by simp [Value.category]) dX0_earliestPlace_41 (fun v_41 w_41 hp_41 => ?_)
            obtain ⟨rfl, rfl, hrm_41⟩ := hp_41
            show tm_V x (tm_H x Λ) 0 0 44 [(0, .ref (k_bo κ b)), (1, .ref (k_pa κ p)), (2, .int (I (s_sw σ))), (3, .int (I ((i : Int))))] [.int (I (rmS σ (k_ks κ b) i)), .ref (k_bo κ b)]
            refine tm_aload_n 0 hC dX0_earliestPlace_44 rfl rfl ?_
            refine tm_iload_n 3 hC dX0_earliestPlace_45 rfl rfl ?_
            refine tm_iload_n 2 hC dX0_earliestPlace_46 rfl rfl ?_
            refine tm_callV (b := 0) (n := 0) (rest := [.int (I (rmS σ (k_ks κ b) i)), .ref (k_bo κ b)]) hC (c_B_roomEnd (tm_g x) hst Λ κ σ hM hw b (by omega) i (by omega)) k_X0_90 (by rw [hB.2.2.1]; exact ⟨Nat.le_of_ble_eq_true rfl, Nat.le_of_ble_eq_true rfl⟩) rfl (tm_rec2 hC (rc_B hM b (by omega)) rfl) rfl (by simp [Value.category]) dX0_earliestPlace_47 (fun v_47 w_47 hp_47 => ?_)
            obtain ⟨rfl, rfl, hrm_47⟩ := hp_47
            show tm_V x (tm_H x Λ) 0 0 50 [(0, .ref (k_bo κ b)), (1, .ref (k_pa κ p)), (2, .int (I (s_sw σ))), (3, .int (I ((i : Int))))] [.int (I (rmE σ b (k_ks κ b) i)), .int (I (rmS σ (k_ks κ b) i)), .ref (k_bo κ b)]
            refine tm_aload_n 1 hC dX0_earliestPlace_50 rfl rfl ?_
            refine tm_callV (b := 0) (n := 0) (rest := []) hC (c_B_within (tm_g x) hst Λ κ σ hM hw b (by omega) p (by omega) (rmS σ (k_ks κ b) i) (rmE σ b (k_ks κ b) i) (by omega) (by omega)) k_X0_93 (by rw [hB.2.2.1]; exact ⟨Nat.le_of_ble_eq_true rfl, Nat.le_of_ble_eq_true rfl⟩) rfl (tm_rec2 hC (rc_B hM b (by omega)) rfl) rfl (by decide) dX0_earliestPlace_51 (fun v_51 w_51 hp_51 => ?_)
            obtain ⟨rfl, r_51, rfl, hew_51, hewb_51⟩ := hp_51
            show tm_V x (tm_H x Λ) 0 0 54 [(0, .ref (k_bo κ b)), (1, .ref (k_pa κ p)), (2, .int (I (s_sw σ))), (3, .int (I ((i : Int))))] [.int (I (r_51))]
            refine tm_istore [(4, .int (I (r_51))), (0, .ref (k_bo κ b)), (1, .ref (k_pa κ p)), (2, .int (I (s_sw σ))), (3, .int (I ((i : Int))))] hC dX0_earliestPlace_54 (by rw [hB.2.1]; exact Nat.le_of_ble_eq_true rfl) rfl ?_
            refine tm_iload 0 hC dX0_earliestPlace_56 rfl ?_
            refine tm_if_lt 64 hC dX0_earliestPlace_58 (by decide) (by omega) (fun c_58 => ?_) (fun c_58 => ?_)
            · refine tm_iinc 4 [(3, .int (I ((i : Int) + 1))), (4, .int (I (r_51))), (0, .ref (k_bo κ b)), (1, .ref (k_pa κ p)), (2, .int (I (s_sw σ)))] hC dX0_earliestPlace_64 rfl (by rw [hB.2.1]; exact Nat.le_of_ble_eq_true rfl) rfl ?_
              refine tm_goto 26 hC dX0_earliestPlace_67 (by decide) ?_
              refine tm_sub (L' := [(0, .ref (k_bo κ b)), (1, .ref (k_pa κ p)), (2, .int (I (s_sw σ))), (3, .int (I ((i : Int) + 1)))]) [2, 3, 4, 0] rfl ?_
              exact ih_26  (i + 1) (⟨by omega, inv_e hno hew_51 (by omega) (by omega)⟩) (by omega)
            · refine tm_iload 0 hC dX0_earliestPlace_61 rfl ?_
              exact tm_iret hC hR dX0_earliestPlace_63 (⟨rfl, r_51, rfl, (earl_at hw hb hSt (by omega) (by omega) (by omega) (by omega) hno hew_51).1, by omega, fun _ => (earl_at hw hb hSt (by omega) (by omega) (by omega) (by omega) hno hew_51).2⟩)
      refine tm_sub (L' := [(0, .ref (k_bo κ b)), (1, .ref (k_pa κ p)), (2, .int (I (s_sw σ))), (3, .int (I (0)))]) [1, 2, 3, 0] rfl ?_
      exact hL_26 _ 0 (⟨by omega, fun j hj => absurd hj (Nat.not_lt_zero j)⟩) (Nat.lt_succ_self _)
    · refine tm_iconst hC dX0_earliestPlace_22 ?_
      exact tm_iret hC hR dX0_earliestPlace_23 (⟨rfl, -1, rfl, earl_w (by omega), by omega, fun z => by omega⟩)

set_option maxHeartbeats 4000000 in
set_option maxRecDepth 100000 in
theorem c_B_room (γ : tmG) (hst : γ.1.stackTraces = false) (Λ : tmL) (κ : KP) (σ : ST) (hM : RC γ.2.2.1 Λ κ σ) (hw : WF0 σ) (b : Int) (hb : 0 ≤ b ∧ b < s_nb σ) (pl : Int) (hpl : 0 ≤ pl ∧ pl ≤ 3000) (hx : ∃ i, i ≤ (k_ks κ b).length ∧ rmS σ (k_ks κ b) i ≤ pl ∧ pl < rmE σ b (k_ks κ b) i) : tm_Con γ (tm_h2 γ.2.1 γ.2.2.1 γ.2.2.2.1) M_X0_roomLengthAround 5 0 0 [.ref (k_bo κ b), .int (I (pl)), .int (I (s_sw σ))] Λ (fun v w' => Λ = w' ∧ ∃ r, v = some (.int (I r)) ∧ roomR σ b pl r ∧ -20000 ≤ r ∧ r ≤ 20000) := by
  refine tm_con hst (by decide) (Nat.le_of_ble_eq_true rfl) (fun x hB hR => ?_)
  have hg := hB.1
  subst hg
  have hC : tm_C x cX0_roomLengthAround RX0 (some FieldType.int) := hB.2.2.2.1
  have hn := wf_n hw
  have hb9 := wf_b hw b hb
  have hkl := rc_len hM hw b hb
  have hSt := rc_srt hM b hb
  obtain ⟨i9, hx1, hx2, hx3⟩ := hx
  show tm_V x (tm_H x Λ) 0 0 0 [(0, .ref (k_bo κ b)), (1, .int (I (pl))), (2, .int (I (s_sw σ)))] []
  refine tm_iconst hC dX0_roomLengthAround_0 ?_
  refine tm_istore_n [(3, .int (I (0))), (0, .ref (k_bo κ b)), (1, .int (I (pl))), (2, .int (I (s_sw σ)))] hC dX0_roomLengthAround_1 rfl (by rw [hB.2.1]; exact Nat.le_of_ble_eq_true rfl) rfl ?_
  have hL_2 : ∀ (fu : Nat) (i : Nat), (i ≤ i9) → (i9 - i) < fu → tm_V x (tm_H x Λ) 0 0 2 [(0, .ref (k_bo κ b)), (1, .int (I (pl))), (2, .int (I (s_sw σ))), (3, .int (I ((i : Int))))] [] := by
    intro fu
    induction fu with
    | zero => intro i hinv hm; exact absurd hm (Nat.not_lt_zero _)
    | succ fu ih_2 =>
      intro i hinv_2 hm_2
      have hi9 := hinv_2
      refine tm_iload_n 3 hC dX0_roomLengthAround_2 rfl rfl ?_
      refine tm_aload_n 0 hC dX0_roomLengthAround_3 rfl rfl ?_
      have hx1 := rc_B hM b (by omega)
      refine tm_getf2 hC f_X0_16 hx1 rfl dX0_roomLengthAround_4 ?_
      refine tm_callV (b := 0) (n := 0) (rest := [.int (I ((i : Int)))]) hC (c_Lsz (tm_g x) hst _ _ _ (((k_ks κ b).length : Int)) (rc_bp hM b (by omega)) (len_m _ _)) k_X0_29 (by rw [hB.2.2.1]; exact ⟨Nat.le_of_ble_eq_true rfl, Nat.le_of_ble_eq_true rfl⟩) rfl (tm_recL hC (rc_bp hM b (by omega))) rfl (by simp [Value.category]) dX0_roomLengthAround_7 (fun v_7 w_7 hp_7 => ?_)
      obtain ⟨rfl, rfl⟩ := hp_7
      show tm_V x (tm_H x Λ) 0 0 10 [(0, .ref (k_bo κ b)), (1, .int (I (pl))), (2, .int (I (s_sw σ))), (3, .int (I ((i : Int))))] [.int (I (((k_ks κ b).length : Int))), .int (I ((i : Int)))]
      refine tm_icmp_gt 53 hC dX0_roomLengthAround_10 (by decide) (by omega) (fun c_10 => ?_) (fun c_10 => ?_)
      · exact ((by omega) : False).elim
      · refine tm_aload_n 0 hC dX0_roomLengthAround_13 rfl rfl ?_
        refine tm_iload_n 3 hC dX0_roomLengthAround_14 rfl rfl ?_
        refine tm_iload_n 2 hC dX0_roomLengthAround_15 rfl rfl ?_
        refine tm_callV (b := 0) (n := 0) (rest := []) hC (c_B_roomStart (tm_g x) hst Λ κ σ hM hw b (by omega) i (by omega)) k_X0_87 (by rw [hB.2.2.1]; exact ⟨Nat.le_of_ble_eq_true rfl, Nat.le_of_ble_eq_true rfl⟩) rfl (tm_rec2 hC (rc_B hM b (by omega)) rfl) rfl (by decide) dX0_roomLengthAround_16 (fun v_16 w_16 hp_16 => ?_)
        obtain ⟨rfl, rfl, hrm_16⟩ := hp_16
        show tm_V x (tm_H x Λ) 0 0 19 [(0, .ref (k_bo κ b)), (1, .int (I (pl))), (2, .int (I (s_sw σ))), (3, .int (I ((i : Int))))] [.int (I (rmS σ (k_ks κ b) i))]
        refine tm_istore [(4, .int (I (rmS σ (k_ks κ b) i))), (0, .ref (k_bo κ b)), (1, .int (I (pl))), (2, .int (I (s_sw σ))), (3, .int (I ((i : Int))))] hC dX0_roomLengthAround_19 (by rw [hB.2.1]; exact Nat.le_of_ble_eq_true rfl) rfl ?_
        refine tm_aload_n 1 hC dX0_roomLengthAround_21 rfl rfl ?_
        refine tm_iload_n 4 hC dX0_roomLengthAround_22 rfl rfl ?_
        refine tm_iload_n 3 hC dX0_roomLengthAround_23 rfl rfl ?_
        refine tm_callV (b := 0) (n := 0) (rest := []) hC (c_B_roomEnd (tm_g x) hst Λ κ σ hM hw b (by omega) i (by omega)) k_X0_90 (by rw [hB.2.2.1]; exact ⟨Nat.le_of_ble_eq_true rfl, Nat.le_of_ble_eq_true rfl⟩) rfl (tm_rec2 hC (rc_B hM b (by omega)) rfl) rfl (by decide) dX0_roomLengthAround_24 (fun v_24 w_24 hp_24 => ?_)
        obtain ⟨rfl, rfl, hrm_24⟩ := hp_24
        show tm_V x (tm_H x Λ) 0 0 27 [(4, .int (I (rmS σ (k_ks κ b) i))), (0, .ref (k_bo κ b)), (1, .int (I (pl))), (2, .int (I (s_sw σ))), (3, .int (I ((i : Int))))] [.int (I (rmE σ b (k_ks κ b) i))]
        refine tm_istore [(5, .int (I (rmE σ b (k_ks κ b) i))), (4, .int (I (rmS σ (k_ks κ b) i))), (0, .ref (k_bo κ b)), (1, .int (I (pl))), (2, .int (I (s_sw σ))), (3, .int (I ((i : Int))))] hC dX0_roomLengthAround_27 (by rw [hB.2.1]; exact Nat.le_of_ble_eq_true rfl) rfl ?_
        refine tm_iload 1 hC dX0_roomLengthAround_29 rfl ?_
        refine tm_iload_n 3 hC dX0_roomLengthAround_31 rfl rfl ?_
        refine tm_icmp_gt 47 hC dX0_roomLengthAround_32 (by decide) (by omega) (fun c_32 => ?_) (fun c_32 => ?_)
        · refine tm_iinc 5 [(3, .int (I ((i : Int) + 1))), (5, .int (I (rmE σ b (k_ks κ b) i))), (4, .int (I (rmS σ (k_ks κ b) i))), (0, .ref (k_bo κ b)), (1, .int (I (pl))), (2, .int (I (s_sw σ)))] hC dX0_roomLengthAround_47 rfl (by rw [hB.2.1]; exact Nat.le_of_ble_eq_true rfl) rfl ?_
          refine tm_goto 2 hC dX0_roomLengthAround_50 (by decide) ?_
          refine tm_sub (L' := [(0, .ref (k_bo κ b)), (1, .int (I (pl))), (2, .int (I (s_sw σ))), (3, .int (I ((i : Int) + 1)))]) [3, 4, 5, 0] rfl ?_
          exact ih_2  (i + 1) (by (have hne : i ≠ i9 := fun z => by (rw [z] at c_32 hrm_16 hrm_24; omega)); omega) (by (have hne : i ≠ i9 := fun z => by (subst z; omega)); omega)
        · refine tm_iload_n 3 hC dX0_roomLengthAround_35 rfl rfl ?_
          refine tm_iload 0 hC dX0_roomLengthAround_36 rfl ?_
          refine tm_icmp_ge 47 hC dX0_roomLengthAround_38 (by decide) (by omega) (fun c_38 => ?_) (fun c_38 => ?_)
          · refine tm_iinc 5 [(3, .int (I ((i : Int) + 1))), (5, .int (I (rmE σ b (k_ks κ b) i))), (4, .int (I (rmS σ (k_ks κ b) i))), (0, .ref (k_bo κ b)), (1, .int (I (pl))), (2, .int (I (s_sw σ)))] hC dX0_roomLengthAround_47 rfl (by rw [hB.2.1]; exact Nat.le_of_ble_eq_true rfl) rfl ?_
            refine tm_goto 2 hC dX0_roomLengthAround_50 (by decide) ?_
            refine tm_sub (L' := [(0, .ref (k_bo κ b)), (1, .int (I (pl))), (2, .int (I (s_sw σ))), (3, .int (I ((i : Int) + 1)))]) [3, 4, 5, 0] rfl ?_
            exact ih_2  (i + 1) (by (have hne : i ≠ i9 := fun z => by (rw [z] at c_38 hrm_16 hrm_24; omega)); omega) (by (have hne : i ≠ i9 := fun z => by (subst z; omega)); omega)
          · refine tm_iload 0 hC dX0_roomLengthAround_41 rfl ?_
            refine tm_iload 1 hC dX0_roomLengthAround_43 rfl ?_
            refine tm_isub hC dX0_roomLengthAround_45 ?_
            exact tm_iret hC hR dX0_roomLengthAround_46 (⟨rfl, _, rfl, rm_R hw hSt (by omega) hb (by omega) (by omega), by omega⟩)
  refine tm_sub (L' := [(0, .ref (k_bo κ b)), (1, .int (I (pl))), (2, .int (I (s_sw σ))), (3, .int (I (0)))]) [1, 2, 3, 0] rfl ?_
  exact hL_2 _ 0 (Nat.zero_le _) (Nat.lt_succ_self _)

theorem drop_at {l : List Int} {i : Nat} {k : Int} (h : l[i]? = some k) : l.drop i = k :: l.drop (i + 1) := by
  obtain ⟨hl, e⟩ := List.getElem?_eq_some_iff.mp h
  rw [List.drop_eq_getElem_cons hl, e]

theorem lng_s {σ : ST} (hw : WF0 σ) {b lg X : Int} {ks : List Int} {i : Nat} (hs : Srt σ b ks 0) (hi : (i : Int) ≤ (ks.length : Int)) (h : ((i : Int) ≤ (ks.length : Int) ∧ lngF σ b (ks.drop i) lg (rmS σ ks i) = X) ∨ ((i : Int) = (ks.length : Int) + 1 ∧ lg = X)) : (((i + 1 : Nat) : Int) ≤ (ks.length : Int) ∧ lngF σ b (ks.drop (i + 1)) (max lg (rmE σ b ks i - rmS σ ks i)) (rmS σ ks (i + 1)) = X) ∨ (((i + 1 : Nat) : Int) = (ks.length : Int) + 1 ∧ max lg (rmE σ b ks i - rmS σ ks i) = X) := by
  rcases h with ⟨-, h⟩ | ⟨h, -⟩
  · rcases Nat.lt_or_ge i ks.length with z | z
    · have hk := List.getElem?_eq_getElem z
      rw [drop_at hk] at h
      refine Or.inl ⟨by omega, ?_⟩
      rw [rmE_k hk, rmS_s hk]
      exact h
    · refine Or.inr ⟨by omega, ?_⟩
      rw [List.drop_eq_nil_of_le z] at h
      rw [rmE_n z]
      exact h
  · omega

set_option maxHeartbeats 4000000 in
set_option maxRecDepth 100000 in
theorem c_B_longest (γ : tmG) (hst : γ.1.stackTraces = false) (Λ : tmL) (κ : KP) (σ : ST) (hM : RC γ.2.2.1 Λ κ σ) (hw : WF0 σ) (b : Int) (hb : 0 ≤ b ∧ b < s_nb σ) : tm_Con γ (tm_h2 γ.2.1 γ.2.2.1 γ.2.2.2.1) M_X0_longestRoomLength 5 0 0 [.ref (k_bo κ b), .int (I (s_sw σ))] Λ (fun v w' => Λ = w' ∧ v = some (.int (I (lngF σ b (k_ks κ b) 0 0)))) := by
  refine tm_con hst (by decide) (Nat.le_of_ble_eq_true rfl) (fun x hB hR => ?_)
  have hg := hB.1
  subst hg
  have hC : tm_C x cX0_longestRoomLength RX0 (some FieldType.int) := hB.2.2.2.1
  have hn := wf_n hw
  have hb9 := wf_b hw b hb
  have hkl := rc_len hM hw b hb
  have hSt := rc_srt hM b hb
  show tm_V x (tm_H x Λ) 0 0 0 [(0, .ref (k_bo κ b)), (1, .int (I (s_sw σ)))] []
  refine tm_iconst hC dX0_longestRoomLength_0 ?_
  refine tm_istore_n [(2, .int (I (0))), (0, .ref (k_bo κ b)), (1, .int (I (s_sw σ)))] hC dX0_longestRoomLength_1 rfl (by rw [hB.2.1]; exact Nat.le_of_ble_eq_true rfl) rfl ?_
  refine tm_iconst hC dX0_longestRoomLength_2 ?_
  refine tm_istore_n [(3, .int (I (0))), (2, .int (I (0))), (0, .ref (k_bo κ b)), (1, .int (I (s_sw σ)))] hC dX0_longestRoomLength_3 rfl (by rw [hB.2.1]; exact Nat.le_of_ble_eq_true rfl) rfl ?_
  have hL_4 : ∀ (fu : Nat) (lg : Int) (i : Nat), ((0 ≤ lg ∧ lg ≤ 3000) ∧ (((i : Int) ≤ ((k_ks κ b).length : Int) ∧ lngF σ b ((k_ks κ b).drop i) lg (rmS σ (k_ks κ b) i) = lngF σ b (k_ks κ b) 0 0) ∨ ((i : Int) = ((k_ks κ b).length : Int) + 1 ∧ lg = lngF σ b (k_ks κ b) 0 0))) → ((((k_ks κ b).length : Int) + 1 - i).toNat) < fu → tm_V x (tm_H x Λ) 0 0 4 [(0, .ref (k_bo κ b)), (1, .int (I (s_sw σ))), (2, .int (I (lg))), (3, .int (I ((i : Int))))] [] := by
    intro fu
    induction fu with
    | zero => intro lg i hinv hm; exact absurd hm (Nat.not_lt_zero _)
    | succ fu ih_4 =>
      intro lg i hinv_4 hm_4
      obtain ⟨hlg, hin⟩ := hinv_4
      refine tm_iload_n 3 hC dX0_longestRoomLength_4 rfl rfl ?_
      refine tm_aload_n 0 hC dX0_longestRoomLength_5 rfl rfl ?_
      have hx1 := rc_B hM b (by omega)
      refine tm_getf2 hC f_X0_16 hx1 rfl dX0_longestRoomLength_6 ?_
      refine tm_callV (b := 0) (n := 0) (rest := [.int (I ((i : Int)))]) hC (c_Lsz (tm_g x) hst _ _ _ (((k_ks κ b).length : Int)) (rc_bp hM b (by omega)) (len_m _ _)) k_X0_29 (by rw [hB.2.2.1]; exact ⟨Nat.le_of_ble_eq_true rfl, Nat.le_of_ble_eq_true rfl⟩) rfl (tm_recL hC (rc_bp hM b (by omega))) rfl (by simp [Value.category]) dX0_longestRoomLength_9 (fun v_9 w_9 hp_9 => ?_)
      obtain ⟨rfl, rfl⟩ := hp_9
      show tm_V x (tm_H x Λ) 0 0 12 [(0, .ref (k_bo κ b)), (1, .int (I (s_sw σ))), (2, .int (I (lg))), (3, .int (I ((i : Int))))] [.int (I (((k_ks κ b).length : Int))), .int (I ((i : Int)))]
      refine tm_icmp_gt 39 hC dX0_longestRoomLength_12 (by decide) (by omega) (fun c_12 => ?_) (fun c_12 => ?_)
      · refine tm_iload_n 2 hC dX0_longestRoomLength_39 rfl rfl ?_
        exact tm_iret hC hR dX0_longestRoomLength_40 (⟨rfl, by rcases hin with h | h; omega; rw [h.2]⟩)
      · refine tm_iload_n 2 hC dX0_longestRoomLength_15 rfl rfl ?_
        refine tm_aload_n 0 hC dX0_longestRoomLength_16 rfl rfl ?_
        refine tm_iload_n 3 hC dX0_longestRoomLength_17 rfl rfl ?_
        refine tm_iload_n 1 hC dX0_longestRoomLength_18 rfl rfl ?_
        refine tm_callV (b := 0) (n := 0) (rest := [.int (I (lg))]) hC (c_B_roomEnd (tm_g x) hst Λ κ σ hM hw b (by omega) i (by omega)) k_X0_90 (by rw [hB.2.2.1]; exact ⟨Nat.le_of_ble_eq_true rfl, Nat.le_of_ble_eq_true rfl⟩) rfl (tm_rec2 hC (rc_B hM b (by omega)) rfl) rfl (by simp [Value.category]) dX0_longestRoomLength_19 (fun v_19 w_19 hp_19 => ?_)
        obtain ⟨rfl, rfl, hrm_19⟩ := hp_19
        show tm_V x (tm_H x Λ) 0 0 22 [(0, .ref (k_bo κ b)), (1, .int (I (s_sw σ))), (2, .int (I (lg))), (3, .int (I ((i : Int))))] [.int (I (rmE σ b (k_ks κ b) i)), .int (I (lg))]
        refine tm_aload_n 0 hC dX0_longestRoomLength_22 rfl rfl ?_
        refine tm_iload_n 3 hC dX0_longestRoomLength_23 rfl rfl ?_
        refine tm_iload_n 1 hC dX0_longestRoomLength_24 rfl rfl ?_
        refine tm_callV (b := 0) (n := 0) (rest := [.int (I (rmE σ b (k_ks κ b) i)), .int (I (lg))]) hC (c_B_roomStart (tm_g x) hst Λ κ σ hM hw b (by omega) i (by omega)) k_X0_87 (by rw [hB.2.2.1]; exact ⟨Nat.le_of_ble_eq_true rfl, Nat.le_of_ble_eq_true rfl⟩) rfl (tm_rec2 hC (rc_B hM b (by omega)) rfl) rfl (by simp [Value.category]) dX0_longestRoomLength_25 (fun v_25 w_25 hp_25 => ?_)
        obtain ⟨rfl, rfl, hrm_25⟩ := hp_25
        show tm_V x (tm_H x Λ) 0 0 28 [(0, .ref (k_bo κ b)), (1, .int (I (s_sw σ))), (2, .int (I (lg))), (3, .int (I ((i : Int))))] [.int (I (rmS σ (k_ks κ b) i)), .int (I (rmE σ b (k_ks κ b) i)), .int (I (lg))]
        refine tm_isub hC dX0_longestRoomLength_28 ?_
        refine tm_mm hC true x_X0_64 (by omega) (by rw [hB.2.2.1]; exact ⟨Nat.le_of_ble_eq_true rfl, Nat.le_of_ble_eq_true rfl⟩) ((by decide)) dX0_longestRoomLength_29 ?_
        show tm_V x (tm_H x Λ) 0 0 32 [(0, .ref (k_bo κ b)), (1, .int (I (s_sw σ))), (2, .int (I (lg))), (3, .int (I ((i : Int))))] [.int (I (max lg ((rmE σ b (k_ks κ b) i) - (rmS σ (k_ks κ b) i))))]
        refine tm_istore_n [(2, .int (I (max lg ((rmE σ b (k_ks κ b) i) - (rmS σ (k_ks κ b) i))))), (0, .ref (k_bo κ b)), (1, .int (I (s_sw σ))), (3, .int (I ((i : Int))))] hC dX0_longestRoomLength_32 rfl (by rw [hB.2.1]; exact Nat.le_of_ble_eq_true rfl) rfl ?_
        refine tm_iinc 3 [(3, .int (I ((i : Int) + 1))), (2, .int (I (max lg ((rmE σ b (k_ks κ b) i) - (rmS σ (k_ks κ b) i))))), (0, .ref (k_bo κ b)), (1, .int (I (s_sw σ)))] hC dX0_longestRoomLength_33 rfl (by rw [hB.2.1]; exact Nat.le_of_ble_eq_true rfl) rfl ?_
        refine tm_goto 4 hC dX0_longestRoomLength_36 (by decide) ?_
        refine tm_sub (L' := [(0, .ref (k_bo κ b)), (1, .int (I (s_sw σ))), (2, .int (I (max lg ((rmE σ b (k_ks κ b) i) - (rmS σ (k_ks κ b) i))))), (3, .int (I ((i : Int) + 1)))]) [2, 3, 1, 0] rfl ?_
        exact ih_4  (max lg ((rmE σ b (k_ks κ b) i) - (rmS σ (k_ks κ b) i))) (i + 1) (⟨by omega, lng_s hw hSt (by omega) hin⟩) (by omega)
  refine tm_sub (L' := [(0, .ref (k_bo κ b)), (1, .int (I (s_sw σ))), (2, .int (I (0))), (3, .int (I (0)))]) [2, 3, 1, 0] rfl ?_
  exact hL_4 _ 0 0 (⟨by omega, Or.inl ⟨by omega, by rw [rmS_0]; rfl⟩⟩) (Nat.lt_succ_self _)

set_option maxHeartbeats 4000000 in
set_option maxRecDepth 100000 in
theorem c_B_cuts (γ : tmG) (hst : γ.1.stackTraces = false) (Λ : tmL) (κ : KP) (σ : ST) (hM : RC γ.2.2.1 Λ κ σ) (hw : WF0 σ) (b : Int) (hb : 0 ≤ b ∧ b < s_nb σ) : tm_Con γ (tm_h2 γ.2.1 γ.2.2.1 γ.2.2.2.1) M_X0_countCuts 4 0 0 [.ref (k_bo κ b), .int (I (s_sw σ))] Λ (fun v w' => Λ = w' ∧ v = some (.int (I (cutF σ b (k_ks κ b) (-1))))) := by
  refine tm_con hst (by decide) (Nat.le_of_ble_eq_true rfl) (fun x hB hR => ?_)
  have hg := hB.1
  subst hg
  have hC : tm_C x cX0_countCuts RX0 (some FieldType.int) := hB.2.2.2.1
  have hn := wf_n hw
  have hb9 := wf_b hw b hb
  have hkl := rc_len hM hw b hb
  have hSt := rc_srt hM b hb
  show tm_V x (tm_H x Λ) 0 0 0 [(0, .ref (k_bo κ b)), (1, .int (I (s_sw σ)))] []
  refine tm_iconst hC dX0_countCuts_0 ?_
  refine tm_istore_n [(2, .int (I (0))), (0, .ref (k_bo κ b)), (1, .int (I (s_sw σ)))] hC dX0_countCuts_1 rfl (by rw [hB.2.1]; exact Nat.le_of_ble_eq_true rfl) rfl ?_
  refine tm_iconst hC dX0_countCuts_2 ?_
  refine tm_istore_n [(3, .int (I (0))), (2, .int (I (0))), (0, .ref (k_bo κ b)), (1, .int (I (s_sw σ)))] hC dX0_countCuts_3 rfl (by rw [hB.2.1]; exact Nat.le_of_ble_eq_true rfl) rfl ?_
  have hL_4 : ∀ (fu : Nat) (n9 : Int) (i : Nat) (bf : Int), ((i : Int) ≤ ((k_ks κ b).length : Int) ∧ n9 + cutF σ b ((k_ks κ b).drop i) bf = cutF σ b (k_ks κ b) (-1) ∧ ((i = 0 ∧ bf = -1) ∨ (1 ≤ i ∧ 0 ≤ bf ∧ (k_ks κ b)[i - 1]? = some bf))) → ((((k_ks κ b).length : Int) - i).toNat) < fu → tm_V x (tm_H x Λ) 0 0 4 [(0, .ref (k_bo κ b)), (1, .int (I (s_sw σ))), (2, .int (I (n9))), (3, .int (I ((i : Int))))] [] := by
    intro fu
    induction fu with
    | zero => intro n9 i bf hinv hm; exact absurd hm (Nat.not_lt_zero _)
    | succ fu ih_4 =>
      intro n9 i bf hinv_4 hm_4
      obtain ⟨hi, hct, hbf⟩ := hinv_4
      refine tm_iload_n 3 hC dX0_countCuts_4 rfl rfl ?_
      refine tm_aload_n 0 hC dX0_countCuts_5 rfl rfl ?_
      have hx1 := rc_B hM b (by omega)
      refine tm_getf2 hC f_X0_16 hx1 rfl dX0_countCuts_6 ?_
      refine tm_callV (b := 0) (n := 0) (rest := [.int (I ((i : Int)))]) hC (c_Lsz (tm_g x) hst _ _ _ (((k_ks κ b).length : Int)) (rc_bp hM b (by omega)) (len_m _ _)) k_X0_29 (by rw [hB.2.2.1]; exact ⟨Nat.le_of_ble_eq_true rfl, Nat.le_of_ble_eq_true rfl⟩) rfl (tm_recL hC (rc_bp hM b (by omega))) rfl (by simp [Value.category]) dX0_countCuts_9 (fun v_9 w_9 hp_9 => ?_)
      obtain ⟨rfl, rfl⟩ := hp_9
      show tm_V x (tm_H x Λ) 0 0 12 [(0, .ref (k_bo κ b)), (1, .int (I (s_sw σ))), (2, .int (I (n9))), (3, .int (I ((i : Int))))] [.int (I (((k_ks κ b).length : Int))), .int (I ((i : Int)))]
      refine tm_icmp_ge 90 hC dX0_countCuts_12 (by decide) (by omega) (fun c_12 => ?_) (fun c_12 => ?_)
      · refine tm_iload_n 2 hC dX0_countCuts_90 rfl rfl ?_
        exact tm_iret hC hR dX0_countCuts_91 (⟨rfl, by rw [List.drop_eq_nil_of_le (by omega)] at hct; (have e2 : cutF σ b [] bf = 0 := rfl); rw [← hct, e2, Int.add_zero]⟩)
      · refine tm_aload_n 0 hC dX0_countCuts_15 rfl rfl ?_
        refine tm_getf2 hC f_X0_16 hx1 rfl dX0_countCuts_16 ?_
        refine tm_iload_n 3 hC dX0_countCuts_19 rfl rfl ?_
        obtain ⟨k_20, hga_20, hgb_20, hgc_20, hgd_20⟩ := rc_kat hM hw b (by omega) i (by omega)
        have hg9_20 := wf_k hw k_20 hgc_20
        refine tm_callV (b := 0) (n := 0) (rest := []) hC (c_Lget (tm_g x) hst _ _ _ (i : Int) (k_pc κ k_20) (rc_bp hM b (by omega)) (by omega) (hga_20)) k_X0_33 (by rw [hB.2.2.1]; exact ⟨Nat.le_of_ble_eq_true rfl, Nat.le_of_ble_eq_true rfl⟩) rfl (tm_recL hC (rc_bp hM b (by omega))) rfl (by decide) dX0_countCuts_20 (fun v_20 w_20 hp_20 => ?_)
        obtain ⟨rfl, rfl⟩ := hp_20
        show tm_V x (tm_H x Λ) 0 0 23 [(0, .ref (k_bo κ b)), (1, .int (I (s_sw σ))), (2, .int (I (n9))), (3, .int (I ((i : Int))))] [.ref (k_pc κ k_20)]
        obtain ⟨u9, v9, hcf, hu9, hv9⟩ := cutF_c (σ := σ) (b := b) (k := k_20) (bf := bf) (ks := (k_ks κ b).drop (i + 1))
        rw [drop_at hgb_20] at hct
        have hx2 := rc_K hM k_20 (by omega)
        refine tm_cast2 hC hx2 rfl w_X0_46 dX0_countCuts_23 ?_
        refine tm_astore [(4, .ref (k_pc κ k_20)), (0, .ref (k_bo κ b)), (1, .int (I (s_sw σ))), (2, .int (I (n9))), (3, .int (I ((i : Int))))] hC dX0_countCuts_26 (by rw [hB.2.1]; exact Nat.le_of_ble_eq_true rfl) rfl ?_
        refine tm_aload 0 hC dX0_countCuts_28 rfl ?_
        refine tm_getf2 hC f_X0_48 hx2 rfl dX0_countCuts_30 ?_
        refine tm_if_le 69 hC dX0_countCuts_33 (by decide) (by omega) (fun c_33 => ?_) (fun c_33 => ?_)
        · refine tm_aload 0 hC dX0_countCuts_69 rfl ?_
          refine tm_getf2 hC f_X0_52 hx2 rfl dX0_countCuts_71 ?_
          refine tm_aload_n 1 hC dX0_countCuts_74 rfl rfl ?_
          refine tm_getf2 hC f_X0_19 hx1 rfl dX0_countCuts_75 ?_
          refine tm_icmp_ge 84 hC dX0_countCuts_78 (by decide) (by omega) (fun c_78 => ?_) (fun c_78 => ?_)
          · refine tm_iinc 4 [(3, .int (I ((i : Int) + 1))), (4, .ref (k_pc κ k_20)), (0, .ref (k_bo κ b)), (1, .int (I (s_sw σ))), (2, .int (I (n9)))] hC dX0_countCuts_84 rfl (by rw [hB.2.1]; exact Nat.le_of_ble_eq_true rfl) rfl ?_
            refine tm_goto 4 hC dX0_countCuts_87 (by decide) ?_
            refine tm_sub (L' := [(0, .ref (k_bo κ b)), (1, .int (I (s_sw σ))), (2, .int (I (n9))), (3, .int (I ((i : Int) + 1)))]) [2, 3, 4, 0] rfl ?_
            exact ih_4  n9 (i + 1) k_20 (⟨by omega, by omega, Or.inr ⟨by omega, by omega, hgb_20⟩⟩) (by omega)
          · refine tm_iinc 3 [(2, .int (I (n9 + 1))), (4, .ref (k_pc κ k_20)), (0, .ref (k_bo κ b)), (1, .int (I (s_sw σ))), (3, .int (I ((i : Int))))] hC dX0_countCuts_81 rfl (by rw [hB.2.1]; exact Nat.le_of_ble_eq_true rfl) rfl ?_
            refine tm_iinc 4 [(3, .int (I ((i : Int) + 1))), (2, .int (I (n9 + 1))), (4, .ref (k_pc κ k_20)), (0, .ref (k_bo κ b)), (1, .int (I (s_sw σ)))] hC dX0_countCuts_84 rfl (by rw [hB.2.1]; exact Nat.le_of_ble_eq_true rfl) rfl ?_
            refine tm_goto 4 hC dX0_countCuts_87 (by decide) ?_
            refine tm_sub (L' := [(0, .ref (k_bo κ b)), (1, .int (I (s_sw σ))), (2, .int (I (n9 + 1))), (3, .int (I ((i : Int) + 1)))]) [3, 4, 1, 0] rfl ?_
            exact ih_4  (n9 + 1) (i + 1) k_20 (⟨by omega, by omega, Or.inr ⟨by omega, by omega, hgb_20⟩⟩) (by omega)
        · refine tm_iload_n 4 hC dX0_countCuts_36 rfl rfl ?_
          refine tm_if_le 66 hC dX0_countCuts_37 (by decide) (by omega) (fun c_37 => ?_) (fun c_37 => ?_)
          · refine tm_iinc 3 [(2, .int (I (n9 + 1))), (4, .ref (k_pc κ k_20)), (0, .ref (k_bo κ b)), (1, .int (I (s_sw σ))), (3, .int (I ((i : Int))))] hC dX0_countCuts_66 rfl (by rw [hB.2.1]; exact Nat.le_of_ble_eq_true rfl) rfl ?_
            refine tm_aload 1 hC dX0_countCuts_69 rfl ?_
            refine tm_getf2 hC f_X0_52 hx2 rfl dX0_countCuts_71 ?_
            refine tm_aload_n 2 hC dX0_countCuts_74 rfl rfl ?_
            refine tm_getf2 hC f_X0_19 hx1 rfl dX0_countCuts_75 ?_
            refine tm_icmp_ge 84 hC dX0_countCuts_78 (by decide) (by omega) (fun c_78 => ?_) (fun c_78 => ?_)
            · refine tm_iinc 4 [(3, .int (I ((i : Int) + 1))), (2, .int (I (n9 + 1))), (4, .ref (k_pc κ k_20)), (0, .ref (k_bo κ b)), (1, .int (I (s_sw σ)))] hC dX0_countCuts_84 rfl (by rw [hB.2.1]; exact Nat.le_of_ble_eq_true rfl) rfl ?_
              refine tm_goto 4 hC dX0_countCuts_87 (by decide) ?_
              refine tm_sub (L' := [(0, .ref (k_bo κ b)), (1, .int (I (s_sw σ))), (2, .int (I (n9 + 1))), (3, .int (I ((i : Int) + 1)))]) [3, 4, 1, 0] rfl ?_
              exact ih_4  (n9 + 1) (i + 1) k_20 (⟨by omega, by omega, Or.inr ⟨by omega, by omega, hgb_20⟩⟩) (by omega)
            · refine tm_iinc 0 [(2, .int (I ((n9 + 1) + 1))), (4, .ref (k_pc κ k_20)), (0, .ref (k_bo κ b)), (1, .int (I (s_sw σ))), (3, .int (I ((i : Int))))] hC dX0_countCuts_81 rfl (by rw [hB.2.1]; exact Nat.le_of_ble_eq_true rfl) rfl ?_
              refine tm_iinc 4 [(3, .int (I ((i : Int) + 1))), (2, .int (I ((n9 + 1) + 1))), (4, .ref (k_pc κ k_20)), (0, .ref (k_bo κ b)), (1, .int (I (s_sw σ)))] hC dX0_countCuts_84 rfl (by rw [hB.2.1]; exact Nat.le_of_ble_eq_true rfl) rfl ?_
              refine tm_goto 4 hC dX0_countCuts_87 (by decide) ?_
              refine tm_sub (L' := [(0, .ref (k_bo κ b)), (1, .int (I (s_sw σ))), (2, .int (I ((n9 + 1) + 1))), (3, .int (I ((i : Int) + 1)))]) [3, 4, 1, 0] rfl ?_
              exact ih_4  ((n9 + 1) + 1) (i + 1) k_20 (⟨by omega, by omega, Or.inr ⟨by omega, by omega, hgb_20⟩⟩) (by omega)
          · refine tm_aload 0 hC dX0_countCuts_40 rfl ?_
            refine tm_getf2 hC f_X0_48 hx2 rfl dX0_countCuts_42 ?_
            refine tm_aload_n 1 hC dX0_countCuts_45 rfl rfl ?_
            refine tm_getf2 hC f_X0_16 hx1 rfl dX0_countCuts_46 ?_
            refine tm_iload_n 4 hC dX0_countCuts_49 rfl rfl ?_
            refine tm_iconst hC dX0_countCuts_50 ?_
            refine tm_isub hC dX0_countCuts_51 ?_
            obtain ⟨k_52, hga_52, hgb_52, hgc_52, hgd_52⟩ := rc_kai hM hw b (by omega) ((i : Int) - 1) (by omega)
            have hg9_52 := wf_k hw k_52 hgc_52
            refine tm_callV (b := 0) (n := 0) (rest := [.int (I (s_cu σ (4 * k_20 + 1)))]) hC (c_Lget (tm_g x) hst _ _ _ ((i : Int) - 1) (k_pc κ k_52) (rc_bp hM b (by omega)) (by omega) (hga_52)) k_X0_33 (by rw [hB.2.2.1]; exact ⟨Nat.le_of_ble_eq_true rfl, Nat.le_of_ble_eq_true rfl⟩) rfl (tm_recL hC (rc_bp hM b (by omega))) rfl (by simp [Value.category]) dX0_countCuts_52 (fun v_52 w_52 hp_52 => ?_)
            obtain ⟨rfl, rfl⟩ := hp_52
            show tm_V x (tm_H x Λ) 0 0 55 [(4, .ref (k_pc κ k_20)), (0, .ref (k_bo κ b)), (1, .int (I (s_sw σ))), (2, .int (I (n9))), (3, .int (I ((i : Int))))] [.ref (k_pc κ k_52), .int (I (s_cu σ (4 * k_20 + 1)))]
            have hbe : k_52 = bf := by
              rcases hbf with h | h
              · omega
              · have h1 := hgb_52
                rw [show ((i : Int) - 1).toNat = i - 1 by omega, h.2.2] at h1
                cases h1
                rfl
            rw [← hbe] at hu9
            have hx3 := rc_K hM k_52 (by omega)
            refine tm_cast2 hC hx3 rfl w_X0_46 dX0_countCuts_55 ?_
            refine tm_getf2 hC f_X0_52 hx3 rfl dX0_countCuts_58 ?_
            refine tm_isub hC dX0_countCuts_61 ?_
            refine tm_iload_n 2 hC dX0_countCuts_62 rfl rfl ?_
            refine tm_icmp_eq 69 hC dX0_countCuts_63 (by decide) (by omega) (fun c_63 => ?_) (fun c_63 => ?_)
            · refine tm_aload 0 hC dX0_countCuts_69 rfl ?_
              refine tm_getf2 hC f_X0_52 hx2 rfl dX0_countCuts_71 ?_
              refine tm_aload_n 1 hC dX0_countCuts_74 rfl rfl ?_
              refine tm_getf2 hC f_X0_19 hx1 rfl dX0_countCuts_75 ?_
              refine tm_icmp_ge 84 hC dX0_countCuts_78 (by decide) (by omega) (fun c_78 => ?_) (fun c_78 => ?_)
              · refine tm_iinc 4 [(3, .int (I ((i : Int) + 1))), (4, .ref (k_pc κ k_20)), (0, .ref (k_bo κ b)), (1, .int (I (s_sw σ))), (2, .int (I (n9)))] hC dX0_countCuts_84 rfl (by rw [hB.2.1]; exact Nat.le_of_ble_eq_true rfl) rfl ?_
                refine tm_goto 4 hC dX0_countCuts_87 (by decide) ?_
                refine tm_sub (L' := [(0, .ref (k_bo κ b)), (1, .int (I (s_sw σ))), (2, .int (I (n9))), (3, .int (I ((i : Int) + 1)))]) [2, 3, 4, 0] rfl ?_
                exact ih_4  n9 (i + 1) k_20 (⟨by omega, by omega, Or.inr ⟨by omega, by omega, hgb_20⟩⟩) (by omega)
              · refine tm_iinc 3 [(2, .int (I (n9 + 1))), (4, .ref (k_pc κ k_20)), (0, .ref (k_bo κ b)), (1, .int (I (s_sw σ))), (3, .int (I ((i : Int))))] hC dX0_countCuts_81 rfl (by rw [hB.2.1]; exact Nat.le_of_ble_eq_true rfl) rfl ?_
                refine tm_iinc 4 [(3, .int (I ((i : Int) + 1))), (2, .int (I (n9 + 1))), (4, .ref (k_pc κ k_20)), (0, .ref (k_bo κ b)), (1, .int (I (s_sw σ)))] hC dX0_countCuts_84 rfl (by rw [hB.2.1]; exact Nat.le_of_ble_eq_true rfl) rfl ?_
                refine tm_goto 4 hC dX0_countCuts_87 (by decide) ?_
                refine tm_sub (L' := [(0, .ref (k_bo κ b)), (1, .int (I (s_sw σ))), (2, .int (I (n9 + 1))), (3, .int (I ((i : Int) + 1)))]) [3, 4, 1, 0] rfl ?_
                exact ih_4  (n9 + 1) (i + 1) k_20 (⟨by omega, by omega, Or.inr ⟨by omega, by omega, hgb_20⟩⟩) (by omega)
            · refine tm_iinc 3 [(2, .int (I (n9 + 1))), (4, .ref (k_pc κ k_20)), (0, .ref (k_bo κ b)), (1, .int (I (s_sw σ))), (3, .int (I ((i : Int))))] hC dX0_countCuts_66 rfl (by rw [hB.2.1]; exact Nat.le_of_ble_eq_true rfl) rfl ?_
              refine tm_aload 1 hC dX0_countCuts_69 rfl ?_
              refine tm_getf2 hC f_X0_52 hx2 rfl dX0_countCuts_71 ?_
              refine tm_aload_n 2 hC dX0_countCuts_74 rfl rfl ?_
              refine tm_getf2 hC f_X0_19 hx1 rfl dX0_countCuts_75 ?_
              refine tm_icmp_ge 84 hC dX0_countCuts_78 (by decide) (by omega) (fun c_78 => ?_) (fun c_78 => ?_)
              · refine tm_iinc 4 [(3, .int (I ((i : Int) + 1))), (2, .int (I (n9 + 1))), (4, .ref (k_pc κ k_20)), (0, .ref (k_bo κ b)), (1, .int (I (s_sw σ)))] hC dX0_countCuts_84 rfl (by rw [hB.2.1]; exact Nat.le_of_ble_eq_true rfl) rfl ?_
                refine tm_goto 4 hC dX0_countCuts_87 (by decide) ?_
                refine tm_sub (L' := [(0, .ref (k_bo κ b)), (1, .int (I (s_sw σ))), (2, .int (I (n9 + 1))), (3, .int (I ((i : Int) + 1)))]) [3, 4, 1, 0] rfl ?_
                exact ih_4  (n9 + 1) (i + 1) k_20 (⟨by omega, by omega, Or.inr ⟨by omega, by omega, hgb_20⟩⟩) (by omega)
              · refine tm_iinc 0 [(2, .int (I ((n9 + 1) + 1))), (4, .ref (k_pc κ k_20)), (0, .ref (k_bo κ b)), (1, .int (I (s_sw σ))), (3, .int (I ((i : Int))))] hC dX0_countCuts_81 rfl (by rw [hB.2.1]; exact Nat.le_of_ble_eq_true rfl) rfl ?_
                refine tm_iinc 4 [(3, .int (I ((i : Int) + 1))), (2, .int (I ((n9 + 1) + 1))), (4, .ref (k_pc κ k_20)), (0, .ref (k_bo κ b)), (1, .int (I (s_sw σ)))] hC dX0_countCuts_84 rfl (by rw [hB.2.1]; exact Nat.le_of_ble_eq_true rfl) rfl ?_
                refine tm_goto 4 hC dX0_countCuts_87 (by decide) ?_
                refine tm_sub (L' := [(0, .ref (k_bo κ b)), (1, .int (I (s_sw σ))), (2, .int (I ((n9 + 1) + 1))), (3, .int (I ((i : Int) + 1)))]) [3, 4, 1, 0] rfl ?_
                exact ih_4  ((n9 + 1) + 1) (i + 1) k_20 (⟨by omega, by omega, Or.inr ⟨by omega, by omega, hgb_20⟩⟩) (by omega)
  refine tm_sub (L' := [(0, .ref (k_bo κ b)), (1, .int (I (s_sw σ))), (2, .int (I (0))), (3, .int (I (0)))]) [2, 3, 1, 0] rfl ?_
  exact hL_4 _ 0 0 (-1) (⟨by omega, by show 0 + cutF σ b (k_ks κ b) (-1) = _; omega, Or.inl ⟨rfl, rfl⟩⟩) (Nat.lt_succ_self _)

set_option maxHeartbeats 4000000 in
set_option maxRecDepth 100000 in
theorem c_B_area (γ : tmG) (hst : γ.1.stackTraces = false) (Λ : tmL) (κ : KP) (σ : ST) (hM : RC γ.2.2.1 Λ κ σ) (hw : WF0 σ) (b : Int) (hb : 0 ≤ b ∧ b < s_nb σ) : tm_Con γ (tm_h2 γ.2.1 γ.2.2.1 γ.2.2.2.1) M_X0_areaOfPieces 4 0 0 [.ref (k_bo κ b)] Λ (fun v w' => Λ = w' ∧ v = some (.int (I (lsum (usC σ) (k_ks κ b))))) := by
  refine tm_con hst (by decide) (Nat.le_of_ble_eq_true rfl) (fun x hB hR => ?_)
  have hg := hB.1
  subst hg
  have hC : tm_C x cX0_areaOfPieces RX0 (some FieldType.int) := hB.2.2.2.1
  have hn := wf_n hw
  have hb9 := wf_b hw b hb
  have hkl := rc_len hM hw b hb
  have hSt := rc_srt hM b hb
  show tm_V x (tm_H x Λ) 0 0 0 [(0, .ref (k_bo κ b))] []
  refine tm_iconst hC dX0_areaOfPieces_0 ?_
  refine tm_istore_n [(1, .int (I (0))), (0, .ref (k_bo κ b))] hC dX0_areaOfPieces_1 rfl (by rw [hB.2.1]; exact Nat.le_of_ble_eq_true rfl) rfl ?_
  refine tm_iconst hC dX0_areaOfPieces_2 ?_
  refine tm_istore_n [(2, .int (I (0))), (1, .int (I (0))), (0, .ref (k_bo κ b))] hC dX0_areaOfPieces_3 rfl (by rw [hB.2.1]; exact Nat.le_of_ble_eq_true rfl) rfl ?_
  have hL_4 : ∀ (fu : Nat) (a9 : Int) (i : Nat), ((i : Int) ≤ ((k_ks κ b).length : Int) ∧ a9 + lsum (usC σ) ((k_ks κ b).drop i) = lsum (usC σ) (k_ks κ b)) → ((((k_ks κ b).length : Int) - i).toNat) < fu → tm_V x (tm_H x Λ) 0 0 4 [(0, .ref (k_bo κ b)), (1, .int (I (a9))), (2, .int (I ((i : Int))))] [] := by
    intro fu
    induction fu with
    | zero => intro a9 i hinv hm; exact absurd hm (Nat.not_lt_zero _)
    | succ fu ih_4 =>
      intro a9 i hinv_4 hm_4
      obtain ⟨hi, hct⟩ := hinv_4
      refine tm_iload_n 2 hC dX0_areaOfPieces_4 rfl rfl ?_
      refine tm_aload_n 0 hC dX0_areaOfPieces_5 rfl rfl ?_
      have hx1 := rc_B hM b (by omega)
      refine tm_getf2 hC f_X0_16 hx1 rfl dX0_areaOfPieces_6 ?_
      refine tm_callV (b := 0) (n := 0) (rest := [.int (I ((i : Int)))]) hC (c_Lsz (tm_g x) hst _ _ _ (((k_ks κ b).length : Int)) (rc_bp hM b (by omega)) (len_m _ _)) k_X0_29 (by rw [hB.2.2.1]; exact ⟨Nat.le_of_ble_eq_true rfl, Nat.le_of_ble_eq_true rfl⟩) rfl (tm_recL hC (rc_bp hM b (by omega))) rfl (by simp [Value.category]) dX0_areaOfPieces_9 (fun v_9 w_9 hp_9 => ?_)
      obtain ⟨rfl, rfl⟩ := hp_9
      show tm_V x (tm_H x Λ) 0 0 12 [(0, .ref (k_bo κ b)), (1, .int (I (a9))), (2, .int (I ((i : Int))))] [.int (I (((k_ks κ b).length : Int))), .int (I ((i : Int)))]
      refine tm_icmp_ge 53 hC dX0_areaOfPieces_12 (by decide) (by omega) (fun c_12 => ?_) (fun c_12 => ?_)
      · refine tm_iload_n 1 hC dX0_areaOfPieces_53 rfl rfl ?_
        exact tm_iret hC hR dX0_areaOfPieces_54 (⟨rfl, by rw [List.drop_eq_nil_of_le (by omega)] at hct; (have e2 : lsum (usC σ) [] = 0 := rfl); rw [← hct, e2, Int.add_zero]⟩)
      · refine tm_aload_n 0 hC dX0_areaOfPieces_15 rfl rfl ?_
        refine tm_getf2 hC f_X0_16 hx1 rfl dX0_areaOfPieces_16 ?_
        refine tm_iload_n 2 hC dX0_areaOfPieces_19 rfl rfl ?_
        obtain ⟨k_20, hga_20, hgb_20, hgc_20, hgd_20⟩ := rc_kat hM hw b (by omega) i (by omega)
        have hg9_20 := wf_k hw k_20 hgc_20
        refine tm_callV (b := 0) (n := 0) (rest := []) hC (c_Lget (tm_g x) hst _ _ _ (i : Int) (k_pc κ k_20) (rc_bp hM b (by omega)) (by omega) (hga_20)) k_X0_33 (by rw [hB.2.2.1]; exact ⟨Nat.le_of_ble_eq_true rfl, Nat.le_of_ble_eq_true rfl⟩) rfl (tm_recL hC (rc_bp hM b (by omega))) rfl (by decide) dX0_areaOfPieces_20 (fun v_20 w_20 hp_20 => ?_)
        obtain ⟨rfl, rfl⟩ := hp_20
        show tm_V x (tm_H x Λ) 0 0 23 [(0, .ref (k_bo κ b)), (1, .int (I (a9))), (2, .int (I ((i : Int))))] [.ref (k_pc κ k_20)]
        have hx2 := rc_K hM k_20 (by omega)
        refine tm_cast2 hC hx2 rfl w_X0_46 dX0_areaOfPieces_23 ?_
        refine tm_astore_n [(3, .ref (k_pc κ k_20)), (0, .ref (k_bo κ b)), (1, .int (I (a9))), (2, .int (I ((i : Int))))] hC dX0_areaOfPieces_26 rfl (by rw [hB.2.1]; exact Nat.le_of_ble_eq_true rfl) rfl ?_
        refine tm_iload_n 2 hC dX0_areaOfPieces_27 rfl rfl ?_
        refine tm_aload_n 0 hC dX0_areaOfPieces_28 rfl rfl ?_
        refine tm_getf2 hC f_X0_52 hx2 rfl dX0_areaOfPieces_29 ?_
        refine tm_aload_n 0 hC dX0_areaOfPieces_32 rfl rfl ?_
        refine tm_getf2 hC f_X0_48 hx2 rfl dX0_areaOfPieces_33 ?_
        refine tm_isub hC dX0_areaOfPieces_36 ?_
        refine tm_aload_n 0 hC dX0_areaOfPieces_37 rfl rfl ?_
        refine tm_getf2 hC f_X0_55 hx2 rfl dX0_areaOfPieces_38 ?_
        have hx3 := rc_P hM (s_cu σ (4 * k_20 + 3)) (by omega)
        refine tm_getf2 hC f_X0_79 hx3 rfl dX0_areaOfPieces_41 ?_
        refine tm_imul hC dX0_areaOfPieces_44 ?_
        refine tm_iadd hC dX0_areaOfPieces_45 ?_
        refine tm_istore_n [(1, .int (I (a9 + (((s_cu σ (4 * k_20 + 2)) - (s_cu σ (4 * k_20 + 1))) * (s_wa σ (4 * (s_cu σ (4 * k_20 + 3)) + 1)))))), (3, .ref (k_pc κ k_20)), (0, .ref (k_bo κ b)), (2, .int (I ((i : Int))))] hC dX0_areaOfPieces_46 rfl (by rw [hB.2.1]; exact Nat.le_of_ble_eq_true rfl) rfl ?_
        refine tm_iinc 3 [(2, .int (I ((i : Int) + 1))), (1, .int (I (a9 + (((s_cu σ (4 * k_20 + 2)) - (s_cu σ (4 * k_20 + 1))) * (s_wa σ (4 * (s_cu σ (4 * k_20 + 3)) + 1)))))), (3, .ref (k_pc κ k_20)), (0, .ref (k_bo κ b))] hC dX0_areaOfPieces_47 rfl (by rw [hB.2.1]; exact Nat.le_of_ble_eq_true rfl) rfl ?_
        refine tm_goto 4 hC dX0_areaOfPieces_50 (by decide) ?_
        refine tm_sub (L' := [(0, .ref (k_bo κ b)), (1, .int (I (a9 + (((s_cu σ (4 * k_20 + 2)) - (s_cu σ (4 * k_20 + 1))) * (s_wa σ (4 * (s_cu σ (4 * k_20 + 3)) + 1)))))), (2, .int (I ((i : Int) + 1)))]) [3, 1, 0] rfl ?_
        exact ih_4  (a9 + (((s_cu σ (4 * k_20 + 2)) - (s_cu σ (4 * k_20 + 1))) * (s_wa σ (4 * (s_cu σ (4 * k_20 + 3)) + 1)))) (i + 1) (⟨by omega, by rw [drop_at hgb_20] at hct; (have e9 : lsum (usC σ) (k_20 :: (k_ks κ b).drop (i + 1)) = usC σ k_20 + lsum (usC σ) ((k_ks κ b).drop (i + 1)) := rfl); show a9 + usC σ k_20 + _ = _; omega⟩) (by omega)
  refine tm_sub (L' := [(0, .ref (k_bo κ b)), (1, .int (I (0))), (2, .int (I (0)))]) [2, 1, 0] rfl ?_
  exact hL_4 _ 0 0 (⟨by omega, by show 0 + lsum (usC σ) (k_ks κ b) = _; omega⟩) (Nat.lt_succ_self _)

set_option maxHeartbeats 4000000 in
set_option maxRecDepth 100000 in
theorem c_K_tell0 (γ : tmG) (hst : γ.1.stackTraces = false) (Λ : tmL) (κ : KP) (σ : ST) (hM : RC γ.2.2.1 Λ κ σ) (hw : WF0 σ) (k : Int) (hk : 0 ≤ k ∧ k < s_nm σ) : tm_Con γ (tm_h2 γ.2.1 γ.2.2.1 γ.2.2.2.1) M_X4_tell 1 0 0 [.ref (k_pc κ k), .int (I (0))] Λ (fun v w' => Λ = w' ∧ v = some (.int (I (tellS σ k 0)))) := by
  refine tm_con hst (by decide) (Nat.le_of_ble_eq_true rfl) (fun x hB hR => ?_)
  have hg := hB.1
  subst hg
  have hC : tm_C x cX4_tell RX4 (some FieldType.int) := hB.2.2.2.1
  have hk9 := wf_k hw k hk
  show tm_V x (tm_H x Λ) 0 0 0 [(0, .ref (k_pc κ k)), (1, .int (I (0)))] []
  refine tm_iload_n 1 hC dX4_tell_0 rfl rfl ?_
  refine tm_tabIn 28 hC dX4_tell_1 (by omega) (by omega) rfl (by decide) ?_
  refine tm_aload_n 0 hC dX4_tell_28 rfl rfl ?_
  have hx1 := rc_K hM k (by omega)
  refine tm_getf2 hC f_X4_7 hx1 rfl dX4_tell_29 ?_
  have hx2 := rc_P hM (s_cu σ (4 * k + 3)) (by omega)
  refine tm_getf2 hC f_X4_28 hx2 rfl dX4_tell_32 ?_
  exact tm_iret hC hR dX4_tell_35 (⟨rfl, by rw [← tellS_e (σ := σ) (k := k) (w := 0) (r := (s_cu σ (4 * k + 3))) (by omega)]⟩)

set_option maxHeartbeats 4000000 in
set_option maxRecDepth 100000 in
theorem c_K_tell1 (γ : tmG) (hst : γ.1.stackTraces = false) (Λ : tmL) (κ : KP) (σ : ST) (hM : RC γ.2.2.1 Λ κ σ) (hw : WF0 σ) (k : Int) (hk : 0 ≤ k ∧ k < s_nm σ) : tm_Con γ (tm_h2 γ.2.1 γ.2.2.1 γ.2.2.2.1) M_X4_tell 1 0 0 [.ref (k_pc κ k), .int (I (1))] Λ (fun v w' => Λ = w' ∧ v = some (.int (I (tellS σ k 1)))) := by
  refine tm_con hst (by decide) (Nat.le_of_ble_eq_true rfl) (fun x hB hR => ?_)
  have hg := hB.1
  subst hg
  have hC : tm_C x cX4_tell RX4 (some FieldType.int) := hB.2.2.2.1
  have hk9 := wf_k hw k hk
  show tm_V x (tm_H x Λ) 0 0 0 [(0, .ref (k_pc κ k)), (1, .int (I (1)))] []
  refine tm_iload_n 1 hC dX4_tell_0 rfl rfl ?_
  refine tm_tabIn 36 hC dX4_tell_1 (by omega) (by omega) rfl (by decide) ?_
  refine tm_aload_n 0 hC dX4_tell_36 rfl rfl ?_
  have hx1 := rc_K hM k (by omega)
  refine tm_getf2 hC f_X4_17 hx1 rfl dX4_tell_37 ?_
  exact tm_iret hC hR dX4_tell_40 (⟨rfl, by rw [← tellS_e (σ := σ) (k := k) (w := 1) (r := s_cu σ (4 * k + 1)) (by omega)]⟩)

set_option maxHeartbeats 4000000 in
set_option maxRecDepth 100000 in
theorem c_K_tell2 (γ : tmG) (hst : γ.1.stackTraces = false) (Λ : tmL) (κ : KP) (σ : ST) (hM : RC γ.2.2.1 Λ κ σ) (hw : WF0 σ) (k : Int) (hk : 0 ≤ k ∧ k < s_nm σ) : tm_Con γ (tm_h2 γ.2.1 γ.2.2.1 γ.2.2.2.1) M_X4_tell 1 0 0 [.ref (k_pc κ k), .int (I (2))] Λ (fun v w' => Λ = w' ∧ v = some (.int (I (tellS σ k 2)))) := by
  refine tm_con hst (by decide) (Nat.le_of_ble_eq_true rfl) (fun x hB hR => ?_)
  have hg := hB.1
  subst hg
  have hC : tm_C x cX4_tell RX4 (some FieldType.int) := hB.2.2.2.1
  have hk9 := wf_k hw k hk
  show tm_V x (tm_H x Λ) 0 0 0 [(0, .ref (k_pc κ k)), (1, .int (I (2)))] []
  refine tm_iload_n 1 hC dX4_tell_0 rfl rfl ?_
  refine tm_tabIn 41 hC dX4_tell_1 (by omega) (by omega) rfl (by decide) ?_
  refine tm_aload_n 0 hC dX4_tell_41 rfl rfl ?_
  have hx1 := rc_K hM k (by omega)
  refine tm_getf2 hC f_X4_21 hx1 rfl dX4_tell_42 ?_
  exact tm_iret hC hR dX4_tell_45 (⟨rfl, by rw [← tellS_e (σ := σ) (k := k) (w := 2) (r := s_cu σ (4 * k + 2)) (by omega)]⟩)

set_option maxHeartbeats 4000000 in
set_option maxRecDepth 100000 in
theorem c_K_tell3 (γ : tmG) (hst : γ.1.stackTraces = false) (Λ : tmL) (κ : KP) (σ : ST) (hM : RC γ.2.2.1 Λ κ σ) (hw : WF0 σ) (k : Int) (hk : 0 ≤ k ∧ k < s_nm σ) : tm_Con γ (tm_h2 γ.2.1 γ.2.2.1 γ.2.2.2.1) M_X4_tell 1 0 0 [.ref (k_pc κ k), .int (I (3))] Λ (fun v w' => Λ = w' ∧ v = some (.int (I (tellS σ k 3)))) := by
  refine tm_con hst (by decide) (Nat.le_of_ble_eq_true rfl) (fun x hB hR => ?_)
  have hg := hB.1
  subst hg
  have hC : tm_C x cX4_tell RX4 (some FieldType.int) := hB.2.2.2.1
  have hk9 := wf_k hw k hk
  show tm_V x (tm_H x Λ) 0 0 0 [(0, .ref (k_pc κ k)), (1, .int (I (3)))] []
  refine tm_iload_n 1 hC dX4_tell_0 rfl rfl ?_
  refine tm_tabOut 46 hC dX4_tell_1 (by omega) (by omega) (by decide) ?_
  refine tm_aload_n 0 hC dX4_tell_46 rfl rfl ?_
  have hx1 := rc_K hM k (by omega)
  refine tm_getf2 hC f_X4_24 hx1 rfl dX4_tell_47 ?_
  refine tm_if_eq 57 hC dX4_tell_50 (by decide) (by omega) (fun c_50 => ?_) (fun c_50 => ?_)
  · refine tm_iconst hC dX4_tell_57 ?_
    exact tm_iret hC hR dX4_tell_58 (⟨rfl, by rw [← tellS_e (σ := σ) (k := k) (w := 3) (r := 0) (by omega)]⟩)
  · refine tm_iconst hC dX4_tell_53 ?_
    refine tm_goto 58 hC dX4_tell_54 (by decide) ?_
    exact tm_iret hC hR dX4_tell_58 (⟨rfl, by rw [← tellS_e (σ := σ) (k := k) (w := 3) (r := 1) (by omega)]⟩)

theorem c_K_tell (γ : tmG) (hst : γ.1.stackTraces = false) (Λ : tmL) (κ : KP) (σ : ST) (hM : RC γ.2.2.1 Λ κ σ) (hw : WF0 σ) (k : Int) (hk : 0 ≤ k ∧ k < s_nm σ) (w : Int) (hw3 : 0 ≤ w ∧ w ≤ 3) : tm_Con γ (tm_h2 γ.2.1 γ.2.2.1 γ.2.2.2.1) M_X4_tell 1 0 0 [.ref (k_pc κ k), .int (I w)] Λ (fun v w' => Λ = w' ∧ v = some (.int (I (tellS σ k w)))) := by
  rcases (show w = 0 ∨ w = 1 ∨ w = 2 ∨ w = 3 by omega) with e | e | e | e <;> subst e
  · exact c_K_tell0 γ hst Λ κ σ hM hw k hk
  · exact c_K_tell1 γ hst Λ κ σ hM hw k hk
  · exact c_K_tell2 γ hst Λ κ σ hM hw k hk
  · exact c_K_tell3 γ hst Λ κ σ hM hw k hk
