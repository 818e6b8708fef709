/-! How the relation moves, on: pieces taken away, boards, parts, defects; how it begins. -/
theorem setNm_wf0 {σ : ST} {m : Int} (hw : WF0 σ) (hm : 0 ≤ m ∧ m ≤ s_nm σ) : WF0 (setNm σ m) := by
  have hn := wf_n hw
  obtain ⟨h1, h2, h3, h4, h5, h6⟩ := hw
  refine ⟨?_, h2, h3, h4, fun k hk => h5 k ?_, fun i j h0 hij hj => h6 i j h0 hij ?_⟩
  · show 0 ≤ s_nb σ ∧ s_nb σ ≤ 10 ∧ 0 ≤ s_nd σ ∧ s_nd σ ≤ 24 ∧ 0 ≤ s_np σ ∧ s_np σ ≤ 12 ∧ 0 ≤ s_sw σ ∧ s_sw σ ≤ 10 ∧ 0 ≤ s_jt σ ∧ s_jt σ ≤ 50 ∧ 0 ≤ m ∧ m ≤ 216
    omega
  · have hk : 0 ≤ k ∧ k < m := hk
    omega
  · have hj : j < m := hj
    omega
theorem grp_last {aj cu : Int → Int} : ∀ (cs : List Int) (k m : Int), grp aj cu cs k m → cs ≠ [] → ∃ cs' j, cs = cs' ++ [j] ∧ grp aj cu cs' k j ∧ ((aj j = 0 ∧ m = j + 1) ∨ (aj j = 1 ∧ aj (j + 1) = 1 ∧ cu (4 * (j + 1) + 3) = cu (4 * j + 3) ∧ m = j + 2)) := by
  intro cs
  induction cs with
  | nil => intro k m _ h; exact absurd rfl h
  | cons c r ih =>
    intro k m h _
    obtain ⟨e, h⟩ := h
    by_cases hr : r = []
    · subst hr
      refine ⟨[], c, rfl, e.symm, ?_⟩
      rcases h with ⟨h1, h2⟩ | ⟨h1, h2, h3, h4⟩
      · have h2 : k + 1 = m := h2
        exact Or.inl ⟨by rw [e]; exact h1, by omega⟩
      · have h4 : k + 2 = m := h4
        exact Or.inr ⟨by rw [e]; exact h1, by rw [e]; exact h2, by rw [e]; exact h3, by omega⟩
    · rcases h with ⟨h1, h2⟩ | ⟨h1, h2, h3, h4⟩
      · obtain ⟨cs', j, e2, g1, g2⟩ := ih _ _ h2 hr
        exact ⟨c :: cs', j, by rw [e2]; rfl, ⟨e, Or.inl ⟨h1, g1⟩⟩, g2⟩
      · obtain ⟨cs', j, e2, g1, g2⟩ := ih _ _ h4 hr
        exact ⟨c :: cs', j, by rw [e2]; rfl, ⟨e, Or.inr ⟨h1, h2, h3, g1⟩⟩, g2⟩
theorem snoc_of {α : Type} {l : List α} {n : Nat} (h : l.length = n + 1) : ∃ l' x, l = l' ++ [x] ∧ l'.length = n := by
  rcases List.eq_nil_or_concat l with h0 | ⟨l', x, h0⟩
  · rw [h0] at h; cases h
  · refine ⟨l', x, by rw [h0, List.concat_eq_append], ?_⟩
    rw [h0] at h
    simp at h
    exact h
/-- other cuttings -/
def kCs (κ : KP) (ca : List Nat) (cs : List Int) : KP := (κ.1, κ.2.1, κ.2.2.1, κ.2.2.2.1, κ.2.2.2.2.1, κ.2.2.2.2.2.1, κ.2.2.2.2.2.2.1, κ.2.2.2.2.2.2.2.1, κ.2.2.2.2.2.2.2.2.1, κ.2.2.2.2.2.2.2.2.2.1, ca, cs, κ.2.2.2.2.2.2.2.2.2.2.2.2)
theorem RC_cs {T : ClassId × ClassId × ClassId × ClassId} {Λ : tmL} {κ : KP} {σ : ST} (h : RC T Λ κ σ) {ca : List Nat} {cs : List Int} (hg : ∃ m, m ≤ s_nm σ ∧ grp (s_aj σ) (s_cu σ) cs 0 m) (hl : ca.length = cs.length) (hc : ∀ (i : Nat) (j : Int) (c : Nat), cs[i]? = some j → ca[i]? = some c → Λ c = some (.inl (.inr (2, fC κ σ j)))) : RC T (tm_ul Λ (k_lc κ) ca) (kCs κ ca cs) σ := by
  have hL := rc_lc h
  have ne : ∀ (a : Nat) (e : va_E), Λ a = some (.inl e) → ∀ xs, tm_ul Λ (k_lc κ) xs a = some (.inl e) := by
    intro a e ha xs
    rw [tm_ul_n (fun z => by rw [z, hL] at ha; cases ha)]
    exact ha
  have nl : ∀ (a : Nat) (e : va_E ⊕ List Nat), Λ a = some e → a ≠ k_lc κ → ∀ xs, tm_ul Λ (k_lc κ) xs a = some e := by
    intro a e ha hne xs
    rw [tm_ul_n hne]
    exact ha
  have hap := rc_ap h
  obtain ⟨h1, ⟨h2, h3, h4, h5, h6⟩, h7, h8, h9, h10, -, h12, h13⟩ := h
  exact ⟨ne _ _ h1 _, ⟨nl _ _ h2 hap.1.2.2.1 _, nl _ _ h3 hap.1.2.2.2.2.1 _, nl _ _ h4 hap.1.2.2.2.2.2 _, tm_ul_s, ne _ _ h6 _⟩, fun b hb => ⟨ne _ _ (h7 b hb).1 _, nl _ _ (h7 b hb).2.1 (hap.2.1 b hb).1.2.2.2 _, nl _ _ (h7 b hb).2.2.1 (hap.2.1 b hb).2.2.2.2 _, (h7 b hb).2.2.2⟩, fun z hz => ne _ _ (h8 z hz) _, fun d hd => ne _ _ (h9 d hd) _, fun k hk => ne _ _ (h10 k hk) _, ⟨hg, hl, fun x y d hx hy => ne _ _ (hc x y d hx hy) _⟩, h12, h13⟩
/-- the pieces from a number on are gone -/
def kDel (κ : KP) (m : Int) : KP := (κ.1, κ.2.1, κ.2.2.1, κ.2.2.2.1, κ.2.2.2.2.1, κ.2.2.2.2.2.1, κ.2.2.2.2.2.2.1, κ.2.2.2.2.2.2.2.1, (fun c => (k_ks κ c).filter (fun k => decide (k < m))), κ.2.2.2.2.2.2.2.2.2)
theorem RC_del {T : ClassId × ClassId × ClassId × ClassId} {Λ Λ' : tmL} {κ : KP} {σ : ST} (h : RC T Λ κ σ) (hw : WF0 σ) {m : Int} (hm : 0 ≤ m ∧ m ≤ s_nm σ) (hg : grp (s_aj σ) (s_cu σ) (k_cs κ) 0 m) (ho : ∀ (a : Nat) (e : va_E ⊕ List Nat), Λ a = some e → (∀ b, 0 ≤ b ∧ b < s_nb σ → a ≠ k_bp κ b) → Λ' a = some e) (hb : ∀ b, 0 ≤ b ∧ b < s_nb σ → Λ' (k_bp κ b) = some (.inr (((k_ks κ b).filter (fun k => decide (k < m))).map (k_pc κ)))) : RC T Λ' (kDel κ m) (setNm σ m) := by
  have hw1 := setNm_wf0 hw hm
  have hap := rc_ap h
  have hbp := rc_bp h
  have ne : ∀ (a : Nat) (e : va_E), Λ a = some (.inl e) → Λ' a = some (.inl e) := by
    intro a e ha
    exact ho a _ ha (fun b hb z => by rw [z, hbp b hb] at ha; cases ha)
  obtain ⟨h1, ⟨h2, h3, h4, h5, h6⟩, h7, h8, h9, h10, ⟨-, hc2, hc3⟩, h12, h13⟩ := h
  refine ⟨ne _ _ h1, ⟨ho _ _ h2 (fun b hb z => (hap.2.1 b hb).2.1 z.symm), ho _ _ h3 (fun b hb z => (hap.2.1 b hb).2.2.1 z.symm), ho _ _ h4 (fun b hb z => (hap.2.1 b hb).2.2.2.1 z.symm), ho _ _ h5 (fun b hb z => (hap.2.1 b hb).2.2.2.2 z.symm), ne _ _ h6⟩, fun c hc => ⟨ne _ _ (h7 c hc).1, ho _ _ (h7 c hc).2.1 (fun b hb => (hap.2.2.1 c b hc hb).1), hb c hc, ?_, (h7 c hc).2.2.2.2⟩, fun z hz => ne _ _ (h8 z hz), fun d hd => ne _ _ (h9 d hd), fun k hk => ne _ _ (h10 k ?_), ⟨⟨m, Int.le_refl _, hg⟩, hc2, fun x y c hx hy => ne _ _ (hc3 x y c hx hy)⟩, h12, ⟨hap.1, hap.2.1, hap.2.2.1, hap.2.2.2.1, fun x y hx hy hxy => hap.2.2.2.2 x y ?_ ?_ hxy⟩⟩
  · show Srt (setNm σ m) c ((k_ks κ c).filter (fun k => decide (k < m))) 0
    have hs := (h7 c hc).2.2.2.1
    have hmm := Srt_mm hw hs
    refine Srt_mk hw1 _ 0 (fun k => ?_) ((Srt_pw hw hs).filter _)
    rw [List.mem_filter, decide_eq_true_iff, hmm k]
    show _ ↔ (0 ≤ k ∧ k < m) ∧ s_cu σ (4 * k) = c ∧ 0 ≤ s_cu σ (4 * k + 1)
    constructor
    · rintro ⟨⟨f1, f2, f3⟩, f4⟩; exact ⟨by omega, f2, f3⟩
    · rintro ⟨f1, f2, f3⟩; exact ⟨⟨by omega, f2, f3⟩, by omega⟩
  · have hk : 0 ≤ k ∧ k < m := hk
    omega
  · have hx : 0 ≤ x ∧ x < m := hx
    omega
  · have hy : 0 ≤ y ∧ y < m := hy
    omega
theorem Srt_nd {σ : ST} (hw : WF0 σ) {b : Int} {ks : List Int} (h : Srt σ b ks 0) : ks.Nodup := by
  refine (Srt_pw hw h).imp ?_
  intro a c hac z
  subst z
  omega
/-- a list without one of its elements -/
theorem erase_f {f : Int → Nat} {k0 : Int} : ∀ (ks : List Int) (i : Nat), ks.Nodup → (ks.map f)[i]? = some (f k0) → (∀ k, k ∈ ks → f k = f k0 → k = k0) → (ks.map f).eraseIdx i = (ks.filter (fun k => decide (k ≠ k0))).map f := by
  intro ks
  induction ks with
  | nil => intro i _ h; simp at h
  | cons c r ih =>
    intro i hn h hi
    obtain ⟨n1, n2⟩ := List.nodup_cons.mp hn
    cases i with
    | zero =>
      have e : c = k0 := hi c List.mem_cons_self (by simpa using h)
      subst e
      rw [List.filter_cons_of_neg (by simp), List.map_cons, List.eraseIdx_cons_zero]
      rw [List.filter_eq_self.mpr]
      intro a ha
      rw [decide_eq_true_iff]
      intro z
      subst z
      exact n1 ha
    | succ i =>
      have h' : (r.map f)[i]? = some (f k0) := by simpa using h
      have hc : c ≠ k0 := by
        intro z
        obtain ⟨a, ha, e⟩ := List.mem_map.mp (List.mem_of_getElem? h')
        have := hi a (List.mem_cons_of_mem _ ha) e
        subst this
        exact n1 (by rw [z]; exact ha)
      rw [List.map_cons, List.eraseIdx_cons_succ, ih i n2 h' (fun k hk => hi k (List.mem_cons_of_mem _ hk)), List.filter_cons_of_pos (by rw [decide_eq_true_iff]; exact hc), List.map_cons]
theorem ui3 {f : Int → Int} {n a b c j : Int} (h : j < 3 * n) : tm_ui (tm_ui (tm_ui f (3 * n) a) (3 * n + 1) b) (3 * n + 2) c j = f j := by
  rw [tm_ui_n (by omega), tm_ui_n (by omega), tm_ui_n (by omega)]
theorem ui4 {f : Int → Int} {n a b c d j : Int} (h : j < 4 * n) : tm_ui (tm_ui (tm_ui (tm_ui f (4 * n) a) (4 * n + 1) b) (4 * n + 2) c) (4 * n + 3) d j = f j := by
  rw [tm_ui_n (by omega), tm_ui_n (by omega), tm_ui_n (by omega), tm_ui_n (by omega)]
theorem ui3n {f : Int → Int} {n a b c : Int} : tm_ui (tm_ui (tm_ui f (3 * n) a) (3 * n + 1) b) (3 * n + 2) c (3 * n) = a ∧ tm_ui (tm_ui (tm_ui f (3 * n) a) (3 * n + 1) b) (3 * n + 2) c (3 * n + 1) = b ∧ tm_ui (tm_ui (tm_ui f (3 * n) a) (3 * n + 1) b) (3 * n + 2) c (3 * n + 2) = c := by
  refine ⟨?_, ?_, tm_ui_s⟩
  · rw [tm_ui_n (by omega), tm_ui_n (by omega), tm_ui_s]
  · rw [tm_ui_n (by omega), tm_ui_s]
theorem ui4n {f : Int → Int} {n a b c d : Int} : tm_ui (tm_ui (tm_ui (tm_ui f (4 * n) a) (4 * n + 1) b) (4 * n + 2) c) (4 * n + 3) d (4 * n) = a ∧ tm_ui (tm_ui (tm_ui (tm_ui f (4 * n) a) (4 * n + 1) b) (4 * n + 2) c) (4 * n + 3) d (4 * n + 1) = b ∧ tm_ui (tm_ui (tm_ui (tm_ui f (4 * n) a) (4 * n + 1) b) (4 * n + 2) c) (4 * n + 3) d (4 * n + 2) = c ∧ tm_ui (tm_ui (tm_ui (tm_ui f (4 * n) a) (4 * n + 1) b) (4 * n + 2) c) (4 * n + 3) d (4 * n + 3) = d := by
  refine ⟨?_, ?_, ?_, tm_ui_s⟩
  · rw [tm_ui_n (by omega), tm_ui_n (by omega), tm_ui_n (by omega), tm_ui_s]
  · rw [tm_ui_n (by omega), tm_ui_n (by omega), tm_ui_s]
  · rw [tm_ui_n (by omega), tm_ui_s]
/-- a board more -/
def kBrd (κ : KP) (n : Int) (q u z : Nat) : KP := (κ.1, (fun c => if c = n then q else k_bo κ c), (fun c => if c = n then u else k_bd κ c), (fun c => if c = n then z else k_bp κ c), κ.2.2.2.2.1, κ.2.2.2.2.2.1, κ.2.2.2.2.2.2.1, (fun c => if c = n then [] else k_ds κ c), (fun c => if c = n then [] else k_ks κ c), κ.2.2.2.2.2.2.2.2.2)
theorem map_if {q : Nat} {n : Int} {f : Int → Nat} {l : List Int} (h : ∀ c, c ∈ l → c ≠ n) : l.map (fun c => if c = n then q else f c) = l.map f := List.map_congr_left (fun c hc => if_neg (h c hc))
theorem RC_brd {T : ClassId × ClassId × ClassId × ClassId} {Λ0 Λ : tmL} {κ : KP} {σ : ST} (h0 : RC T Λ0 κ σ) (hw : WF0 σ) {l w g : Int} {q u z : Nat} (hs : ∀ (a : Nat) (e : va_E ⊕ List Nat), Λ0 a = some e → Λ a = some e) (fq : Λ0 q = none) (fu : Λ0 u = none) (fz : Λ0 z = none) (hq : Λ q = some (.inl (.inr (1, [.int (I l), .int (I w), .int (I g), .ref u, .ref z])))) (hu : Λ u = some (.inr [])) (hz : Λ z = some (.inr [])) (huz : u ≠ z) : RC T (tm_ul Λ (k_lb κ) ((ints (s_nb σ)).map (k_bo κ) ++ [q])) (kBrd κ (s_nb σ) q u z) (addB σ l w g) := by
  have hn := wf_n hw
  have hf : ∀ (a : Nat) (e : va_E ⊕ List Nat), Λ0 a = some e → a ≠ q ∧ a ≠ u ∧ a ≠ z := by
    intro a e ha
    refine ⟨fun y => ?_, fun y => ?_, fun y => ?_⟩
    · rw [y, fq] at ha; cases ha
    · rw [y, fu] at ha; cases ha
    · rw [y, fz] at ha; cases ha
  have h := RC_sub hs h0
  have hL := rc_lb h
  have ne : ∀ (a : Nat) (e : va_E), Λ a = some (.inl e) → ∀ xs, tm_ul Λ (k_lb κ) xs a = some (.inl e) := by
    intro a e ha xs
    rw [tm_ul_n (fun z => by rw [z, hL] at ha; cases ha)]
    exact ha
  have nl : ∀ (a : Nat) (e : va_E ⊕ List Nat), Λ a = some e → a ≠ k_lb κ → ∀ xs, tm_ul Λ (k_lb κ) xs a = some e := by
    intro a e ha hne xs
    rw [tm_ul_n hne]
    exact ha
  have hap := rc_ap h
  have z1 := hf _ _ (rc_lb h0)
  have z2 := hf _ _ (rc_lp h0)
  have z3 := hf _ _ (rc_lo h0)
  have z4 := hf _ _ (rc_lc h0)
  have zb : ∀ b, 0 ≤ b ∧ b < s_nb σ → k_bo κ b ≠ q ∧ k_bd κ b ≠ u ∧ k_bd κ b ≠ z ∧ k_bp κ b ≠ u ∧ k_bp κ b ≠ z := fun b hb => ⟨(hf _ _ (rc_B h0 b hb)).1, (hf _ _ (rc_bd h0 b hb)).2.1, (hf _ _ (rc_bd h0 b hb)).2.2, (hf _ _ (rc_bp h0 b hb)).2.1, (hf _ _ (rc_bp h0 b hb)).2.2⟩
  obtain ⟨h1, ⟨h2, h3, h4, h5, h6⟩, h7, h8, h9, h10, ⟨hc1, hc2, hc3⟩, h12, h13⟩ := h
  refine ⟨ne _ _ h1 _, ⟨?_, nl _ _ h3 (fun y => hap.1.1 y.symm) _, nl _ _ h4 (fun y => hap.1.2.1 y.symm) _, nl _ _ h5 (fun y => hap.1.2.2.1 y.symm) _, ne _ _ h6 _⟩, fun b hb => ?_, fun p hp => ne _ _ (h8 p hp) _, fun d hd => ne _ _ (h9 d hd) _, fun k hk => ?_, ⟨hc1, hc2, fun x y c hx hy => ne _ _ (hc3 x y c hx hy) _⟩, h12, ?_⟩
  · show tm_ul Λ (k_lb κ) _ (k_lb κ) = some (.inr ((ints (s_nb σ + 1)).map (fun c => if c = s_nb σ then q else k_bo κ c)))
    rw [tm_ul_s, ints_s hn.1, List.map_append, map_if (fun c hc => by have := ints_mem.mp hc; omega), List.map_singleton, if_pos rfl]
  · have hb : 0 ≤ b ∧ b < s_nb σ + 1 := hb
    show tm_ul Λ (k_lb κ) _ (if b = s_nb σ then q else k_bo κ b) = (some (.inl (.inr (1, [.int (I (tm_ui (tm_ui (tm_ui (s_wo σ) (3 * s_nb σ) l) (3 * s_nb σ + 1) w) (3 * s_nb σ + 2) g (3 * b))), .int (I (tm_ui (tm_ui (tm_ui (s_wo σ) (3 * s_nb σ) l) (3 * s_nb σ + 1) w) (3 * s_nb σ + 2) g (3 * b + 1))), .int (I (tm_ui (tm_ui (tm_ui (s_wo σ) (3 * s_nb σ) l) (3 * s_nb σ + 1) w) (3 * s_nb σ + 2) g (3 * b + 2))), .ref (if b = s_nb σ then u else k_bd κ b), .ref (if b = s_nb σ then z else k_bp κ b)]))) : Option (va_E ⊕ List Nat)) ∧ tm_ul Λ (k_lb κ) _ (if b = s_nb σ then u else k_bd κ b) = some (.inr ((if b = s_nb σ then [] else k_ds κ b).map (k_df κ))) ∧ tm_ul Λ (k_lb κ) _ (if b = s_nb σ then z else k_bp κ b) = some (.inr ((if b = s_nb σ then [] else k_ks κ b).map (k_pc κ))) ∧ Srt (addB σ l w g) b (if b = s_nb σ then [] else k_ks κ b) 0 ∧ Dsr (addB σ l w g) b (if b = s_nb σ then [] else k_ds κ b)
    by_cases e : b = s_nb σ
    · subst e
      obtain ⟨e1, e2, e3⟩ := ui3n (f := s_wo σ) (n := s_nb σ) (a := l) (b := w) (c := g)
      simp only [if_true]
      rw [e1, e2, e3]
      refine ⟨ne _ _ hq _, nl _ _ hu (fun y => z1.2.1 y.symm) _, nl _ _ hz (fun y => z1.2.2 y.symm) _, Or.inl ⟨rfl, fun k hk y => ?_⟩, ⟨fun d => ⟨fun y => (by cases y), fun y => ?_⟩, ?_, fun i j d e _ y => (by simp at y)⟩⟩
      · have := wf_k hw k hk
        have y : s_cu σ (4 * k) = s_nb σ := y
        omega
      · have := wf_d hw d y.1
        have y2 : s_fl σ (4 * d) = s_nb σ := y.2
        omega
      · show ((0 : Nat) : Int) ≤ s_nd σ
        omega
    · simp only [if_neg e]
      rw [ui3 (by omega), ui3 (by omega), ui3 (by omega)]
      have hb' : 0 ≤ b ∧ b < s_nb σ := by omega
      have ha := hap.2.1 b hb'
      exact ⟨ne _ _ (h7 b hb').1 _, nl _ _ (h7 b hb').2.1 ha.1.1 _, nl _ _ (h7 b hb').2.2.1 ha.2.1 _, Srt_cg (σ := σ) (τ := addB σ l w g) rfl rfl _ _ (h7 b hb').2.2.2.1, (h7 b hb').2.2.2.2⟩
  · have hk9 := wf_k hw k hk
    show tm_ul Λ (k_lb κ) _ (k_pc κ k) = (some (.inl (.inr (5, [.ref (k_pa κ (s_cu σ (4 * k + 3))), .ref (if s_cu σ (4 * k) = s_nb σ then q else k_bo κ (s_cu σ (4 * k))), .int (I (s_cu σ (4 * k + 1))), .int (I (s_cu σ (4 * k + 2))), .int (I (s_aj σ k))]))) : Option (va_E ⊕ List Nat))
    rw [if_neg (by omega)]
    exact ne _ _ (h10 k hk) _
  · refine ⟨hap.1, fun b hb => ?_, fun b c hb hc => ?_, hap.2.2.2.1, hap.2.2.2.2⟩
    · have hb : 0 ≤ b ∧ b < s_nb σ + 1 := hb
      show ((if b = s_nb σ then u else k_bd κ b) ≠ k_lb κ ∧ (if b = s_nb σ then u else k_bd κ b) ≠ k_lp κ ∧ (if b = s_nb σ then u else k_bd κ b) ≠ k_lo κ ∧ (if b = s_nb σ then u else k_bd κ b) ≠ k_lc κ) ∧ ((if b = s_nb σ then z else k_bp κ b) ≠ k_lb κ ∧ (if b = s_nb σ then z else k_bp κ b) ≠ k_lp κ ∧ (if b = s_nb σ then z else k_bp κ b) ≠ k_lo κ ∧ (if b = s_nb σ then z else k_bp κ b) ≠ k_lc κ)
      by_cases e : b = s_nb σ
      · simp only [if_pos e]
        exact ⟨⟨fun y => z1.2.1 y.symm, fun y => z2.2.1 y.symm, fun y => z3.2.1 y.symm, fun y => z4.2.1 y.symm⟩, fun y => z1.2.2 y.symm, fun y => z2.2.2 y.symm, fun y => z3.2.2 y.symm, fun y => z4.2.2 y.symm⟩
      · simp only [if_neg e]
        exact hap.2.1 b (by omega)
    · have hb : 0 ≤ b ∧ b < s_nb σ + 1 := hb
      have hc : 0 ≤ c ∧ c < s_nb σ + 1 := hc
      show (if b = s_nb σ then u else k_bd κ b) ≠ (if c = s_nb σ then z else k_bp κ c) ∧ ((if b = s_nb σ then u else k_bd κ b) = (if c = s_nb σ then u else k_bd κ c) → b = c) ∧ ((if b = s_nb σ then z else k_bp κ b) = (if c = s_nb σ then z else k_bp κ c) → b = c) ∧ ((if b = s_nb σ then q else k_bo κ b) = (if c = s_nb σ then q else k_bo κ c) → b = c)
      by_cases e : b = s_nb σ <;> by_cases e' : c = s_nb σ
      · simp only [if_pos e, if_pos e']
        exact ⟨huz, fun _ => by omega, fun _ => by omega, fun _ => by omega⟩
      · simp only [if_pos e, if_neg e']
        have y := zb c (by omega)
        exact ⟨fun w => y.2.2.2.1 w.symm, fun w => absurd w.symm y.2.1, fun w => absurd w.symm y.2.2.2.2, fun w => absurd w.symm y.1⟩
      · simp only [if_neg e, if_pos e']
        have y := zb b (by omega)
        exact ⟨y.2.2.1, fun w => absurd w y.2.1, fun w => absurd w y.2.2.2.2, fun w => absurd w y.1⟩
      · simp only [if_neg e, if_neg e']
        exact hap.2.2.1 b c (by omega) (by omega)
