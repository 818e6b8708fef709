/-- a piece, put into its board's list -/
def kIns (κ : KP) (b m : Int) (q i : Nat) : KP := (κ.1, κ.2.1, κ.2.2.1, κ.2.2.2.1, κ.2.2.2.2.1, κ.2.2.2.2.2.1, (fun k => if k = m then q else k_pc κ k), κ.2.2.2.2.2.2.2.1, (fun c => if c = b then (k_ks κ b).take i ++ m :: (k_ks κ b).drop i else k_ks κ c), κ.2.2.2.2.2.2.2.2.2)
theorem map_ins {κ : KP} {m : Int} {q i : Nat} {ks : List Int} (h : ∀ k, k ∈ ks → k ≠ m) : (ks.take i ++ m :: ks.drop i).map (fun k => if k = m then q else k_pc κ k) = (ks.map (k_pc κ)).take i ++ q :: (ks.map (k_pc κ)).drop i := by
  have e : ∀ l : List Int, (∀ k, k ∈ l → k ∈ ks) → l.map (fun k => if k = m then q else k_pc κ k) = l.map (k_pc κ) := fun l hl => List.map_congr_left (fun k hk => if_neg (h k (hl k hk)))
  rw [List.map_append, List.map_cons, e _ (fun k hk => List.mem_of_mem_take hk), e _ (fun k hk => List.mem_of_mem_drop hk), if_pos rfl, List.map_take, List.map_drop]
theorem RC_ins {T : ClassId × ClassId × ClassId × ClassId} {Λ : tmL} {κ : KP} {σ : ST} (h : RC T Λ κ σ) (hw : WF0 σ) {p b pl ln j : Int} (hp : 0 ≤ p ∧ p < s_np σ) (hb : 0 ≤ b ∧ b < s_nb σ) (hl : 1 ≤ ln) (hj : j = 0 ∨ j = 1) (hm : s_nm σ < 216) (hP : Poss σ p ln b pl) {q i : Nat} (hq : Λ q = some (.inl (.inr (5, [.ref (k_pa κ p), .ref (k_bo κ b), .int (I pl), .int (I (pl + ln)), .int (I j)])))) (hnq : ∀ k, 0 ≤ k ∧ k < s_nm σ → k_pc κ k ≠ q) (hu : upto (k_ks κ b) i (fun k => s_cu σ (4 * k + 1) < pl)) (hu2 : ∀ k, (k_ks κ b)[i]? = some k → pl ≤ s_cu σ (4 * k + 1)) : RC T (tm_ul Λ (k_bp κ b) (((k_ks κ b).map (k_pc κ)).take i ++ q :: ((k_ks κ b).map (k_pc κ)).drop i)) (kIns κ b (s_nm σ) q i) (addC σ p b pl ln j) := by
  have hw1 := addC_wf (j := j) hw hp hb hl hj hm hP
  have hn := wf_n hw
  obtain ⟨n1, n2, n3, n4⟩ := addC_n (σ := σ) (p := p) (b := b) (pl := pl) (len := ln) (j := j)
  have hB := rc_bp h b hb
  have ne : ∀ (a : Nat) (e : va_E), Λ a = some (.inl e) → ∀ xs, tm_ul Λ (k_bp κ b) xs a = some (.inl e) := by
    intro a e ha xs
    rw [tm_ul_n (fun z => by rw [z, hB] at ha; cases ha)]
    exact ha
  have nl : ∀ (a : Nat) (e : va_E ⊕ List Nat), Λ a = some e → a ≠ k_bp κ b → ∀ xs, tm_ul Λ (k_bp κ b) xs a = some e := by
    intro a e ha hne xs
    rw [tm_ul_n hne]
    exact ha
  have hS := srt_ins (j := j) hw hp hb hl hj hm hP (rc_srt h b hb) hu hu2
  have hap := rc_ap h
  obtain ⟨h1, ⟨h2, h3, h4, h5, h6⟩, h7, h8, h9, h10, ⟨⟨m, hm1, hm2⟩, hc2, hc3⟩, h12, h13⟩ := h
  have hbb := (hap.2.1 b hb).2
  have hmem : ∀ c, 0 ≤ c ∧ c < s_nb σ → ∀ k, k ∈ k_ks κ c → (0 ≤ k ∧ k < s_nm σ) ∧ s_cu σ (4 * k) = c := by
    intro c hc k hk
    have := (Srt_mm hw (h7 c hc).2.2.2.1 k).mp hk
    exact ⟨this.1, this.2.1⟩
  refine ⟨ne _ _ h1 _, ⟨nl _ _ h2 (fun z => hbb.1 z.symm) _, nl _ _ h3 (fun z => hbb.2.1 z.symm) _, nl _ _ h4 (fun z => hbb.2.2.1 z.symm) _, nl _ _ h5 (fun z => hbb.2.2.2 z.symm) _, ne _ _ h6 _⟩, fun c hc => ⟨ne _ _ (h7 c hc).1 _, nl _ _ (h7 c hc).2.1 (hap.2.2.1 c b hc hb).1 _, ?_, ?_, (h7 c hc).2.2.2.2⟩, fun z hz => ne _ _ (h8 z hz) _, fun d hd => ne _ _ (h9 d hd) _, fun k hk => ?_, ⟨⟨m, ?_, ?_⟩, hc2, fun x y c hx hy => ?_⟩, h12, ⟨hap.1, hap.2.1, hap.2.2.1, hap.2.2.2.1, fun x y hx hy hxy => ?_⟩⟩
  · show tm_ul Λ (k_bp κ b) _ (k_bp κ c) = some (.inr ((if c = b then (k_ks κ b).take i ++ s_nm σ :: (k_ks κ b).drop i else k_ks κ c).map (fun k => if k = s_nm σ then q else k_pc κ k)))
    by_cases e : c = b
    · subst e
      rw [if_pos rfl, map_ins (fun k hk => by have := (hmem c hc k hk).1; omega)]
      exact tm_ul_s
    · rw [if_neg e, tm_ul_n (fun z => e ((hap.2.2.1 c b hc hb).2.2.1 z)), List.map_congr_left (g := k_pc κ) (fun k hk => if_neg (by have := (hmem c hc k hk).1; omega))]
      exact (h7 c hc).2.2.1
  · show Srt (addC σ p b pl ln j) c (if c = b then (k_ks κ b).take i ++ s_nm σ :: (k_ks κ b).drop i else k_ks κ c) 0
    by_cases e : c = b
    · subst e; rw [if_pos rfl]; exact hS
    · rw [if_neg e]
      have hs := (h7 c hc).2.2.2.1
      have hmm := Srt_mm hw hs
      refine Srt_mk hw1 _ 0 (fun k => ?_) ?_
      · show _ ↔ (0 ≤ k ∧ k < s_nm σ + 1) ∧ _
        by_cases z : k = s_nm σ
        · subst z
          rw [n1]
          exact ⟨fun hk => by have := ((hmm _).mp hk).1; omega, fun hk => absurd hk.2.1.symm e⟩
        · constructor
          · intro hk
            obtain ⟨f1, f2, f3⟩ := (hmm k).mp hk
            rw [addC_old (by omega), addC_old (by omega)]
            exact ⟨by omega, f2, f3⟩
          · rintro ⟨f1, f2, f3⟩
            rw [addC_old (by omega)] at f2
            rw [addC_old (by omega)] at f3
            exact (hmm k).mpr ⟨by omega, f2, f3⟩
      · have hpw := Srt_pw hw hs
        rw [List.pairwise_iff_getElem] at hpw ⊢
        intro a d ha hd had
        have g1 := ((hmm _).mp (List.getElem_mem ha)).1
        have g2 := ((hmm _).mp (List.getElem_mem hd)).1
        rw [addC_old (by omega), addC_old (by omega)]
        exact hpw a d ha hd had
  · have hk : 0 ≤ k ∧ k < s_nm σ + 1 := hk
    show tm_ul Λ (k_bp κ b) _ (if k = s_nm σ then q else k_pc κ k) = (some (.inl (.inr (5, [.ref (k_pa κ (s_cu (addC σ p b pl ln j) (4 * k + 3))), .ref (k_bo κ (s_cu (addC σ p b pl ln j) (4 * k))), .int (I (s_cu (addC σ p b pl ln j) (4 * k + 1))), .int (I (s_cu (addC σ p b pl ln j) (4 * k + 2))), .int (I (s_aj (addC σ p b pl ln j) k))]))) : Option (va_E ⊕ List Nat))
    by_cases e : k = s_nm σ
    · subst e
      rw [if_pos rfl, n1, n2, n3, n4, addC_an]
      exact ne _ _ hq _
    · rw [if_neg e, addC_old (by omega), addC_old (by omega), addC_old (by omega), addC_old (by omega), addC_a (by omega)]
      exact ne _ _ (h10 k (by omega)) _
  · show m ≤ s_nm σ + 1
    omega
  · exact grp_congr (k_cs κ) 0 m (fun z z1 z2 => ⟨(addC_a (by omega)).symm, (addC_old (by omega)).symm⟩) hm2
  · have g := grp_mem _ _ _ hm2 x y hx
    show tm_ul Λ (k_bp κ b) _ c = (some (.inl (.inr (2, [.ref (k_pa κ (s_cu (addC σ p b pl ln j) (4 * y + 3))), .ref (if y = s_nm σ then q else k_pc κ y), if s_aj (addC σ p b pl ln j) y = 0 then .null else .ref (if y + 1 = s_nm σ then q else k_pc κ (y + 1))]))) : Option (va_E ⊕ List Nat))
    rw [addC_old (by omega), addC_a (by omega), if_neg (show ¬ y = s_nm σ by omega)]
    have h9 := ne _ _ (hc3 x y c hx hy) (((k_ks κ b).map (k_pc κ)).take i ++ q :: ((k_ks κ b).map (k_pc κ)).drop i)
    rw [h9]
    show (some (.inl (.inr (2, [.ref (k_pa κ (s_cu σ (4 * y + 3))), .ref (k_pc κ y), if s_aj σ y = 0 then .null else .ref (k_pc κ (y + 1))]))) : Option (va_E ⊕ List Nat)) = _
    by_cases z : s_aj σ y = 0
    · rw [if_pos z, if_pos z]
    · have hk9 := wf_k hw y (by omega)
      have := g.2.2 (by omega)
      rw [if_neg z, if_neg z, if_neg (by omega)]
  · have hx : 0 ≤ x ∧ x < s_nm σ + 1 := hx
    have hy : 0 ≤ y ∧ y < s_nm σ + 1 := hy
    have hxy : (if x = s_nm σ then q else k_pc κ x) = (if y = s_nm σ then q else k_pc κ y) := hxy
    by_cases e1 : x = s_nm σ <;> by_cases e2 : y = s_nm σ
    · omega
    · rw [if_pos e1, if_neg e2] at hxy; exact absurd hxy.symm (hnq y (by omega))
    · rw [if_neg e1, if_pos e2] at hxy; exact absurd hxy (hnq x (by omega))
    · rw [if_neg e1, if_neg e2] at hxy; exact hap.2.2.2.2 x y (by omega) (by omega) hxy
