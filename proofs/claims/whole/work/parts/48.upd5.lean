theorem prec_tr {σ : ST} {p q r : Int} (h1 : prec σ p q) (h2 : prec σ q r) : prec σ p r := by
  unfold prec at h1 h2 ⊢
  omega
/-- a part comes ahead of another one in planning -/
def ahd (σ : ST) (l g q : Int) : Prop := s_wa σ (4 * q + 0) < l ∨ (l = s_wa σ (4 * q + 0) ∧ g < s_wa σ (4 * q + 2))
/-- a part more -/
def kPrt (κ : KP) (n : Int) (q i : Nat) : KP := (κ.1, κ.2.1, κ.2.2.1, κ.2.2.2.1, (fun c => if c = n then q else k_pa κ c), κ.2.2.2.2.2.1, κ.2.2.2.2.2.2.1, κ.2.2.2.2.2.2.2.1, κ.2.2.2.2.2.2.2.2.1, (k_or κ).take i ++ n :: (k_or κ).drop i, κ.2.2.2.2.2.2.2.2.2.2)
theorem Ord_ins {σ : ST} {l w g c j : Int} {os : List Int} {i : Nat} (h0 : 0 ≤ s_np σ) (h : Ordd σ os) (hu : upto os i (fun p => ¬ ahd σ l g p)) (hu2 : ∀ p, os[i]? = some p → ahd σ l g p) : Ordd (addP σ l w g c j) (os.take i ++ s_np σ :: os.drop i) := by
  obtain ⟨h1, h2, h3⟩ := h
  obtain ⟨n1, n2, n3, n4⟩ := ui4n (f := s_wa σ) (n := s_np σ) (a := l) (b := w) (c := g) (d := c)
  have nn : s_wa (addP σ l w g c j) (4 * s_np σ + 0) = l := by rw [Int.add_zero]; exact n1
  have ng : s_wa (addP σ l w g c j) (4 * s_np σ + 2) = g := n3
  have no : ∀ q, q < s_np σ → s_wa (addP σ l w g c j) (4 * q + 0) = s_wa σ (4 * q + 0) ∧ s_wa (addP σ l w g c j) (4 * q + 2) = s_wa σ (4 * q + 2) := fun q hq => ⟨ui4 (by omega), ui4 (by omega)⟩
  have hp : os.Pairwise (prec σ) := by
    rw [List.pairwise_iff_getElem]
    intro a b ha hb hab
    exact h3 a b _ _ hab (List.getElem?_eq_getElem ha) (List.getElem?_eq_getElem hb)
  have hp' : os.Pairwise (prec (addP σ l w g c j)) := by
    rw [List.pairwise_iff_getElem] at hp ⊢
    intro a b ha hb hab
    have q1 := ((h1 _).mp (List.getElem_mem ha))
    have q2 := ((h1 _).mp (List.getElem_mem hb))
    have := hp a b ha hb hab
    unfold prec at this ⊢
    rw [(no _ q1.2).1, (no _ q1.2).2, (no _ q2.2).1, (no _ q2.2).2]
    exact this
  have hq := pw_ins (i := i) (m := s_np σ) hp' (fun k hk => ?_) (fun k hk => ?_)
  · refine ⟨fun p => ?_, ?_, fun a b p q hab ha hb => ?_⟩
    · rw [mem_ins, h1 p]
      show _ ↔ 0 ≤ p ∧ p < s_np σ + 1
      omega
    · have hl : (os.take i ++ s_np σ :: os.drop i).length = os.length + 1 := by
        have := congrArg List.length (List.take_append_drop i os)
        rw [List.length_append] at this
        rw [List.length_append, List.length_cons]
        omega
      show _ = s_np σ + 1
      rw [hl]
      omega
    · obtain ⟨ha1, ha2⟩ := List.getElem?_eq_some_iff.mp ha
      obtain ⟨hb1, hb2⟩ := List.getElem?_eq_some_iff.mp hb
      rw [← ha2, ← hb2]
      exact (List.pairwise_iff_getElem.mp hq) a b ha1 hb1 hab
  · obtain ⟨a, ha⟩ := List.getElem?_of_mem hk
    rw [List.getElem?_take] at ha
    by_cases z : a < i
    · rw [if_pos z] at ha
      have q1 := (h1 k).mp (List.mem_of_getElem? ha)
      have := hu a k z ha
      unfold ahd at this
      unfold prec
      rw [(no _ q1.2).1, (no _ q1.2).2, nn, ng]
      omega
    · rw [if_neg z] at ha; cases ha
  · obtain ⟨a, ha⟩ := List.getElem?_of_mem hk
    rw [List.getElem?_drop] at ha
    have q1 := (h1 k).mp (List.mem_of_getElem? ha)
    have hil : i < os.length := by
      obtain ⟨q, -⟩ := List.getElem?_eq_some_iff.mp ha
      omega
    have h4 := hu2 _ (List.getElem?_eq_getElem hil)
    have h5 : ahd σ l g k := by
      cases a with
      | zero => rw [Nat.add_zero, List.getElem?_eq_getElem hil] at ha; cases ha; exact h4
      | succ a =>
        have h6 := h3 i (i + (a + 1)) _ k (by omega) (List.getElem?_eq_getElem hil) ha
        unfold ahd at h4 ⊢
        unfold prec at h6
        omega
    unfold ahd at h5
    unfold prec
    rw [(no _ q1.2).1, (no _ q1.2).2, nn, ng]
    omega
theorem RC_prt {T : ClassId × ClassId × ClassId × ClassId} {Λ0 Λ : tmL} {κ : KP} {σ : ST} (h0 : RC T Λ0 κ σ) (hw : WF0 σ) {l w g c j : Int} {q i : Nat} (hs : ∀ (a : Nat) (e : va_E ⊕ List Nat), Λ0 a = some e → Λ a = some e) (fq : Λ0 q = none) (hq : Λ q = some (.inl (.inr (4, [.int (I (s_np σ)), .int (I l), .int (I w), .int (I g), .int (I j), .int (I c)])))) (hu : upto (k_or κ) i (fun p => ¬ ahd σ l g p)) (hu2 : ∀ p, (k_or κ)[i]? = some p → ahd σ l g p) : RC T (tm_ul (tm_ul Λ (k_lp κ) ((ints (s_np σ)).map (k_pa κ) ++ [q])) (k_lo κ) (((k_or κ).map (k_pa κ)).take i ++ q :: ((k_or κ).map (k_pa κ)).drop i)) (kPrt κ (s_np σ) q i) (addP σ l w g c j) := by
  have hn := wf_n hw
  have hf : ∀ (a : Nat) (e : va_E ⊕ List Nat), Λ0 a = some e → a ≠ q := by
    intro a e ha y
    rw [y, fq] at ha; cases ha
  have hpq : ∀ p, 0 ≤ p ∧ p < s_np σ → k_pa κ p ≠ q := fun p hp => hf _ _ (rc_P h0 p hp)
  have h := RC_sub hs h0
  have hL := rc_lp h
  have hO := rc_lo h
  have ne : ∀ (a : Nat) (e : va_E), Λ a = some (.inl e) → ∀ xs ys, tm_ul (tm_ul Λ (k_lp κ) xs) (k_lo κ) ys a = some (.inl e) := by
    intro a e ha xs ys
    rw [tm_ul_n (fun z => by rw [z, hO] at ha; cases ha), tm_ul_n (fun z => by rw [z, hL] at ha; cases ha)]
    exact ha
  have nl : ∀ (a : Nat) (e : va_E ⊕ List Nat), Λ a = some e → a ≠ k_lp κ → a ≠ k_lo κ → ∀ xs ys, tm_ul (tm_ul Λ (k_lp κ) xs) (k_lo κ) ys a = some e := by
    intro a e ha hne hne2 xs ys
    rw [tm_ul_n hne2, tm_ul_n hne]
    exact ha
  have hap := rc_ap h
  obtain ⟨n1, n2, n3, n4⟩ := ui4n (f := s_wa σ) (n := s_np σ) (a := l) (b := w) (c := g) (d := c)
  obtain ⟨h1, ⟨h2, h3, h4, h5, h6⟩, h7, h8, h9, h10, ⟨⟨m, hm1, hm2⟩, hc2, hc3⟩, h12, h13⟩ := h
  refine ⟨ne _ _ h1 _ _, ⟨nl _ _ h2 hap.1.1 hap.1.2.1 _ _, ?_, ?_, nl _ _ h5 (fun y => hap.1.2.2.2.2.1 y.symm) (fun y => hap.1.2.2.2.2.2 y.symm) _ _, ne _ _ h6 _ _⟩, fun b hb => ⟨ne _ _ (h7 b hb).1 _ _, nl _ _ (h7 b hb).2.1 (hap.2.1 b hb).1.2.1 (hap.2.1 b hb).1.2.2.1 _ _, nl _ _ (h7 b hb).2.2.1 (hap.2.1 b hb).2.2.1 (hap.2.1 b hb).2.2.2.1 _ _, Srt_cg (σ := σ) (τ := addP σ l w g c j) rfl rfl _ _ (h7 b hb).2.2.2.1, (h7 b hb).2.2.2.2⟩, fun p hp => ?_, fun d hd => ne _ _ (h9 d hd) _ _, fun k hk => ?_, ⟨⟨m, hm1, hm2⟩, hc2, fun x y d hx hy => ?_⟩, Ord_ins hn.2.2.2.2.1 h12 hu hu2, ⟨hap.1, hap.2.1, hap.2.2.1, fun p r hp hr hpr => ?_, hap.2.2.2.2⟩⟩
  · show tm_ul (tm_ul Λ (k_lp κ) _) (k_lo κ) _ (k_lp κ) = some (.inr ((ints (s_np σ + 1)).map (fun c => if c = s_np σ then q else k_pa κ c)))
    rw [tm_ul_n hap.1.2.2.2.1, tm_ul_s, ints_s hn.2.2.2.2.1, List.map_append, map_if (fun c hc => by have := ints_mem.mp hc; omega), List.map_singleton, if_pos rfl]
  · show tm_ul (tm_ul Λ (k_lp κ) _) (k_lo κ) _ (k_lo κ) = some (.inr (((k_or κ).take i ++ s_np σ :: (k_or κ).drop i).map (fun c => if c = s_np σ then q else k_pa κ c)))
    have hm : ∀ p, p ∈ k_or κ → p ≠ s_np σ := fun p hp => by have := (h12.1 p).mp hp; omega
    rw [tm_ul_s, List.map_append, List.map_cons, map_if (fun c hc => hm c (List.mem_of_mem_take hc)), map_if (fun c hc => hm c (List.mem_of_mem_drop hc)), if_pos rfl, List.map_take, List.map_drop]
  · have hp : 0 ≤ p ∧ p < s_np σ + 1 := hp
    show tm_ul (tm_ul Λ (k_lp κ) _) (k_lo κ) _ (if p = s_np σ then q else k_pa κ p) = (some (.inl (.inr (4, [.int (I p), .int (I (tm_ui (tm_ui (tm_ui (tm_ui (s_wa σ) (4 * s_np σ) l) (4 * s_np σ + 1) w) (4 * s_np σ + 2) g) (4 * s_np σ + 3) c (4 * p + 0))), .int (I (tm_ui (tm_ui (tm_ui (tm_ui (s_wa σ) (4 * s_np σ) l) (4 * s_np σ + 1) w) (4 * s_np σ + 2) g) (4 * s_np σ + 3) c (4 * p + 1))), .int (I (tm_ui (tm_ui (tm_ui (tm_ui (s_wa σ) (4 * s_np σ) l) (4 * s_np σ + 1) w) (4 * s_np σ + 2) g) (4 * s_np σ + 3) c (4 * p + 2))), .int (I (tm_ui (s_mj σ) (s_np σ) j p)), .int (I (tm_ui (tm_ui (tm_ui (tm_ui (s_wa σ) (4 * s_np σ) l) (4 * s_np σ + 1) w) (4 * s_np σ + 2) g) (4 * s_np σ + 3) c (4 * p + 3)))]))) : Option (va_E ⊕ List Nat))
    by_cases e : p = s_np σ
    · subst e
      rw [if_pos rfl, Int.add_zero, n1, n2, n3, n4, tm_ui_s]
      exact ne _ _ hq _ _
    · rw [if_neg e, ui4 (by omega), ui4 (by omega), ui4 (by omega), ui4 (by omega), tm_ui_n (by omega)]
      exact ne _ _ (h8 p (by omega)) _ _
  · have hk9 := wf_k hw k hk
    show tm_ul (tm_ul Λ (k_lp κ) _) (k_lo κ) _ (k_pc κ k) = (some (.inl (.inr (5, [.ref (if s_cu σ (4 * k + 3) = s_np σ then q else k_pa κ (s_cu σ (4 * k + 3))), .ref (k_bo κ (s_cu σ (4 * k))), .int (I (s_cu σ (4 * k + 1))), .int (I (s_cu σ (4 * k + 2))), .int (I (s_aj σ k))]))) : Option (va_E ⊕ List Nat))
    rw [if_neg (by omega)]
    exact ne _ _ (h10 k hk) _ _
  · have g9 := grp_mem _ _ _ hm2 x y hx
    have hk9 := wf_k hw y (by omega)
    show tm_ul (tm_ul Λ (k_lp κ) _) (k_lo κ) _ d = (some (.inl (.inr (2, [.ref (if s_cu σ (4 * y + 3) = s_np σ then q else k_pa κ (s_cu σ (4 * y + 3))), .ref (k_pc κ y), if s_aj σ y = 0 then .null else .ref (k_pc κ (y + 1))]))) : Option (va_E ⊕ List Nat))
    rw [if_neg (show ¬ s_cu σ (4 * y + 3) = s_np σ by omega)]
    exact ne _ _ (hc3 x y d hx hy) _ _
  · have hp : 0 ≤ p ∧ p < s_np σ + 1 := hp
    have hr : 0 ≤ r ∧ r < s_np σ + 1 := hr
    have hpr : (if p = s_np σ then q else k_pa κ p) = (if r = s_np σ then q else k_pa κ r) := hpr
    by_cases e : p = s_np σ <;> by_cases e' : r = s_np σ
    · omega
    · rw [if_pos e, if_neg e'] at hpr; exact absurd hpr.symm (hpq r (by omega))
    · rw [if_neg e, if_pos e'] at hpr; exact absurd hpr (hpq p (by omega))
    · rw [if_neg e, if_neg e'] at hpr; exact hap.2.2.2.1 p r (by omega) (by omega) hpr
/-- a defect more -/
def kDef (κ : KP) (b n : Int) (q i : Nat) : KP := (κ.1, κ.2.1, κ.2.2.1, κ.2.2.2.1, κ.2.2.2.2.1, (fun d => if d = n then q else k_df κ d), κ.2.2.2.2.2.2.1, (fun c => if c = b then (k_ds κ b).take i ++ n :: (k_ds κ b).drop i else k_ds κ c), κ.2.2.2.2.2.2.2.2)
theorem Dsr_ins {σ : ST} (hw : WF0 σ) {b f t g : Int} {ds : List Int} {i : Nat} (h : Dsr σ b ds) (hu : upto ds i (fun d => s_fl σ (4 * d + 1) ≤ f)) (hu2 : ∀ d, ds[i]? = some d → f < s_fl σ (4 * d + 1)) : Dsr (addD σ b f t g) b (ds.take i ++ s_nd σ :: ds.drop i) := by
  have hn := wf_n hw
  obtain ⟨h1, h2, h3⟩ := h
  obtain ⟨n1, n2, n3, n4⟩ := ui4n (f := s_fl σ) (n := s_nd σ) (a := b) (b := f) (c := t) (d := g)
  have m1 : s_fl (addD σ b f t g) (4 * s_nd σ) = b := n1
  have m2 : s_fl (addD σ b f t g) (4 * s_nd σ + 1) = f := n2
  have no : ∀ k, k < 4 * s_nd σ → s_fl (addD σ b f t g) k = s_fl σ k := fun k hk => ui4 hk
  have hp' : ds.Pairwise (fun d e => s_fl (addD σ b f t g) (4 * d + 1) ≤ s_fl (addD σ b f t g) (4 * e + 1)) := by
    rw [List.pairwise_iff_getElem]
    intro a c ha hc hac
    have q1 := ((h1 _).mp (List.getElem_mem ha)).1
    have q2 := ((h1 _).mp (List.getElem_mem hc)).1
    rw [no _ (by omega), no _ (by omega)]
    exact h3 a c _ _ hac (List.getElem?_eq_getElem ha) (List.getElem?_eq_getElem hc)
  have hq := pw_ins (i := i) (m := s_nd σ) hp' (fun k hk => ?_) (fun k hk => ?_)
  · refine ⟨fun p => ?_, ?_, fun a c p q hac ha hc => ?_⟩
    · rw [mem_ins, h1 p]
      show _ ↔ (0 ≤ p ∧ p < s_nd σ + 1) ∧ _
      by_cases e : p = s_nd σ
      · subst e
        rw [m1]
        exact ⟨fun _ => ⟨by omega, rfl⟩, fun _ => Or.inl rfl⟩
      · constructor
        · rintro (y | ⟨y1, y2⟩)
          · exact absurd y e
          · exact ⟨by omega, by rw [no _ (by omega)]; exact y2⟩
        · rintro ⟨y1, y2⟩
          rw [no _ (by omega)] at y2
          exact Or.inr ⟨by omega, y2⟩
    · have hl : (ds.take i ++ s_nd σ :: ds.drop i).length = ds.length + 1 := by
        have := congrArg List.length (List.take_append_drop i ds)
        rw [List.length_append] at this
        rw [List.length_append, List.length_cons]
        omega
      show _ ≤ s_nd σ + 1
      rw [hl]
      omega
    · obtain ⟨ha1, ha2⟩ := List.getElem?_eq_some_iff.mp ha
      obtain ⟨hc1, hc2⟩ := List.getElem?_eq_some_iff.mp hc
      rw [← ha2, ← hc2]
      exact (List.pairwise_iff_getElem.mp hq) a c ha1 hc1 hac
  · obtain ⟨a, ha⟩ := List.getElem?_of_mem hk
    rw [List.getElem?_take] at ha
    by_cases z : a < i
    · rw [if_pos z] at ha
      have q1 := ((h1 k).mp (List.mem_of_getElem? ha)).1
      rw [m2, no _ (by omega)]
      exact hu a k z ha
    · rw [if_neg z] at ha; cases ha
  · obtain ⟨a, ha⟩ := List.getElem?_of_mem hk
    rw [List.getElem?_drop] at ha
    have q1 := ((h1 k).mp (List.mem_of_getElem? ha)).1
    have hil : i < ds.length := by
      obtain ⟨q, -⟩ := List.getElem?_eq_some_iff.mp ha
      omega
    have h4 := hu2 _ (List.getElem?_eq_getElem hil)
    rw [m2, no _ (by omega)]
    cases a with
    | zero => rw [Nat.add_zero, List.getElem?_eq_getElem hil] at ha; cases ha; omega
    | succ a =>
      have h6 := h3 i (i + (a + 1)) _ k (by omega) (List.getElem?_eq_getElem hil) ha
      omega
theorem RC_def {T : ClassId × ClassId × ClassId × ClassId} {Λ0 Λ : tmL} {κ : KP} {σ : ST} (h0 : RC T Λ0 κ σ) (hw : WF0 σ) {b f t g : Int} {q i : Nat} (hb : 0 ≤ b ∧ b < s_nb σ) (hs : ∀ (a : Nat) (e : va_E ⊕ List Nat), Λ0 a = some e → Λ a = some e) (hq : Λ q = some (.inl (.inr (3, [.int (I f), .int (I t), .int (I g)])))) (hu : upto (k_ds κ b) i (fun d => s_fl σ (4 * d + 1) ≤ f)) (hu2 : ∀ d, (k_ds κ b)[i]? = some d → f < s_fl σ (4 * d + 1)) : RC T (tm_u2 (tm_ul Λ (k_bd κ b) (((k_ds κ b).map (k_df κ)).take i ++ q :: ((k_ds κ b).map (k_df κ)).drop i)) (k_o κ) (.inr (6, [.ref (k_lb κ), .ref (k_lp κ), .ref (k_lo κ), .ref (k_lc κ), .ref (k_ar κ), .int (I (s_nd σ + 1)), .int (I (s_sw σ)), .int (I (s_jt σ))]))) (kDef κ b (s_nd σ) q i) (addD σ b f t g) := by
  have hn := wf_n hw
  have h := RC_sub hs h0
  have hL := rc_bd h b hb
  have hO := rc_o h
  have ne : ∀ (a : Nat) (e : va_E), Λ a = some (.inl e) → (∀ fs, e ≠ .inr (6, fs)) → ∀ xs e9, tm_u2 (tm_ul Λ (k_bd κ b) xs) (k_o κ) e9 a = some (.inl e) := by
    intro a e ha he xs e9
    rw [tm_u2_n (fun z => by rw [z, hO] at ha; cases ha; exact he _ rfl), tm_ul_n (fun z => by rw [z, hL] at ha; cases ha)]
    exact ha
  have nl : ∀ (a : Nat) (e : List Nat), Λ a = some (.inr e) → a ≠ k_bd κ b → ∀ xs e9, tm_u2 (tm_ul Λ (k_bd κ b) xs) (k_o κ) e9 a = some (.inr e) := by
    intro a e ha hne xs e9
    rw [tm_u2_n (fun z => by rw [z, hO] at ha; cases ha), tm_ul_n hne]
    exact ha
  have hap := rc_ap h
  have hbb := (hap.2.1 b hb).1
  obtain ⟨n1, n2, n3, n4⟩ := ui4n (f := s_fl σ) (n := s_nd σ) (a := b) (b := f) (c := t) (d := g)
  obtain ⟨h1, ⟨h2, h3, h4, h5, h6⟩, h7, h8, h9, h10, ⟨hc1, hc2, hc3⟩, h12, h13⟩ := h
  refine ⟨tm_u2_s, ⟨nl _ _ h2 (fun y => hbb.1 y.symm) _ _, nl _ _ h3 (fun y => hbb.2.1 y.symm) _ _, nl _ _ h4 (fun y => hbb.2.2.1 y.symm) _ _, nl _ _ h5 (fun y => hbb.2.2.2 y.symm) _ _, ne _ _ h6 (fun fs y => by cases y) _ _⟩, fun c hc => ⟨ne _ _ (h7 c hc).1 (fun fs y => by cases y) _ _, ?_, nl _ _ (h7 c hc).2.2.1 (fun y => (hap.2.2.1 b c hb hc).1 y.symm) _ _, Srt_cg (σ := σ) (τ := addD σ b f t g) rfl rfl _ _ (h7 c hc).2.2.2.1, ?_⟩, fun p hp => ne _ _ (h8 p hp) (fun fs y => by cases y) _ _, fun d hd => ?_, fun k hk => ne _ _ (h10 k hk) (fun fs y => by cases y) _ _, ⟨hc1, hc2, fun x y d hx hy => ne _ _ (hc3 x y d hx hy) (fun fs y => by cases y) _ _⟩, h12, hap⟩
  · show tm_u2 (tm_ul Λ (k_bd κ b) _) (k_o κ) _ (k_bd κ c) = some (.inr ((if c = b then (k_ds κ b).take i ++ s_nd σ :: (k_ds κ b).drop i else k_ds κ c).map (fun d => if d = s_nd σ then q else k_df κ d)))
    have hm : ∀ e, 0 ≤ e ∧ e < s_nb σ → ∀ d, d ∈ k_ds κ e → d ≠ s_nd σ := fun e he d hd => by have := ((h7 e he).2.2.2.2.1 d).mp hd; omega
    by_cases e : c = b
    · subst e
      rw [if_pos rfl, tm_u2_n (fun z => by rw [z, hO] at hL; cases hL), tm_ul_s, List.map_append, List.map_cons, map_if (fun d hd => hm c hc d (List.mem_of_mem_take hd)), map_if (fun d hd => hm c hc d (List.mem_of_mem_drop hd)), if_pos rfl, List.map_take, List.map_drop]
    · rw [if_neg e, map_if (fun d hd => hm c hc d hd)]
      exact nl _ _ (h7 c hc).2.1 (fun z => e ((hap.2.2.1 c b hc hb).2.1 z)) _ _
  · show Dsr (addD σ b f t g) c (if c = b then (k_ds κ b).take i ++ s_nd σ :: (k_ds κ b).drop i else k_ds κ c)
    have hd := (h7 c hc).2.2.2.2
    by_cases e : c = b
    · subst e; rw [if_pos rfl]; exact Dsr_ins hw hd hu hu2
    · rw [if_neg e]
      have no : ∀ k, k < 4 * s_nd σ → s_fl (addD σ b f t g) k = s_fl σ k := fun k hk => ui4 hk
      refine ⟨fun d => ?_, ?_, fun x y d d' hxy hx hy => ?_⟩
      · rw [hd.1 d]
        show _ ↔ (0 ≤ d ∧ d < s_nd σ + 1) ∧ _
        by_cases z : d = s_nd σ
        · subst z
          rw [show s_fl (addD σ b f t g) (4 * s_nd σ) = b from n1]
          exact ⟨fun y => by omega, fun y => absurd y.2.symm e⟩
        · constructor
          · rintro ⟨y1, y2⟩
            exact ⟨by omega, by rw [no _ (by omega)]; exact y2⟩
          · rintro ⟨y1, y2⟩
            rw [no _ (by omega)] at y2
            exact ⟨by omega, y2⟩
      · have := hd.2.1
        show _ ≤ s_nd σ + 1
        omega
      · have q1 := ((hd.1 d).mp (List.mem_of_getElem? hx)).1
        have q2 := ((hd.1 d').mp (List.mem_of_getElem? hy)).1
        rw [no _ (by omega), no _ (by omega)]
        exact hd.2.2 x y d d' hxy hx hy
  · have hd : 0 ≤ d ∧ d < s_nd σ + 1 := hd
    show tm_u2 (tm_ul Λ (k_bd κ b) _) (k_o κ) _ (if d = s_nd σ then q else k_df κ d) = (some (.inl (.inr (3, [.int (I (tm_ui (tm_ui (tm_ui (tm_ui (s_fl σ) (4 * s_nd σ) b) (4 * s_nd σ + 1) f) (4 * s_nd σ + 2) t) (4 * s_nd σ + 3) g (4 * d + 1))), .int (I (tm_ui (tm_ui (tm_ui (tm_ui (s_fl σ) (4 * s_nd σ) b) (4 * s_nd σ + 1) f) (4 * s_nd σ + 2) t) (4 * s_nd σ + 3) g (4 * d + 2))), .int (I (tm_ui (tm_ui (tm_ui (tm_ui (s_fl σ) (4 * s_nd σ) b) (4 * s_nd σ + 1) f) (4 * s_nd σ + 2) t) (4 * s_nd σ + 3) g (4 * d + 3)))]))) : Option (va_E ⊕ List Nat))
    by_cases e : d = s_nd σ
    · subst e
      rw [if_pos rfl, n2, n3, n4]
      exact ne _ _ hq (fun fs y => by cases y) _ _
    · rw [if_neg e, ui4 (by omega), ui4 (by omega), ui4 (by omega)]
      exact ne _ _ (h9 d (by omega)) (fun fs y => by cases y) _ _
/-- the list as it begins -/
def k0 (o lb lp lo lc ar : Nat) : KP := ((o, lb, lp, lo, lc, ar), (fun _ => 0), (fun _ => 0), (fun _ => 0), (fun _ => 0), (fun _ => 0), (fun _ => 0), (fun _ => []), (fun _ => []), [], [], [], (fun _ => 0))
theorem RC_0 {T : ClassId × ClassId × ClassId × ClassId} {Λ : tmL} {o lb lp lo lc ar : Nat} (ho : Λ o = some (.inl (.inr (6, [.ref lb, .ref lp, .ref lo, .ref lc, .ref ar, .int (I 0), .int (I 3), .int (I 10)])))) (h1 : Λ lb = some (.inr [])) (h2 : Λ lp = some (.inr [])) (h3 : Λ lo = some (.inr [])) (h4 : Λ lc = some (.inr [])) (h5 : Λ ar = some (.inl (tm_ai T 3011 (fun _ => 0)))) (hne : lb ≠ lp ∧ lb ≠ lo ∧ lb ≠ lc ∧ lp ≠ lo ∧ lp ≠ lc ∧ lo ≠ lc) : RC T Λ (k0 o lb lp lo lc ar) σ0 ∧ grp (s_aj σ0) (s_cu σ0) (k_cs (k0 o lb lp lo lc ar)) 0 (s_nm σ0) := by
  refine ⟨⟨ho, ⟨h1, h2, h3, h4, h5⟩, fun b hb => ?_, fun p hp => ?_, fun d hd => ?_, fun k hk => ?_, ⟨⟨0, Int.le_refl _, rfl⟩, rfl, fun i j c hi => ?_⟩, ⟨fun p => ⟨fun y => (by cases y), fun y => ?_⟩, rfl, fun i j p q _ y => ?_⟩, hne, fun b hb => ?_, fun b c hb => ?_, fun p q hp => ?_, fun i j hi => ?_⟩, rfl⟩
  · have hb : 0 ≤ b ∧ b < 0 := hb
    omega
  · have hp : 0 ≤ p ∧ p < 0 := hp
    omega
  · have hd : 0 ≤ d ∧ d < 0 := hd
    omega
  · have hk : 0 ≤ k ∧ k < 0 := hk
    omega
  · have hi : ([] : List Int)[i]? = some j := hi
    simp at hi
  · have y : 0 ≤ p ∧ p < 0 := y
    omega
  · have y : ([] : List Int)[i]? = some p := y
    simp at y
  · have hb : 0 ≤ b ∧ b < 0 := hb
    omega
  · have hb : 0 ≤ b ∧ b < 0 := hb
    omega
  · have hp : 0 ≤ p ∧ p < 0 := hp
    omega
  · have hi : 0 ≤ i ∧ i < 0 := hi
    omega
