/-! The world with lists: an address holds a plain cell, or a java.util.ArrayList with its elements. -/
abbrev tmL : Type := Nat → Option (va_E ⊕ List Nat)
def tm_u2 (Λ : tmL) (a : Nat) (e : va_E) : tmL := fun b => if b = a then some (.inl e) else Λ b
def tm_ul (Λ : tmL) (a : Nat) (xs : List Nat) : tmL := fun b => if b = a then some (.inr xs) else Λ b
theorem tm_u2_s {Λ : tmL} {a : Nat} {e : va_E} : tm_u2 Λ a e a = some (.inl e) := if_pos rfl
theorem tm_u2_n {Λ : tmL} {a b : Nat} {e : va_E} (h : b ≠ a) : tm_u2 Λ a e b = Λ b := if_neg h
theorem tm_ul_s {Λ : tmL} {a : Nat} {e : List Nat} : tm_ul Λ a e a = some (.inr e) := if_pos rfl
theorem tm_ul_n {Λ : tmL} {a b : Nat} {e : List Nat} (h : b ≠ a) : tm_ul Λ a e b = Λ b := if_neg h
/-- the list at a, with its array at d -/
def tm_ls (T : ClassId × ClassId × ClassId × ClassId) (e0 : Nat) (Ω : tmO) (a d : Nat) (xs : List Nat) : Prop := ∃ (mc : Int32) (cap : Nat) (f : Nat → Option Nat), Ω a = some (.inr (0, [.int mc, .ref d, .int (I xs.length)])) ∧ (d ≠ e0 → Ω d = some (tm_ao T cap f) ∧ (∀ i, i < xs.length → f i = xs[i]?) ∧ xs.length ≤ cap ∧ cap ≤ 400 ∧ 10 ≤ cap) ∧ (d = e0 → xs = [])
def tm_el2 (Λ : tmL) (a : Nat) : Prop := ∃ (ci : Nat) (fs : List Value) (r : vw_C), Λ a = some (.inl (.inr (ci, fs))) ∧ classes[ci]? = some r ∧ Cond.castable r.1 "java/lang/Object" ∈ NW ∧ ci ≠ 0
def tm_lw (T : ClassId × ClassId × ClassId × ClassId) (e0 : Nat) (Λ : tmL) (Ω : tmO) : Prop := ∃ E : Nat → Nat,
  (∀ a e, Λ a = some (.inl e) → Ω a = some e) ∧ (∀ a xs, Λ a = some (.inr xs) → tm_ls T e0 Ω a (E a) xs ∧ (E a ≠ e0 → Λ (E a) = none) ∧ ∀ v ∈ xs, tm_el2 Λ v) ∧
  (∀ a b xs ys, Λ a = some (.inr xs) → Λ b = some (.inr ys) → E a = E b → E a ≠ e0 → a = b) ∧ Ω e0 = none
def tm_h2 (D : va_G) (T : ClassId × ClassId × ClassId × ClassId) (e0 : Nat) (Fz : Nat → Prop) (Λ : tmL) (H : Heap) : Prop := ∃ Ω, tm_lw T e0 Λ Ω ∧ tm_hol D Fz Ω H
abbrev tm_H (x : tmX) (Λ : tmL) : Heap → Prop := tm_h2 (tm_D x) (tm_T x) (tm_e0 x) (tm_Fz x) Λ
theorem tm_lw_none {T : ClassId × ClassId × ClassId × ClassId} {e0 : Nat} {Λ : tmL} {Ω : tmO} (h : tm_lw T e0 Λ Ω) {q : Nat} (hq : Ω q = none) : Λ q = none := by
  obtain ⟨E, h1, h2, h3, h4⟩ := h
  cases hΛ : Λ q with
  | none => rfl
  | some z =>
    cases z with
    | inl e => rw [h1 q e hΛ] at hq; cases hq
    | inr xs =>
      obtain ⟨mc, cap, f, g1, -⟩ := (h2 q xs hΛ).1
      rw [g1] at hq; cases hq
theorem tm_lw_e0 {T : ClassId × ClassId × ClassId × ClassId} {e0 : Nat} {Λ : tmL} {Ω : tmO} (h : tm_lw T e0 Λ Ω) : Λ e0 = none := tm_lw_none h h.choose_spec.2.2.2
/-- a plain cell is written: what is a cell stays a cell of its kind (an object of its class), or it is new -/
theorem tm_lw_set {T : ClassId × ClassId × ClassId × ClassId} {e0 : Nat} {Λ : tmL} {Ω : tmO} {a : Nat} {e : va_E} (h : tm_lw T e0 Λ Ω) (ha : (∃ e', Λ a = some (.inl e') ∧ (∀ ci fs, e' = .inr (ci, fs) → ∃ fs', e = .inr (ci, fs'))) ∨ (Ω a = none ∧ a ≠ e0)) : tm_lw T e0 (tm_u2 Λ a e) (tm_up Ω a e) := by
  obtain ⟨E, h1, h2, h3, h4⟩ := id h
  have hal : ∀ xs, Λ a ≠ some (.inr xs) := by
    intro xs hx
    rcases ha with ⟨e', h5, -⟩ | ⟨h5, -⟩
    · rw [h5] at hx; cases hx
    · rw [tm_lw_none h h5] at hx; cases hx
  have hae : a ≠ e0 := by
    rcases ha with ⟨e', h5, -⟩ | ⟨-, h5⟩
    · intro z; rw [z, tm_lw_e0 h] at h5; cases h5
    · exact h5
  have hEa : ∀ q xs, Λ q = some (.inr xs) → E q ≠ a := by
    intro q xs hq z
    obtain ⟨mc, cap, f, g1, g2, g3⟩ := (h2 q xs hq).1
    by_cases hz : E q = e0
    · exact hae (z.symm.trans hz)
    · rcases ha with ⟨e', h5, -⟩ | ⟨h5, -⟩
      · have := (h2 q xs hq).2.1 hz; rw [z, h5] at this; cases this
      · have := (g2 hz).1; rw [z, h5] at this; cases this
  refine ⟨E, fun b e9 hb => ?_, fun b xs hb => ?_, fun b c xs ys hb hc => ?_, by rw [tm_up_n (Ne.symm hae)]; exact h4⟩
  · by_cases hba : b = a
    · subst hba; rw [tm_u2_s] at hb; rw [tm_up_s]; cases hb; rfl
    · rw [tm_u2_n hba] at hb; rw [tm_up_n hba]; exact h1 b e9 hb
  · have hba : b ≠ a := by intro z; subst z; rw [tm_u2_s] at hb; cases hb
    rw [tm_u2_n hba] at hb
    obtain ⟨⟨mc, cap, f, g1, g2, g3⟩, g4, g5⟩ := h2 b xs hb
    refine ⟨⟨mc, cap, f, by rw [tm_up_n hba]; exact g1, fun hz => ?_, g3⟩, fun hz => ?_, fun v hv => ?_⟩
    · rw [tm_up_n (hEa b xs hb)]; exact g2 hz
    · rw [tm_u2_n (hEa b xs hb)]; exact g4 hz
    · obtain ⟨ci, fs, r, k1, k2, k3⟩ := g5 v hv
      by_cases hva : v = a
      · subst hva
        rcases ha with ⟨e', h5, h6⟩ | ⟨h5, -⟩
        · rw [h5] at k1
          obtain ⟨fs', h7⟩ := h6 ci fs (by cases k1; rfl)
          exact ⟨ci, fs', r, by rw [tm_u2_s, h7], k2, k3⟩
        · rw [tm_lw_none h h5] at k1; cases k1
      · exact ⟨ci, fs, r, by rw [tm_u2_n hva]; exact k1, k2, k3⟩
  · have hba : b ≠ a := by intro z; subst z; rw [tm_u2_s] at hb; cases hb
    have hca : c ≠ a := by intro z; subst z; rw [tm_u2_s] at hc; cases hc
    rw [tm_u2_n hba] at hb
    rw [tm_u2_n hca] at hc
    exact h3 b c xs ys hb hc
theorem tm_el_of {T : ClassId × ClassId × ClassId × ClassId} {e0 : Nat} {Λ : tmL} {Ω : tmO} (h : tm_lw T e0 Λ Ω) {v : Nat} (hv : tm_el2 Λ v) : tm_el Ω v := by
  obtain ⟨ci, fs, r, k1, k2, k3⟩ := hv
  exact ⟨ci, fs, r, h.choose_spec.1 v _ k1, k2, k3.1⟩
/-- a list is written: its array is its own, or new -/
theorem tm_lw_list {T : ClassId × ClassId × ClassId × ClassId} {e0 : Nat} {Λ : tmL} {Ω Ω' : tmO} {E : Nat → Nat} {a d cap : Nat} {mc : Int32} {g : Nat → Option Nat} {xs xs' : List Nat}
    (h1 : ∀ a e, Λ a = some (.inl e) → Ω a = some e) (h2 : ∀ a xs, Λ a = some (.inr xs) → tm_ls T e0 Ω a (E a) xs ∧ (E a ≠ e0 → Λ (E a) = none) ∧ ∀ v ∈ xs, tm_el2 Λ v) (h3 : ∀ a b xs ys, Λ a = some (.inr xs) → Λ b = some (.inr ys) → E a = E b → E a ≠ e0 → a = b) (h4 : Ω e0 = none)
    (ha : Λ a = some (.inr xs)) (hk : ∀ b, b ≠ a → b ≠ d → Ω' b = Ω b) (hoa : Ω' a = some (.inr (0, [.int mc, .ref d, .int (I xs'.length)]))) (hod : Ω' d = some (tm_ao T cap g)) (hg : ∀ i, i < xs'.length → g i = xs'[i]?) (hc : xs'.length ≤ cap ∧ cap ≤ 400 ∧ 10 ≤ cap) (hd : (d = E a ∧ d ≠ e0) ∨ (Ω d = none ∧ d ≠ e0)) (hel : ∀ v ∈ xs', tm_el2 Λ v) : tm_lw T e0 (tm_ul Λ a xs') Ω' := by
  have hw : tm_lw T e0 Λ Ω := ⟨E, h1, h2, h3, h4⟩
  have hd0 : d ≠ e0 := by rcases hd with h | h; exact h.2; exact h.2
  have hΛd : Λ d = none := by
    rcases hd with ⟨h5, h6⟩ | ⟨h5, h6⟩
    · rw [h5]; rw [h5] at h6; exact (h2 a xs ha).2.1 h6
    · exact tm_lw_none hw h5
  have had : a ≠ d := by intro z; rw [z, hΛd] at ha; cases ha
  have hae : a ≠ e0 := by intro z; rw [z, tm_lw_e0 hw] at ha; cases ha
  have hEd : ∀ b ys, b ≠ a → Λ b = some (.inr ys) → E b ≠ d := by
    intro b ys hb hΛb z
    rcases hd with ⟨h5, h6⟩ | ⟨h5, h6⟩
    · exact hb (h3 b a ys xs hΛb ha (z.trans h5) (by rw [z]; exact h6))
    · obtain ⟨mc2, cap2, f2, g1, g2, g3⟩ := (h2 b ys hΛb).1
      have := (g2 (by rw [z]; exact h6)).1
      rw [z, h5] at this; cases this
  have hEa : ∀ b ys, Λ b = some (.inr ys) → E b ≠ e0 → E b ≠ a := by
    intro b ys hΛb hne z
    have := (h2 b ys hΛb).2.1 hne
    rw [z, ha] at this; cases this
  have hel' : ∀ v, tm_el2 Λ v → tm_el2 (tm_ul Λ a xs') v := by
    intro v hv
    obtain ⟨ci, fs, r, k1, k2, k3⟩ := hv
    exact ⟨ci, fs, r, by rw [tm_ul_n (by intro z; rw [z, ha] at k1; cases k1)]; exact k1, k2, k3⟩
  obtain ⟨E', hEs, hEn⟩ : ∃ E' : Nat → Nat, E' a = d ∧ ∀ b, b ≠ a → E' b = E b := ⟨fun b => if b = a then d else E b, if_pos rfl, fun b h => if_neg h⟩
  refine ⟨E', fun b e hb => ?_, fun b ys hb => ?_, fun b c ys zs hb hc9 he hne => ?_, by rw [hk e0 (Ne.symm hae) (Ne.symm hd0)]; exact h4⟩
  · have hba : b ≠ a := by intro z; subst z; rw [tm_ul_s] at hb; cases hb
    rw [tm_ul_n hba] at hb
    rw [hk b hba (by intro z; rw [z, hΛd] at hb; cases hb)]
    exact h1 b e hb
  · by_cases hba : b = a
    · subst hba
      rw [tm_ul_s] at hb
      cases hb
      refine ⟨⟨mc, cap, g, by rw [hEs]; exact hoa, fun _ => by rw [hEs]; exact ⟨hod, hg, hc⟩, fun z => by rw [hEs] at z; exact absurd z hd0⟩, fun _ => by rw [hEs, tm_ul_n (Ne.symm had)]; exact hΛd, fun v hv => hel' v (hel v hv)⟩
    · rw [tm_ul_n hba] at hb
      obtain ⟨⟨mc2, cap2, f2, g1, g2, g3⟩, g4, g5⟩ := h2 b ys hb
      have hbd : b ≠ d := by intro z; rw [z, hΛd] at hb; cases hb
      refine ⟨⟨mc2, cap2, f2, by rw [hEn b hba, hk b hba hbd]; exact g1, fun z => ?_, fun z => by rw [hEn b hba] at z; exact g3 z⟩, fun z => ?_, fun v hv => hel' v (g5 v hv)⟩
      · rw [hEn b hba] at z ⊢
        rw [hk _ (hEa b ys hb z) (hEd b ys hba hb)]
        exact g2 z
      · rw [hEn b hba] at z ⊢
        rw [tm_ul_n (hEa b ys hb z)]
        exact g4 z
  · by_cases hba : b = a
    · by_cases hca : c = a
      · rw [hba, hca]
      · rw [hba, hEs, hEn c hca] at he
        rw [tm_ul_n hca] at hc9
        exact absurd he.symm (hEd c zs hca hc9)
    · by_cases hca : c = a
      · rw [hEn b hba, hca, hEs] at he
        rw [tm_ul_n hba] at hb
        exact absurd he (hEd b ys hba hb)
      · rw [hEn b hba, hEn c hca] at he
        rw [hEn b hba] at hne
        rw [tm_ul_n hba] at hb
        rw [tm_ul_n hca] at hc9
        exact h3 b c ys zs hb hc9 he hne
/-- a list is born: an object of ArrayList's becomes an empty list -/
theorem tm_lw_born {T : ClassId × ClassId × ClassId × ClassId} {e0 : Nat} {Λ : tmL} {Ω : tmO} {a : Nat} {mc : Int32} {fs : List Value} (h : tm_lw T e0 Λ Ω) (ha : Λ a = some (.inl (.inr (0, fs)))) : tm_lw T e0 (tm_ul Λ a []) (tm_up Ω a (.inr (0, [.int mc, .ref e0, .int (I 0)]))) := by
  obtain ⟨E, h1, h2, h3, h4⟩ := id h
  have hae : a ≠ e0 := by intro z; rw [z, tm_lw_e0 h] at ha; cases ha
  have hEa : ∀ b ys, Λ b = some (.inr ys) → E b ≠ a := by
    intro b ys hΛb z
    by_cases hne : E b = e0
    · exact hae (z.symm.trans hne)
    · have := (h2 b ys hΛb).2.1 hne
      rw [z, ha] at this; cases this
  have hel' : ∀ v, tm_el2 Λ v → tm_el2 (tm_ul Λ a []) v := by
    intro v hv
    obtain ⟨ci, fs, r, k1, k2, k3⟩ := hv
    exact ⟨ci, fs, r, by rw [tm_ul_n (by intro z; rw [z, ha] at k1; cases k1; exact k3.2 rfl)]; exact k1, k2, k3⟩
  obtain ⟨E', hEs, hEn⟩ : ∃ E' : Nat → Nat, E' a = e0 ∧ ∀ b, b ≠ a → E' b = E b := ⟨fun b => if b = a then e0 else E b, if_pos rfl, fun b h => if_neg h⟩
  refine ⟨E', fun b e hb => ?_, fun b ys hb => ?_, fun b c ys zs hb hc9 he hne => ?_, by rw [tm_up_n (Ne.symm hae)]; exact h4⟩
  · have hba : b ≠ a := by intro z; subst z; rw [tm_ul_s] at hb; cases hb
    rw [tm_ul_n hba] at hb
    rw [tm_up_n hba]
    exact h1 b e hb
  · by_cases hba : b = a
    · subst hba
      rw [tm_ul_s] at hb
      cases hb
      refine ⟨⟨mc, 0, fun _ => none, by rw [hEs, tm_up_s]; rfl, fun z => absurd hEs z, fun _ => rfl⟩, fun z => absurd hEs z, fun v hv => by cases hv⟩
    · rw [tm_ul_n hba] at hb
      obtain ⟨⟨mc2, cap2, f2, g1, g2, g3⟩, g4, g5⟩ := h2 b ys hb
      refine ⟨⟨mc2, cap2, f2, by rw [hEn b hba, tm_up_n hba]; exact g1, fun z => ?_, fun z => by rw [hEn b hba] at z; exact g3 z⟩, fun z => ?_, fun v hv => hel' v (g5 v hv)⟩
      · rw [hEn b hba] at z ⊢
        rw [tm_up_n (hEa b ys hb)]
        exact g2 z
      · rw [hEn b hba] at z ⊢
        rw [tm_ul_n (hEa b ys hb)]
        exact g4 z
  · by_cases hba : b = a
    · rw [hba, hEs] at hne; exact absurd rfl hne
    · by_cases hca : c = a
      · rw [hEn b hba] at hne
        rw [hEn b hba, hca, hEs] at he
        exact absurd he hne
      · rw [hEn b hba, hEn c hca] at he
        rw [hEn b hba] at hne
        rw [tm_ul_n hba] at hb
        rw [tm_ul_n hca] at hc9
        exact h3 b c ys zs hb hc9 he hne
section TML
variable {x : tmX} {cc : ByteArray} {own : String} {ret : Option FieldType} {b n pc : Nat} {L : List (Nat × Value)} {st : List Value} {Λ : tmL} {Ω : tmO} {a : Nat}
theorem tm_li (k : ∀ Ω, tm_lw (tm_T x) (tm_e0 x) Λ Ω → tm_V x (tm_G x Ω) b n pc L st) : tm_V x (tm_H x Λ) b n pc L st := by
  intro H locs ls cells slots h1 h2 hS hG hl
  obtain ⟨Ω, hw, hh⟩ := hG
  exact k Ω hw H locs ls cells slots h1 h2 hS hh hl
theorem tm_lo (hw : tm_lw (tm_T x) (tm_e0 x) Λ Ω) (k : tm_V x (tm_H x Λ) b n pc L st) : tm_V x (tm_G x Ω) b n pc L st := by
  intro H locs ls cells slots h1 h2 hS hG hl
  exact k H locs ls cells slots h1 h2 hS ⟨Ω, hw, hG⟩ hl
/-- what the heap gives: the addresses of a world aren't frozen -/
theorem tm_nfz {e : va_E} (ha : Ω a = some e) (k : ¬ tm_Fz x a → tm_V x (tm_G x Ω) b n pc L st) : tm_V x (tm_G x Ω) b n pc L st := by
  intro H locs ls cells slots h1 h2 hS hG hl
  exact k (tm_hol_at hG ha).2.1 H locs ls cells slots h1 h2 hS hG hl
theorem tm_ne0 (hC : tm_C x cc own ret) (h : ¬ tm_Fz x a) : a ≠ tm_e0 x := fun z => h (by rw [z]; exact hC.2.2.2.2.2.2.2.2.2.2.2.1)
theorem tm_getf2 {idx ci k : Nat} {fs : List Value} {v : Value} (hC : tm_C x cc own ret) (hf : tm_f own idx ci k) (ha : Λ a = some (.inl (.inr (ci, fs)))) (hv : fs[k]? = some v) (hd : decode cc pc = .ok (.getfield idx, 3)) (kk : tm_V x (tm_H x Λ) b n (pc + 3) L (v :: st)) : tm_V x (tm_H x Λ) b n pc L (.ref a :: st) :=
  tm_li (fun Ω hw => tm_getf1 hC hf (hw.choose_spec.1 _ _ ha) hv hd (tm_lo hw kk))
theorem tm_putf2 {idx ci k : Nat} {fs : List Value} {v : Value} (hC : tm_C x cc own ret) (hf : tm_f own idx ci k) (ha : Λ a = some (.inl (.inr (ci, fs)))) (ht : tm_tt ci k false own v) (hl9 : k < fs.length) (hd : decode cc pc = .ok (.putfield idx, 3)) (kk : tm_V x (tm_H x (tm_u2 Λ a (.inr (ci, fs.set k v)))) b n (pc + 3) L st) : tm_V x (tm_H x Λ) b n pc L (v :: .ref a :: st) :=
  tm_li (fun Ω hw => tm_putf1 hC hf (hw.choose_spec.1 _ _ ha) ht hl9 hd (tm_lo (tm_lw_set hw (Or.inl ⟨_, ha, fun ci2 fs2 z => by cases z; exact ⟨_, rfl⟩⟩)) kk))
theorem tm_putfF2 {idx ci k : Nat} {fs : List Value} {v : Value} (hC : tm_C x cc own ret) (hin2 : (tm_me x).name = "<init>") (hf : tm_f own idx ci k) (ha : Λ a = some (.inl (.inr (ci, fs)))) (ht : tm_tt ci k true own v) (hl9 : k < fs.length) (hd : decode cc pc = .ok (.putfield idx, 3)) (hnn : ∃ (C ref : String) (T : u_T) (N : Nat), classes[ci]? = some (C, T, N) ∧ Cond.fieldLink own idx ref (T k).2.1 (T k).2.2.1 ∈ ALL ∧ (T k).1 = ref) (kk : tm_V x (tm_H x (tm_u2 Λ a (.inr (ci, fs.set k v)))) b n (pc + 3) L st) : tm_V x (tm_H x Λ) b n pc L (v :: .ref a :: st) :=
  tm_li (fun Ω hw => tm_putfF1 hC hin2 hf (hw.choose_spec.1 _ _ ha) ht hl9 hd hnn (tm_lo (tm_lw_set hw (Or.inl ⟨_, ha, fun ci2 fs2 z => by cases z; exact ⟨_, rfl⟩⟩)) kk))
theorem tm_new2 {idx ci : Nat} {fs : List Value} (hC : tm_C x cc own ret) (hnw : tm_nw9 own idx ci fs) (hd : decode cc pc = .ok (.new idx, 3)) (kk : ∀ q, Λ q = none → tm_V x (tm_H x (tm_u2 Λ q (.inr (ci, fs)))) b n (pc + 3) L (.ref q :: st)) : tm_V x (tm_H x Λ) (1 + b) (fs.length + n) pc L st :=
  tm_li (fun Ω hw => tm_new1 hC hnw hd (fun q hq => tm_nfz tm_up_s (fun hz => tm_lo (tm_lw_set hw (Or.inr ⟨hq, tm_ne0 hC hz⟩)) (kk q (tm_lw_none hw hq)))))
theorem tm_newi2 {k : Int} (hC : tm_C x cc own ret) (hk : 0 ≤ k ∧ k ≤ 100000) (hw9 : Cond.arrayClass .int ∈ ALL) (hd : decode cc pc = .ok (.newarray .int, 2)) (kk : ∀ q, Λ q = none → tm_V x (tm_H x (tm_u2 Λ q (tm_ai (tm_T x) k.toNat (fun _ => 0)))) b n (pc + 2) L (.ref q :: st)) : tm_V x (tm_H x Λ) (1 + b) (k.toNat + n) pc L (.int (I k) :: st) :=
  tm_li (fun Ω hw => tm_newi1 hC hk hw9 hd (fun q hq => tm_nfz tm_up_s (fun hz => tm_lo (tm_lw_set hw (Or.inr ⟨hq, tm_ne0 hC hz⟩)) (kk q (tm_lw_none hw hq)))))
theorem tm_newz2 {k : Int} (hC : tm_C x cc own ret) (hk : 0 ≤ k ∧ k ≤ 100000) (hw9 : Cond.arrayClass .boolean ∈ ALL) (hd : decode cc pc = .ok (.newarray .boolean, 2)) (kk : ∀ q, Λ q = none → tm_V x (tm_H x (tm_u2 Λ q (tm_az (tm_T x) k.toNat (fun _ => 0)))) b n (pc + 2) L (.ref q :: st)) : tm_V x (tm_H x Λ) (1 + b) (k.toNat + n) pc L (.int (I k) :: st) :=
  tm_li (fun Ω hw => tm_newz1 hC hk hw9 hd (fun q hq => tm_nfz tm_up_s (fun hz => tm_lo (tm_lw_set hw (Or.inr ⟨hq, tm_ne0 hC hz⟩)) (kk q (tm_lw_none hw hq)))))
theorem tm_newl2 {k : Int} (hC : tm_C x cc own ret) (hk : 0 ≤ k ∧ k ≤ 100000) (hw9 : Cond.arrayClass .long ∈ ALL) (hd : decode cc pc = .ok (.newarray .long, 2)) (kk : ∀ q, Λ q = none → tm_V x (tm_H x (tm_u2 Λ q (tm_al (tm_T x) k.toNat (fun _ => 0)))) b n (pc + 2) L (.ref q :: st)) : tm_V x (tm_H x Λ) (1 + b) (k.toNat + n) pc L (.int (I k) :: st) :=
  tm_li (fun Ω hw => tm_newl1 hC hk hw9 hd (fun q hq => tm_nfz tm_up_s (fun hz => tm_lo (tm_lw_set hw (Or.inr ⟨hq, tm_ne0 hC hz⟩)) (kk q (tm_lw_none hw hq)))))
theorem tm_alen2 {c : ClassId} {y : vp_A} {t0 : Nat} {ty : FieldType} (hC : tm_C x cc own ret) (ha : Λ a = some (.inl (.inl (c, y)))) (ht : (tm_tys (tm_T x))[t0]? = some (c, ty)) (hd : decode cc pc = .ok (.arraylength, 1)) (kk : tm_V x (tm_H x Λ) b n (pc + 1) L (.int (I y.1) :: st)) : tm_V x (tm_H x Λ) b n pc L (.ref a :: st) :=
  tm_li (fun Ω hw => tm_alen1 hC (hw.choose_spec.1 _ _ ha) ht hd (tm_lo hw kk))
theorem tm_iald2 {i : Int} {k : Nat} {g : Int → Int} (hC : tm_C x cc own ret) (ha : Λ a = some (.inl (tm_ai (tm_T x) k g))) (hi : 0 ≤ i ∧ i < k ∧ i ≤ 2147483647) (hd : decode cc pc = .ok (.iaload, 1)) (kk : tm_V x (tm_H x Λ) b n (pc + 1) L (.int (I (g i)) :: st)) : tm_V x (tm_H x Λ) b n pc L (.int (I i) :: .ref a :: st) :=
  tm_li (fun Ω hw => tm_iald1 hC (hw.choose_spec.1 _ _ ha) hi hd (tm_lo hw kk))
theorem tm_zald2 {i : Int} {k : Nat} {g : Int → Int} (hC : tm_C x cc own ret) (ha : Λ a = some (.inl (tm_az (tm_T x) k g))) (hi : 0 ≤ i ∧ i < k ∧ i ≤ 2147483647) (hd : decode cc pc = .ok (.baload, 1)) (kk : tm_V x (tm_H x Λ) b n (pc + 1) L (.int (I (g i)) :: st)) : tm_V x (tm_H x Λ) b n pc L (.int (I i) :: .ref a :: st) :=
  tm_li (fun Ω hw => tm_zald1 hC (hw.choose_spec.1 _ _ ha) hi hd (tm_lo hw kk))
theorem tm_lald2 {i : Int} {k : Nat} {g : Nat → Int64} (hC : tm_C x cc own ret) (ha : Λ a = some (.inl (tm_al (tm_T x) k g))) (hi : 0 ≤ i ∧ i < k ∧ i ≤ 2147483647) (hd : decode cc pc = .ok (.laload, 1)) (kk : tm_V x (tm_H x Λ) b n (pc + 1) L (.long (g i.toNat) :: st)) : tm_V x (tm_H x Λ) b n pc L (.int (I i) :: .ref a :: st) :=
  tm_li (fun Ω hw => tm_lald1 hC (hw.choose_spec.1 _ _ ha) hi hd (tm_lo hw kk))
theorem tm_iast2 {i v : Int} {k : Nat} {g : Int → Int} (hC : tm_C x cc own ret) (ha : Λ a = some (.inl (tm_ai (tm_T x) k g))) (hi : 0 ≤ i ∧ i < k ∧ i ≤ 2147483647) (hd : decode cc pc = .ok (.iastore, 1)) (kk : tm_V x (tm_H x (tm_u2 Λ a (tm_ai (tm_T x) k (tm_ui g i v)))) b n (pc + 1) L st) : tm_V x (tm_H x Λ) b n pc L (.int (I v) :: .int (I i) :: .ref a :: st) :=
  tm_li (fun Ω hw => tm_iast1 hC (hw.choose_spec.1 _ _ ha) hi hd (tm_lo (tm_lw_set hw (Or.inl ⟨_, ha, fun ci2 fs2 z => by cases z⟩)) kk))
theorem tm_zast2 {i v : Int} {k : Nat} {g : Int → Int} (hC : tm_C x cc own ret) (ha : Λ a = some (.inl (tm_az (tm_T x) k g))) (hi : 0 ≤ i ∧ i < k ∧ i ≤ 2147483647) (hv : v = 0 ∨ v = 1) (hd : decode cc pc = .ok (.bastore, 1)) (kk : tm_V x (tm_H x (tm_u2 Λ a (tm_az (tm_T x) k (tm_ui g i v)))) b n (pc + 1) L st) : tm_V x (tm_H x Λ) b n pc L (.int (I v) :: .int (I i) :: .ref a :: st) :=
  tm_li (fun Ω hw => tm_zast1 hC (hw.choose_spec.1 _ _ ha) hi hv hd (tm_lo (tm_lw_set hw (Or.inl ⟨_, ha, fun ci2 fs2 z => by cases z⟩)) kk))
theorem tm_last2 {i : Int} {v : Int64} {k : Nat} {g : Nat → Int64} (hC : tm_C x cc own ret) (ha : Λ a = some (.inl (tm_al (tm_T x) k g))) (hi : 0 ≤ i ∧ i < k ∧ i ≤ 2147483647) (hd : decode cc pc = .ok (.lastore, 1)) (kk : tm_V x (tm_H x (tm_u2 Λ a (tm_al (tm_T x) k (vp_updL g i.toNat v)))) b n (pc + 1) L st) : tm_V x (tm_H x Λ) b n pc L (.long v :: .int (I i) :: .ref a :: st) :=
  tm_li (fun Ω hw => tm_last1 hC (hw.choose_spec.1 _ _ ha) hi hd (tm_lo (tm_lw_set hw (Or.inl ⟨_, ha, fun ci2 fs2 z => by cases z⟩)) kk))
theorem tm_rec2 {ci : Nat} {fs : List Value} {r : vw_C} (hC : tm_C x cc own ret) (ha : Λ a = some (.inl (.inr (ci, fs)))) (hc : classes[ci]? = some r) : ∀ H, tm_h2 (tm_D x) (tm_T x) (tm_e0 x) (tm_Fz x) Λ H → ∃ cell : Cell, H[a]? = some cell ∧ cell.vm.isStatics = false ∧ (tm_st x).vm.findClass r.1 = some cell.cls := by
  intro H hG
  obtain ⟨Ω, hw, hh⟩ := hG
  exact tm_rec1 hC (hw.choose_spec.1 _ _ ha) hc H hh
theorem tm_recL {xs : List Nat} (hC : tm_C x cc own ret) (ha : Λ a = some (.inr xs)) : ∀ H, tm_h2 (tm_D x) (tm_T x) (tm_e0 x) (tm_Fz x) Λ H → ∃ cell : Cell, H[a]? = some cell ∧ cell.vm.isStatics = false ∧ (tm_st x).vm.findClass RJx4a65c = some cell.cls := by
  intro H hG
  obtain ⟨Ω, hw, hh⟩ := hG
  obtain ⟨mc, cap, f, g1, -⟩ := (hw.choose_spec.2.1 a xs ha).1
  exact tm_rec1 (r := (RJx4a65c, TJx4a65c, 3)) hC g1 rfl H hh
theorem tm_cast2 {idx ci : Nat} {fs : List Value} {r : vw_C} (hC : tm_C x cc own ret) (ha : Λ a = some (.inl (.inr (ci, fs)))) (hc : classes[ci]? = some r) (hk : Cond.classLink own idx r.1 ∈ ALL) (hd : decode cc pc = .ok (.checkcast idx, 3)) (kk : tm_V x (tm_H x Λ) b n (pc + 3) L (.ref a :: st)) : tm_V x (tm_H x Λ) b n pc L (.ref a :: st) :=
  tm_li (fun Ω hw => tm_cast1 hC (hw.choose_spec.1 _ _ ha) hc hk hd (tm_lo hw kk))
end TML
theorem tt_0_0 {own : String} (v : Int32) : tm_tt 0 0 false own (.int v) := by
  intro C T N hc
  cases Option.some.inj hc
  exact ⟨⟨tyJx4a65c, tyJx4a65c_ok⟩, nmJx4a65c, rfl, (fun z => by cases z), tyJx4a65c 0, tyJx4a65c_ok 0 (by decide), rfl, rfl⟩
theorem tt_0_1 {own : String} (a : Nat) : tm_tt 0 1 false own (.ref a) := by
  intro C T N hc
  cases Option.some.inj hc
  exact ⟨⟨tyJx4a65c, tyJx4a65c_ok⟩, nmJx4a65c, rfl, (fun z => by cases z), tyJx4a65c 1, tyJx4a65c_ok 1 (by decide), rfl, rfl⟩
theorem tt_0_1_n {own : String} : tm_tt 0 1 false own .null := by
  intro C T N hc
  cases Option.some.inj hc
  exact ⟨⟨tyJx4a65c, tyJx4a65c_ok⟩, nmJx4a65c, rfl, (fun z => by cases z), tyJx4a65c 1, tyJx4a65c_ok 1 (by decide), rfl, rfl⟩
theorem tt_0_2 {own : String} (v : Int32) : tm_tt 0 2 false own (.int v) := by
  intro C T N hc
  cases Option.some.inj hc
  exact ⟨⟨tyJx4a65c, tyJx4a65c_ok⟩, nmJx4a65c, rfl, (fun z => by cases z), tyJx4a65c 2, tyJx4a65c_ok 2 (by decide), rfl, rfl⟩
theorem tt_1_0 (v : Int32) : tm_tt 1 0 true RX0 (.int v) := by
  intro C T N hc
  cases Option.some.inj hc
  exact ⟨⟨tyX0, tyX0_ok⟩, nmX0, rfl, fun _ => rfl, tyX0 0, tyX0_ok 0 (by decide), rfl, rfl⟩
theorem tt_1_1 (v : Int32) : tm_tt 1 1 true RX0 (.int v) := by
  intro C T N hc
  cases Option.some.inj hc
  exact ⟨⟨tyX0, tyX0_ok⟩, nmX0, rfl, fun _ => rfl, tyX0 1, tyX0_ok 1 (by decide), rfl, rfl⟩
theorem tt_1_2 (v : Int32) : tm_tt 1 2 true RX0 (.int v) := by
  intro C T N hc
  cases Option.some.inj hc
  exact ⟨⟨tyX0, tyX0_ok⟩, nmX0, rfl, fun _ => rfl, tyX0 2, tyX0_ok 2 (by decide), rfl, rfl⟩
theorem tt_1_3 (a : Nat) : tm_tt 1 3 true RX0 (.ref a) := by
  intro C T N hc
  cases Option.some.inj hc
  exact ⟨⟨tyX0, tyX0_ok⟩, nmX0, rfl, fun _ => rfl, tyX0 3, tyX0_ok 3 (by decide), rfl, rfl⟩
theorem tt_1_3_n : tm_tt 1 3 true RX0 .null := by
  intro C T N hc
  cases Option.some.inj hc
  exact ⟨⟨tyX0, tyX0_ok⟩, nmX0, rfl, fun _ => rfl, tyX0 3, tyX0_ok 3 (by decide), rfl, rfl⟩
theorem tt_1_4 (a : Nat) : tm_tt 1 4 true RX0 (.ref a) := by
  intro C T N hc
  cases Option.some.inj hc
  exact ⟨⟨tyX0, tyX0_ok⟩, nmX0, rfl, fun _ => rfl, tyX0 4, tyX0_ok 4 (by decide), rfl, rfl⟩
theorem tt_1_4_n : tm_tt 1 4 true RX0 .null := by
  intro C T N hc
  cases Option.some.inj hc
  exact ⟨⟨tyX0, tyX0_ok⟩, nmX0, rfl, fun _ => rfl, tyX0 4, tyX0_ok 4 (by decide), rfl, rfl⟩
theorem tt_2_0 (a : Nat) : tm_tt 2 0 true RX1 (.ref a) := by
  intro C T N hc
  cases Option.some.inj hc
  exact ⟨⟨tyX1, tyX1_ok⟩, nmX1, rfl, fun _ => rfl, tyX1 0, tyX1_ok 0 (by decide), rfl, rfl⟩
theorem tt_2_0_n : tm_tt 2 0 true RX1 .null := by
  intro C T N hc
  cases Option.some.inj hc
  exact ⟨⟨tyX1, tyX1_ok⟩, nmX1, rfl, fun _ => rfl, tyX1 0, tyX1_ok 0 (by decide), rfl, rfl⟩
theorem tt_2_1 (a : Nat) : tm_tt 2 1 true RX1 (.ref a) := by
  intro C T N hc
  cases Option.some.inj hc
  exact ⟨⟨tyX1, tyX1_ok⟩, nmX1, rfl, fun _ => rfl, tyX1 1, tyX1_ok 1 (by decide), rfl, rfl⟩
theorem tt_2_1_n : tm_tt 2 1 true RX1 .null := by
  intro C T N hc
  cases Option.some.inj hc
  exact ⟨⟨tyX1, tyX1_ok⟩, nmX1, rfl, fun _ => rfl, tyX1 1, tyX1_ok 1 (by decide), rfl, rfl⟩
theorem tt_2_2 (a : Nat) : tm_tt 2 2 true RX1 (.ref a) := by
  intro C T N hc
  cases Option.some.inj hc
  exact ⟨⟨tyX1, tyX1_ok⟩, nmX1, rfl, fun _ => rfl, tyX1 2, tyX1_ok 2 (by decide), rfl, rfl⟩
theorem tt_2_2_n : tm_tt 2 2 true RX1 .null := by
  intro C T N hc
  cases Option.some.inj hc
  exact ⟨⟨tyX1, tyX1_ok⟩, nmX1, rfl, fun _ => rfl, tyX1 2, tyX1_ok 2 (by decide), rfl, rfl⟩
theorem tt_3_0 (v : Int32) : tm_tt 3 0 true RX2 (.int v) := by
  intro C T N hc
  cases Option.some.inj hc
  exact ⟨⟨tyX2, tyX2_ok⟩, nmX2, rfl, fun _ => rfl, tyX2 0, tyX2_ok 0 (by decide), rfl, rfl⟩
theorem tt_3_1 (v : Int32) : tm_tt 3 1 true RX2 (.int v) := by
  intro C T N hc
  cases Option.some.inj hc
  exact ⟨⟨tyX2, tyX2_ok⟩, nmX2, rfl, fun _ => rfl, tyX2 1, tyX2_ok 1 (by decide), rfl, rfl⟩
theorem tt_3_2 (v : Int32) : tm_tt 3 2 true RX2 (.int v) := by
  intro C T N hc
  cases Option.some.inj hc
  exact ⟨⟨tyX2, tyX2_ok⟩, nmX2, rfl, fun _ => rfl, tyX2 2, tyX2_ok 2 (by decide), rfl, rfl⟩
theorem tt_4_0 (v : Int32) : tm_tt 4 0 true RX3 (.int v) := by
  intro C T N hc
  cases Option.some.inj hc
  exact ⟨⟨tyX3, tyX3_ok⟩, nmX3, rfl, fun _ => rfl, tyX3 0, tyX3_ok 0 (by decide), rfl, rfl⟩
theorem tt_4_1 (v : Int32) : tm_tt 4 1 true RX3 (.int v) := by
  intro C T N hc
  cases Option.some.inj hc
  exact ⟨⟨tyX3, tyX3_ok⟩, nmX3, rfl, fun _ => rfl, tyX3 1, tyX3_ok 1 (by decide), rfl, rfl⟩
theorem tt_4_2 (v : Int32) : tm_tt 4 2 true RX3 (.int v) := by
  intro C T N hc
  cases Option.some.inj hc
  exact ⟨⟨tyX3, tyX3_ok⟩, nmX3, rfl, fun _ => rfl, tyX3 2, tyX3_ok 2 (by decide), rfl, rfl⟩
theorem tt_4_3 (v : Int32) : tm_tt 4 3 true RX3 (.int v) := by
  intro C T N hc
  cases Option.some.inj hc
  exact ⟨⟨tyX3, tyX3_ok⟩, nmX3, rfl, fun _ => rfl, tyX3 3, tyX3_ok 3 (by decide), rfl, rfl⟩
theorem tt_4_4 (v : Int) (h : v = 0 ∨ v = 1) : tm_tt 4 4 true RX3 (.int (I v)) := by
  intro C T N hc
  cases Option.some.inj hc
  exact ⟨⟨tyX3, tyX3_ok⟩, nmX3, rfl, fun _ => rfl, tyX3 4, tyX3_ok 4 (by decide), (by rcases h with rfl | rfl <;> rfl), (by rcases h with rfl | rfl <;> rfl)⟩
theorem tt_4_5 {own : String} (v : Int32) : tm_tt 4 5 false own (.int v) := by
  intro C T N hc
  cases Option.some.inj hc
  exact ⟨⟨tyX3, tyX3_ok⟩, nmX3, rfl, (fun z => by cases z), tyX3 5, tyX3_ok 5 (by decide), rfl, rfl⟩
theorem tt_5_0 (a : Nat) : tm_tt 5 0 true RX4 (.ref a) := by
  intro C T N hc
  cases Option.some.inj hc
  exact ⟨⟨tyX4, tyX4_ok⟩, nmX4, rfl, fun _ => rfl, tyX4 0, tyX4_ok 0 (by decide), rfl, rfl⟩
theorem tt_5_0_n : tm_tt 5 0 true RX4 .null := by
  intro C T N hc
  cases Option.some.inj hc
  exact ⟨⟨tyX4, tyX4_ok⟩, nmX4, rfl, fun _ => rfl, tyX4 0, tyX4_ok 0 (by decide), rfl, rfl⟩
theorem tt_5_1 (a : Nat) : tm_tt 5 1 true RX4 (.ref a) := by
  intro C T N hc
  cases Option.some.inj hc
  exact ⟨⟨tyX4, tyX4_ok⟩, nmX4, rfl, fun _ => rfl, tyX4 1, tyX4_ok 1 (by decide), rfl, rfl⟩
theorem tt_5_1_n : tm_tt 5 1 true RX4 .null := by
  intro C T N hc
  cases Option.some.inj hc
  exact ⟨⟨tyX4, tyX4_ok⟩, nmX4, rfl, fun _ => rfl, tyX4 1, tyX4_ok 1 (by decide), rfl, rfl⟩
theorem tt_5_2 (v : Int32) : tm_tt 5 2 true RX4 (.int v) := by
  intro C T N hc
  cases Option.some.inj hc
  exact ⟨⟨tyX4, tyX4_ok⟩, nmX4, rfl, fun _ => rfl, tyX4 2, tyX4_ok 2 (by decide), rfl, rfl⟩
theorem tt_5_3 (v : Int32) : tm_tt 5 3 true RX4 (.int v) := by
  intro C T N hc
  cases Option.some.inj hc
  exact ⟨⟨tyX4, tyX4_ok⟩, nmX4, rfl, fun _ => rfl, tyX4 3, tyX4_ok 3 (by decide), rfl, rfl⟩
theorem tt_5_4 (v : Int) (h : v = 0 ∨ v = 1) : tm_tt 5 4 true RX4 (.int (I v)) := by
  intro C T N hc
  cases Option.some.inj hc
  exact ⟨⟨tyX4, tyX4_ok⟩, nmX4, rfl, fun _ => rfl, tyX4 4, tyX4_ok 4 (by decide), (by rcases h with rfl | rfl <;> rfl), (by rcases h with rfl | rfl <;> rfl)⟩
theorem tt_6_0 (a : Nat) : tm_tt 6 0 true RX5 (.ref a) := by
  intro C T N hc
  cases Option.some.inj hc
  exact ⟨⟨tyX5, tyX5_ok⟩, nmX5, rfl, fun _ => rfl, tyX5 0, tyX5_ok 0 (by decide), rfl, rfl⟩
theorem tt_6_0_n : tm_tt 6 0 true RX5 .null := by
  intro C T N hc
  cases Option.some.inj hc
  exact ⟨⟨tyX5, tyX5_ok⟩, nmX5, rfl, fun _ => rfl, tyX5 0, tyX5_ok 0 (by decide), rfl, rfl⟩
theorem tt_6_1 (a : Nat) : tm_tt 6 1 true RX5 (.ref a) := by
  intro C T N hc
  cases Option.some.inj hc
  exact ⟨⟨tyX5, tyX5_ok⟩, nmX5, rfl, fun _ => rfl, tyX5 1, tyX5_ok 1 (by decide), rfl, rfl⟩
theorem tt_6_1_n : tm_tt 6 1 true RX5 .null := by
  intro C T N hc
  cases Option.some.inj hc
  exact ⟨⟨tyX5, tyX5_ok⟩, nmX5, rfl, fun _ => rfl, tyX5 1, tyX5_ok 1 (by decide), rfl, rfl⟩
theorem tt_6_2 (a : Nat) : tm_tt 6 2 true RX5 (.ref a) := by
  intro C T N hc
  cases Option.some.inj hc
  exact ⟨⟨tyX5, tyX5_ok⟩, nmX5, rfl, fun _ => rfl, tyX5 2, tyX5_ok 2 (by decide), rfl, rfl⟩
theorem tt_6_2_n : tm_tt 6 2 true RX5 .null := by
  intro C T N hc
  cases Option.some.inj hc
  exact ⟨⟨tyX5, tyX5_ok⟩, nmX5, rfl, fun _ => rfl, tyX5 2, tyX5_ok 2 (by decide), rfl, rfl⟩
theorem tt_6_3 (a : Nat) : tm_tt 6 3 true RX5 (.ref a) := by
  intro C T N hc
  cases Option.some.inj hc
  exact ⟨⟨tyX5, tyX5_ok⟩, nmX5, rfl, fun _ => rfl, tyX5 3, tyX5_ok 3 (by decide), rfl, rfl⟩
theorem tt_6_3_n : tm_tt 6 3 true RX5 .null := by
  intro C T N hc
  cases Option.some.inj hc
  exact ⟨⟨tyX5, tyX5_ok⟩, nmX5, rfl, fun _ => rfl, tyX5 3, tyX5_ok 3 (by decide), rfl, rfl⟩
theorem tt_6_4 (a : Nat) : tm_tt 6 4 true RX5 (.ref a) := by
  intro C T N hc
  cases Option.some.inj hc
  exact ⟨⟨tyX5, tyX5_ok⟩, nmX5, rfl, fun _ => rfl, tyX5 4, tyX5_ok 4 (by decide), rfl, rfl⟩
theorem tt_6_4_n : tm_tt 6 4 true RX5 .null := by
  intro C T N hc
  cases Option.some.inj hc
  exact ⟨⟨tyX5, tyX5_ok⟩, nmX5, rfl, fun _ => rfl, tyX5 4, tyX5_ok 4 (by decide), rfl, rfl⟩
theorem tt_6_5 {own : String} (v : Int32) : tm_tt 6 5 false own (.int v) := by
  intro C T N hc
  cases Option.some.inj hc
  exact ⟨⟨tyX5, tyX5_ok⟩, nmX5, rfl, (fun z => by cases z), tyX5 5, tyX5_ok 5 (by decide), rfl, rfl⟩
theorem tt_6_6 {own : String} (v : Int32) : tm_tt 6 6 false own (.int v) := by
  intro C T N hc
  cases Option.some.inj hc
  exact ⟨⟨tyX5, tyX5_ok⟩, nmX5, rfl, (fun z => by cases z), tyX5 6, tyX5_ok 6 (by decide), rfl, rfl⟩
theorem tt_6_7 {own : String} (v : Int32) : tm_tt 6 7 false own (.int v) := by
  intro C T N hc
  cases Option.some.inj hc
  exact ⟨⟨tyX5, tyX5_ok⟩, nmX5, rfl, (fun z => by cases z), tyX5 7, tyX5_ok 7 (by decide), rfl, rfl⟩
theorem tt_7_0 {own : String} (v : Int32) : tm_tt 7 0 false own (.int v) := by
  intro C T N hc
  cases Option.some.inj hc
  exact ⟨⟨tyX6, tyX6_ok⟩, nmX6, rfl, (fun z => by cases z), tyX6 0, tyX6_ok 0 (by decide), rfl, rfl⟩
theorem tt_7_1 {own : String} (v : Int32) : tm_tt 7 1 false own (.int v) := by
  intro C T N hc
  cases Option.some.inj hc
  exact ⟨⟨tyX6, tyX6_ok⟩, nmX6, rfl, (fun z => by cases z), tyX6 1, tyX6_ok 1 (by decide), rfl, rfl⟩
theorem tt_7_2 (a : Nat) : tm_tt 7 2 true RX6 (.ref a) := by
  intro C T N hc
  cases Option.some.inj hc
  exact ⟨⟨tyX6, tyX6_ok⟩, nmX6, rfl, fun _ => rfl, tyX6 2, tyX6_ok 2 (by decide), rfl, rfl⟩
theorem tt_7_2_n : tm_tt 7 2 true RX6 .null := by
  intro C T N hc
  cases Option.some.inj hc
  exact ⟨⟨tyX6, tyX6_ok⟩, nmX6, rfl, fun _ => rfl, tyX6 2, tyX6_ok 2 (by decide), rfl, rfl⟩
theorem tt_7_3 {own : String} (v : Int32) : tm_tt 7 3 false own (.int v) := by
  intro C T N hc
  cases Option.some.inj hc
  exact ⟨⟨tyX6, tyX6_ok⟩, nmX6, rfl, (fun z => by cases z), tyX6 3, tyX6_ok 3 (by decide), rfl, rfl⟩
theorem tt_7_4 (a : Nat) : tm_tt 7 4 true RX6 (.ref a) := by
  intro C T N hc
  cases Option.some.inj hc
  exact ⟨⟨tyX6, tyX6_ok⟩, nmX6, rfl, fun _ => rfl, tyX6 4, tyX6_ok 4 (by decide), rfl, rfl⟩
theorem tt_7_4_n : tm_tt 7 4 true RX6 .null := by
  intro C T N hc
  cases Option.some.inj hc
  exact ⟨⟨tyX6, tyX6_ok⟩, nmX6, rfl, fun _ => rfl, tyX6 4, tyX6_ok 4 (by decide), rfl, rfl⟩
theorem tt_7_5 {own : String} (v : Int32) : tm_tt 7 5 false own (.int v) := by
  intro C T N hc
  cases Option.some.inj hc
  exact ⟨⟨tyX6, tyX6_ok⟩, nmX6, rfl, (fun z => by cases z), tyX6 5, tyX6_ok 5 (by decide), rfl, rfl⟩
theorem tt_7_6 (a : Nat) : tm_tt 7 6 true RX6 (.ref a) := by
  intro C T N hc
  cases Option.some.inj hc
  exact ⟨⟨tyX6, tyX6_ok⟩, nmX6, rfl, fun _ => rfl, tyX6 6, tyX6_ok 6 (by decide), rfl, rfl⟩
theorem tt_7_6_n : tm_tt 7 6 true RX6 .null := by
  intro C T N hc
  cases Option.some.inj hc
  exact ⟨⟨tyX6, tyX6_ok⟩, nmX6, rfl, fun _ => rfl, tyX6 6, tyX6_ok 6 (by decide), rfl, rfl⟩
theorem tt_7_7 (a : Nat) : tm_tt 7 7 true RX6 (.ref a) := by
  intro C T N hc
  cases Option.some.inj hc
  exact ⟨⟨tyX6, tyX6_ok⟩, nmX6, rfl, fun _ => rfl, tyX6 7, tyX6_ok 7 (by decide), rfl, rfl⟩
theorem tt_7_7_n : tm_tt 7 7 true RX6 .null := by
  intro C T N hc
  cases Option.some.inj hc
  exact ⟨⟨tyX6, tyX6_ok⟩, nmX6, rfl, fun _ => rfl, tyX6 7, tyX6_ok 7 (by decide), rfl, rfl⟩
theorem tt_7_8 {own : String} (v : Int32) : tm_tt 7 8 false own (.int v) := by
  intro C T N hc
  cases Option.some.inj hc
  exact ⟨⟨tyX6, tyX6_ok⟩, nmX6, rfl, (fun z => by cases z), tyX6 8, tyX6_ok 8 (by decide), rfl, rfl⟩
theorem tt_7_9 {own : String} (v : Int32) : tm_tt 7 9 false own (.int v) := by
  intro C T N hc
  cases Option.some.inj hc
  exact ⟨⟨tyX6, tyX6_ok⟩, nmX6, rfl, (fun z => by cases z), tyX6 9, tyX6_ok 9 (by decide), rfl, rfl⟩
theorem tt_7_10 {own : String} (v : Int32) : tm_tt 7 10 false own (.int v) := by
  intro C T N hc
  cases Option.some.inj hc
  exact ⟨⟨tyX6, tyX6_ok⟩, nmX6, rfl, (fun z => by cases z), tyX6 10, tyX6_ok 10 (by decide), rfl, rfl⟩
theorem tt_7_11 (a : Nat) : tm_tt 7 11 true RX6 (.ref a) := by
  intro C T N hc
  cases Option.some.inj hc
  exact ⟨⟨tyX6, tyX6_ok⟩, nmX6, rfl, fun _ => rfl, tyX6 11, tyX6_ok 11 (by decide), rfl, rfl⟩
theorem tt_7_11_n : tm_tt 7 11 true RX6 .null := by
  intro C T N hc
  cases Option.some.inj hc
  exact ⟨⟨tyX6, tyX6_ok⟩, nmX6, rfl, fun _ => rfl, tyX6 11, tyX6_ok 11 (by decide), rfl, rfl⟩
theorem tt_7_12 (a : Nat) : tm_tt 7 12 true RX6 (.ref a) := by
  intro C T N hc
  cases Option.some.inj hc
  exact ⟨⟨tyX6, tyX6_ok⟩, nmX6, rfl, fun _ => rfl, tyX6 12, tyX6_ok 12 (by decide), rfl, rfl⟩
theorem tt_7_12_n : tm_tt 7 12 true RX6 .null := by
  intro C T N hc
  cases Option.some.inj hc
  exact ⟨⟨tyX6, tyX6_ok⟩, nmX6, rfl, fun _ => rfl, tyX6 12, tyX6_ok 12 (by decide), rfl, rfl⟩
theorem tt_7_13 {own : String} (v : Int32) : tm_tt 7 13 false own (.int v) := by
  intro C T N hc
  cases Option.some.inj hc
  exact ⟨⟨tyX6, tyX6_ok⟩, nmX6, rfl, (fun z => by cases z), tyX6 13, tyX6_ok 13 (by decide), rfl, rfl⟩
theorem tt_7_14 {own : String} (v : Int32) : tm_tt 7 14 false own (.int v) := by
  intro C T N hc
  cases Option.some.inj hc
  exact ⟨⟨tyX6, tyX6_ok⟩, nmX6, rfl, (fun z => by cases z), tyX6 14, tyX6_ok 14 (by decide), rfl, rfl⟩
theorem l_X0_10 : (Cond.fieldLink "TimberList$Board" (10 : Nat) "TimberList$Board" "defects" "Ljava/util/ArrayList;") ∈ ALL := tm_in3 192 rfl rfl
theorem l_X0_16 : (Cond.fieldLink "TimberList$Board" (16 : Nat) "TimberList$Board" "cutPieces" "Ljava/util/ArrayList;") ∈ ALL := tm_in3 193 rfl rfl
theorem l_X0_19 : (Cond.fieldLink "TimberList$Board" (19 : Nat) "TimberList$Board" "length" "I") ∈ ALL := tm_in3 187 rfl rfl
theorem l_X0_23 : (Cond.fieldLink "TimberList$Board" (23 : Nat) "TimberList$Board" "width" "I") ∈ ALL := tm_in3 189 rfl rfl
theorem l_X0_26 : (Cond.fieldLink "TimberList$Board" (26 : Nat) "TimberList$Board" "grade" "I") ∈ ALL := tm_in3 191 rfl rfl
theorem l_X1_7 : (Cond.fieldLink "TimberList$Cutting" (7 : Nat) "TimberList$Cutting" "part" "LTimberList$Part;") ∈ ALL := tm_in1 196 rfl rfl
theorem l_X1_13 : (Cond.fieldLink "TimberList$Cutting" (13 : Nat) "TimberList$Cutting" "first" "LTimberList$Piece;") ∈ ALL := tm_in1 198 rfl rfl
theorem l_X1_17 : (Cond.fieldLink "TimberList$Cutting" (17 : Nat) "TimberList$Cutting" "second" "LTimberList$Piece;") ∈ ALL := tm_in1 200 rfl rfl
theorem l_X2_7 : (Cond.fieldLink "TimberList$Defect" (7 : Nat) "TimberList$Defect" "from" "I") ∈ ALL := tm_in3 234 rfl rfl
theorem l_X2_13 : (Cond.fieldLink "TimberList$Defect" (13 : Nat) "TimberList$Defect" "to" "I") ∈ ALL := tm_in3 236 rfl rfl
theorem l_X2_16 : (Cond.fieldLink "TimberList$Defect" (16 : Nat) "TimberList$Defect" "grade" "I") ∈ ALL := tm_in3 238 rfl rfl
theorem l_X3_7 : (Cond.fieldLink "TimberList$Part" (7 : Nat) "TimberList$Part" "number" "I") ∈ ALL := tm_in4 25 rfl rfl
theorem l_X3_13 : (Cond.fieldLink "TimberList$Part" (13 : Nat) "TimberList$Part" "length" "I") ∈ ALL := tm_in4 28 rfl rfl
theorem l_X3_16 : (Cond.fieldLink "TimberList$Part" (16 : Nat) "TimberList$Part" "width" "I") ∈ ALL := tm_in4 31 rfl rfl
theorem l_X3_19 : (Cond.fieldLink "TimberList$Part" (19 : Nat) "TimberList$Part" "grade" "I") ∈ ALL := tm_in4 34 rfl rfl
theorem l_X3_22 : (Cond.fieldLink "TimberList$Part" (22 : Nat) "TimberList$Part" "canBeJoined" "Z") ∈ ALL := tm_in4 37 rfl rfl
theorem l_X4_7 : (Cond.fieldLink "TimberList$Piece" (7 : Nat) "TimberList$Piece" "part" "LTimberList$Part;") ∈ ALL := tm_in1 170 rfl rfl
theorem l_X4_13 : (Cond.fieldLink "TimberList$Piece" (13 : Nat) "TimberList$Piece" "board" "LTimberList$Board;") ∈ ALL := tm_in1 172 rfl rfl
theorem l_X4_17 : (Cond.fieldLink "TimberList$Piece" (17 : Nat) "TimberList$Piece" "from" "I") ∈ ALL := tm_in1 174 rfl rfl
theorem l_X4_21 : (Cond.fieldLink "TimberList$Piece" (21 : Nat) "TimberList$Piece" "to" "I") ∈ ALL := tm_in1 177 rfl rfl
theorem l_X4_24 : (Cond.fieldLink "TimberList$Piece" (24 : Nat) "TimberList$Piece" "isJoined" "Z") ∈ ALL := tm_in1 180 rfl rfl
theorem l_X5_10 : (Cond.fieldLink "TimberList" (10 : Nat) "TimberList" "boards" "Ljava/util/ArrayList;") ∈ ALL := tm_in1 64 rfl rfl
theorem l_X5_16 : (Cond.fieldLink "TimberList" (16 : Nat) "TimberList" "parts" "Ljava/util/ArrayList;") ∈ ALL := tm_in1 65 rfl rfl
theorem l_X5_19 : (Cond.fieldLink "TimberList" (19 : Nat) "TimberList" "planningOrder" "Ljava/util/ArrayList;") ∈ ALL := tm_in1 66 rfl rfl
theorem l_X5_22 : (Cond.fieldLink "TimberList" (22 : Nat) "TimberList" "cuttings" "Ljava/util/ArrayList;") ∈ ALL := tm_in1 67 rfl rfl
theorem l_X5_25 : (Cond.fieldLink "TimberList" (25 : Nat) "TimberList" "bestSums" "[I") ∈ ALL := tm_in1 68 rfl rfl
theorem l_X6_9 : (Cond.fieldLink "TimberListModel" (9 : Nat) "TimberListModel" "wood" "[I") ∈ ALL := tm_in5 28 rfl rfl
theorem l_X6_13 : (Cond.fieldLink "TimberListModel" (13 : Nat) "TimberListModel" "flaws" "[I") ∈ ALL := tm_in5 30 rfl rfl
theorem l_X6_16 : (Cond.fieldLink "TimberListModel" (16 : Nat) "TimberListModel" "wants" "[I") ∈ ALL := tm_in5 32 rfl rfl
theorem l_X6_19 : (Cond.fieldLink "TimberListModel" (19 : Nat) "TimberListModel" "mayBeJoined" "[Z") ∈ ALL := tm_in5 33 rfl rfl
theorem l_X6_30 : (Cond.fieldLink "TimberListModel" (30 : Nat) "TimberListModel" "cuts" "[I") ∈ ALL := tm_in5 37 rfl rfl
theorem l_X6_33 : (Cond.fieldLink "TimberListModel" (33 : Nat) "TimberListModel" "areJoined" "[Z") ∈ ALL := tm_in5 38 rfl rfl
