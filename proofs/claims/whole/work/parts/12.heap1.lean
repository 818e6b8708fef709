/-! Heap rows over the plain world. -/
abbrev tm_G (x : tmX) (Ω : tmO) : Heap → Prop := tm_hol (tm_D x) (tm_Fz x) Ω
def tm_f (own : String) (idx ci k : Nat) : Prop := ∃ (C ref : String) (T : u_T) (N : Nat), classes[ci]? = some (C, T, N) ∧ (∀ w ∈ u_ws C T N, w ∈ ALL) ∧ k < N ∧ (Cond.fieldLink own idx ref (T k).2.1 (T k).2.2.1 ∈ ALL ∨ ∃ host, Cond.fieldLinkNest own idx ref (T k).2.1 (T k).2.2.1 host ∈ NW) ∧ ((T k).1 = ref ∨ Cond.sameField ref (T k).1 (T k).2.1 (T k).2.2.1 ∈ ALL)
def tm_tt (ci k : Nat) (fin : Bool) (own : String) (v : Value) : Prop := ∀ (C : String) (T : u_T) (N : Nat), classes[ci]? = some (C, T, N) → (∃ ty0 : Nat → FieldType, ∀ k, k < N → parseFieldDescriptor (T k).2.2.1 = some (ty0 k)) ∧ (∀ a, a < N → ∀ b, b < N → a ≠ b → (T a).2.1 ≠ (T b).2.1) ∧ (T k).2.2.2 = fin ∧ (fin = true → (T k).1 = own) ∧ ∃ ty : FieldType, parseFieldDescriptor (T k).2.2.1 = some ty ∧ narrow ty v = v ∧ fits ty v = true
/-- a new object: its class, its blank fields -/
def tm_nw9 (own : String) (idx ci : Nat) (fs : List Value) : Prop := ∃ (C : String) (T : u_T) (N : Nat) (ty : Nat → FieldType), classes[ci]? = some (C, T, N) ∧ (∀ w ∈ u_ws C T N, w ∈ ALL) ∧ (∀ k, k < N → parseFieldDescriptor (T k).2.2.1 = some (ty k)) ∧ Cond.classLink own idx C ∈ ALL ∧ Cond.instantiable C N ∈ ALL ∧ Cond.initialized C ∈ ALL ∧ fs.length = N ∧ ∀ j, j < N → defaultValue (ty j) = vp_V fs j
def tm_ai (T : ClassId × ClassId × ClassId × ClassId) (n : Nat) (g : Int → Int) : va_E := .inl (T.1, n, .inl (fun j => I (g j)))
def tm_az (T : ClassId × ClassId × ClassId × ClassId) (n : Nat) (g : Int → Int) : va_E := .inl (T.2.1, n, .inl (fun j => I (g j)))
def tm_al (T : ClassId × ClassId × ClassId × ClassId) (n : Nat) (g : Nat → Int64) : va_E := .inl (T.2.2.1, n, .inr (.inl g))
def tm_ao (T : ClassId × ClassId × ClassId × ClassId) (n : Nat) (g : Nat → Option Nat) : va_E := .inl (T.2.2.2, n, .inr (.inr (.inr (.inr g))))
def tm_ui (g : Int → Int) (i v : Int) : Int → Int := fun j => if j = i then v else g j
theorem tm_ui_s {g : Int → Int} {i v : Int} : tm_ui g i v i = v := if_pos rfl
theorem tm_ui_n {g : Int → Int} {i j v : Int} (h : j ≠ i) : tm_ui g i v j = g j := if_neg h
theorem tm_upd {g : Int → Int} {i v : Int} (hi : 0 ≤ i) : upd (fun j : Nat => I (g j)) i.toNat (I v) = fun j : Nat => I (tm_ui g i v j) := by
  funext j
  by_cases h : j = i.toNat
  · subst h
    rw [show ((i.toNat : Nat) : Int) = i by omega, tm_ui_s]
    exact pk_us
  · rw [tm_ui_n (by omega)]
    exact pk_un h
section TMH
variable {x : tmX} {cc : ByteArray} {own : String} {ret : Option FieldType} {b n pc : Nat} {L : List (Nat × Value)} {st : List Value} {Ω : tmO} {a : Nat}
theorem tm_same {ref o nm d : String} (hC : tm_C x cc own ret) (h : o = ref ∨ Cond.sameField ref o nm d ∈ ALL) : ∀ z, (tm_st x).fieldFound? o nm d = some z → (tm_st x).fieldFound? ref nm d = some z := by
  intro z hz
  rcases h with h | h
  · rw [← h]; exact hz
  · exact u_same (tm_CW hC h) z hz
theorem tm_getf1 {idx ci k : Nat} {fs : List Value} {v : Value} (hC : tm_C x cc own ret) (hf : tm_f own idx ci k) (ha : Ω a = some (.inr (ci, fs))) (hv : fs[k]? = some v) (hd : decode cc pc = .ok (.getfield idx, 3)) (kk : tm_V x (tm_G x Ω) b n (pc + 3) L (v :: st)) : tm_V x (tm_G x Ω) b n pc L (.ref a :: st) := by
  intro H locs ls cells slots h1 h2 hS hG hl
  obtain ⟨C, ref, T, N, hc, hin, hk, hlk, hsm⟩ := hf
  have kk := kk H locs ls cells slots h1 h2 hS hG hl
  obtain ⟨Lw, hL, hP, hD⟩ := hG
  obtain ⟨q0, hq⟩ := tm_hol_get hL ha
  rcases hlk with hlk | ⟨host, hlk⟩
  · exact va_get hC.1 hC.2.1 hC.2.2.2.2.1 hin hC.2.2.2.1 (tm_CK hC) hP q0 hq hc k hk (tm_CW hC hlk) (tm_same hC hsm) hv hd kk
  · exact va_getN hC.1 hC.2.1 hC.2.2.2.2.1 hin hC.2.2.2.1 (tm_CK hC) hP q0 hq hc k hk (va_Nw.use rfl (tm_CN hC hlk)) (tm_same hC hsm) hv hd kk
theorem tm_putf1 {idx ci k : Nat} {fs : List Value} {v : Value} (hC : tm_C x cc own ret) (hf : tm_f own idx ci k) (ha : Ω a = some (.inr (ci, fs))) (ht : tm_tt ci k false own v) (hl9 : k < fs.length) (hd : decode cc pc = .ok (.putfield idx, 3)) (kk : tm_V x (tm_G x (tm_up Ω a (.inr (ci, fs.set k v)))) b n (pc + 3) L st) : tm_V x (tm_G x Ω) b n pc L (v :: .ref a :: st) := by
  intro H locs ls cells slots h1 h2 hS hG hl
  obtain ⟨C, ref, T, N, hc, hin, hk, hlk, hsm⟩ := hf
  obtain ⟨⟨ty0, hty⟩, hnm, hfin, -, ty, hpd, hnar, hfit⟩ := ht C T N hc
  obtain ⟨Lw, hL, hP, hD⟩ := hG
  obtain ⟨q0, hq⟩ := tm_hol_get hL ha
  rcases hlk with hlk | ⟨host, hlk⟩
  · exact va_put hC.1 hC.2.1 hC.2.2.2.2.1 hin ty0 hty hnm hC.2.2.2.1 (tm_CK hC) hP hD hS q0 hq hc k hk (tm_CW hC hlk) (tm_same hC hsm) hfin hpd hnar hfit hl9 hd (fun H1 locs1 hP1 hD1 hS1 => kk H1 locs1 ls cells slots h1 h2 hS1 (tm_hol_set hL hD hq hP1 hD1) hl)
  · exact va_putN hC.1 hC.2.1 hC.2.2.2.2.1 hin ty0 hty hnm hC.2.2.2.1 (tm_CK hC) hP hD hS q0 hq hc k hk (va_Nw.use rfl (tm_CN hC hlk)) (tm_same hC hsm) hfin hpd hnar hfit hl9 hd (fun H1 locs1 hP1 hD1 hS1 => kk H1 locs1 ls cells slots h1 h2 hS1 (tm_hol_set hL hD hq hP1 hD1) hl)
theorem tm_putfF1 {idx ci k : Nat} {fs : List Value} {v : Value} (hC : tm_C x cc own ret) (hin2 : (tm_me x).name = "<init>") (hf : tm_f own idx ci k) (ha : Ω a = some (.inr (ci, fs))) (ht : tm_tt ci k true own v) (hl9 : k < fs.length) (hd : decode cc pc = .ok (.putfield idx, 3)) (hnn : ∃ (C ref : String) (T : u_T) (N : Nat), classes[ci]? = some (C, T, N) ∧ Cond.fieldLink own idx ref (T k).2.1 (T k).2.2.1 ∈ ALL ∧ (T k).1 = ref) (kk : tm_V x (tm_G x (tm_up Ω a (.inr (ci, fs.set k v)))) b n (pc + 3) L st) : tm_V x (tm_G x Ω) b n pc L (v :: .ref a :: st) := by
  intro H locs ls cells slots h1 h2 hS hG hl
  obtain ⟨C, ref, T, N, hc, hin, hk, -, -⟩ := hf
  obtain ⟨C2, ref2, T2, N2, hc2, hlk, hsm⟩ := hnn
  cases Option.some.inj (hc.symm.trans hc2)
  obtain ⟨⟨ty0, hty⟩, hnm, hfin, hown, ty, hpd, hnar, hfit⟩ := ht C T N hc
  obtain ⟨Lw, hL, hP, hD⟩ := hG
  obtain ⟨q0, hq⟩ := tm_hol_get hL ha
  exact va_putF hC.1 hC.2.1 hC.2.2.2.2.1 hin ty0 hty hnm hC.2.2.2.1 (tm_CK hC) hP hD hS q0 hq hc k hk (tm_CW hC hlk) (tm_same hC (Or.inl hsm)) hfin hin2 (hown rfl) hpd hnar hfit hl9 hd (fun H1 locs1 hP1 hD1 hS1 => kk H1 locs1 ls cells slots h1 h2 hS1 (tm_hol_set hL hD hq hP1 hD1) hl)
theorem tm_lt0 {H : Heap} {locs : List Loc} (hC : tm_C x cc own ret) : ∀ q, (tm_st x).heap.size ≤ q → ¬ tm_Fz x q := fun q h z => absurd (hC.2.2.2.2.2.2.2.2.2.2.2.2.2.2 q z) (by omega)
theorem tm_new1 {idx ci : Nat} {fs : List Value} (hC : tm_C x cc own ret) (hnw : tm_nw9 own idx ci fs) (hd : decode cc pc = .ok (.new idx, 3)) (kk : ∀ q, Ω q = none → tm_V x (tm_G x (tm_up Ω q (.inr (ci, fs)))) b n (pc + 3) L (.ref q :: st)) : tm_V x (tm_G x Ω) (1 + b) (fs.length + n) pc L st := by
  intro H locs ls cells slots h1 h2 hS hG hl
  obtain ⟨C, T, N, ty, hc, hin, hty, hcl, hins, hini, hN, hfs⟩ := hnw
  subst hN
  obtain ⟨Lw, hL, hP, hD⟩ := hG
  refine va_new hC.1 hC.2.1 hC.2.2.2.2.1 hin ty hty hC.2.2.2.1 (tm_CW hC hcl) (tm_CW hC hins) (tm_CW hC hini) (tm_CK hC) hP hD hS (tm_lt0 (H := H) (locs := locs) hC) hc hfs (by show cells + 1 ≤ (tm_R x).cells; omega) (by show slots + _ ≤ (tm_R x).slots; omega) hd (fun q H1 hP1 hD1 hS1 => ?_)
  obtain ⟨hh, hn⟩ := tm_hol_push hL hP1 hD1
  exact kk q hn H1 locs ls _ _ (by omega) (by omega) hS1 hh hl
theorem tm_newi1 {k : Int} (hC : tm_C x cc own ret) (hk : 0 ≤ k ∧ k ≤ 100000) (hw : Cond.arrayClass .int ∈ ALL) (hd : decode cc pc = .ok (.newarray .int, 2)) (kk : ∀ q, Ω q = none → tm_V x (tm_G x (tm_up Ω q (tm_ai (tm_T x) k.toNat (fun _ => 0)))) b n (pc + 2) L (.ref q :: st)) : tm_V x (tm_G x Ω) (1 + b) (k.toNat + n) pc L (.int (I k) :: st) := by
  intro H locs ls cells slots h1 h2 hS hG hl
  obtain ⟨Lw, hL, hP, hD⟩ := hG
  refine va_newa (atype := .int) (ty := .int) (a0 := (k.toNat, .inl (fun _ => I 0))) hC.1 hC.2.1 (tm_CW hC hw) rfl (tm_CK hC) hP hD hS (tm_lt0 (H := H) (locs := locs) hC) (fun _ => rfl) (by rw [show (0 : Int32) = I 0 from rfl, I_lt (by omega)]; omega) (I_nat (by omega)) (by show k.toNat * 4 ≤ _; omega) (by show cells + 1 ≤ (tm_R x).cells; omega) (by show slots + _ ≤ (tm_R x).slots; omega) hd (fun q cA H1 hK1 hP1 hD1 hS1 => ?_)
  have hcA : cA = (tm_T x).1 := by
    have e1 := (hK1.2 4 _ rfl).2
    have e2 := ((tm_CK hC).2 0 _ rfl).2
    exact Option.some.inj (e1.symm.trans e2)
  subst hcA
  obtain ⟨hh, hn⟩ := tm_hol_push hL hP1 hD1
  exact kk q hn H1 locs ls _ _ (by omega) (by omega) hS1 hh hl
theorem tm_newz1 {k : Int} (hC : tm_C x cc own ret) (hk : 0 ≤ k ∧ k ≤ 100000) (hw : Cond.arrayClass .boolean ∈ ALL) (hd : decode cc pc = .ok (.newarray .boolean, 2)) (kk : ∀ q, Ω q = none → tm_V x (tm_G x (tm_up Ω q (tm_az (tm_T x) k.toNat (fun _ => 0)))) b n (pc + 2) L (.ref q :: st)) : tm_V x (tm_G x Ω) (1 + b) (k.toNat + n) pc L (.int (I k) :: st) := by
  intro H locs ls cells slots h1 h2 hS hG hl
  obtain ⟨Lw, hL, hP, hD⟩ := hG
  refine va_newa (atype := .boolean) (ty := .boolean) (a0 := (k.toNat, .inl (fun _ => I 0))) hC.1 hC.2.1 (tm_CW hC hw) rfl (tm_CK hC) hP hD hS (tm_lt0 (H := H) (locs := locs) hC) (fun _ => rfl) (by rw [show (0 : Int32) = I 0 from rfl, I_lt (by omega)]; omega) (I_nat (by omega)) (by show k.toNat * 1 ≤ _; omega) (by show cells + 1 ≤ (tm_R x).cells; omega) (by show slots + _ ≤ (tm_R x).slots; omega) hd (fun q cA H1 hK1 hP1 hD1 hS1 => ?_)
  have hcA : cA = (tm_T x).2.1 := by
    have e1 := (hK1.2 4 _ rfl).2
    have e2 := ((tm_CK hC).2 1 _ rfl).2
    exact Option.some.inj (e1.symm.trans e2)
  subst hcA
  obtain ⟨hh, hn⟩ := tm_hol_push hL hP1 hD1
  exact kk q hn H1 locs ls _ _ (by omega) (by omega) hS1 hh hl
theorem tm_newl1 {k : Int} (hC : tm_C x cc own ret) (hk : 0 ≤ k ∧ k ≤ 100000) (hw : Cond.arrayClass .long ∈ ALL) (hd : decode cc pc = .ok (.newarray .long, 2)) (kk : ∀ q, Ω q = none → tm_V x (tm_G x (tm_up Ω q (tm_al (tm_T x) k.toNat (fun _ => 0)))) b n (pc + 2) L (.ref q :: st)) : tm_V x (tm_G x Ω) (1 + b) (k.toNat + n) pc L (.int (I k) :: st) := by
  intro H locs ls cells slots h1 h2 hS hG hl
  obtain ⟨Lw, hL, hP, hD⟩ := hG
  refine va_newa (atype := .long) (ty := .long) (a0 := (k.toNat, .inr (.inl (fun _ => 0)))) hC.1 hC.2.1 (tm_CW hC hw) rfl (tm_CK hC) hP hD hS (tm_lt0 (H := H) (locs := locs) hC) (fun _ => rfl) (by rw [show (0 : Int32) = I 0 from rfl, I_lt (by omega)]; omega) (I_nat (by omega)) (by show k.toNat * 8 ≤ _; omega) (by show cells + 1 ≤ (tm_R x).cells; omega) (by show slots + _ ≤ (tm_R x).slots; omega) hd (fun q cA H1 hK1 hP1 hD1 hS1 => ?_)
  have hcA : cA = (tm_T x).2.2.1 := by
    have e1 := (hK1.2 4 _ rfl).2
    have e2 := ((tm_CK hC).2 2 _ rfl).2
    exact Option.some.inj (e1.symm.trans e2)
  subst hcA
  obtain ⟨hh, hn⟩ := tm_hol_push hL hP1 hD1
  exact kk q hn H1 locs ls _ _ (by omega) (by omega) hS1 hh hl
theorem tm_newo1 {k : Int} {idx : Nat} (hC : tm_C x cc own ret) (hk : 0 ≤ k ∧ k ≤ 100000) (hw : Cond.classLink own idx "java/lang/Object" ∈ ALL) (hd : decode cc pc = .ok (.anewarray idx, 3)) (kk : ∀ q, Ω q = none → tm_V x (tm_G x (tm_up Ω q (tm_ao (tm_T x) k.toNat (fun _ => none)))) b n (pc + 3) L (.ref q :: st)) : tm_V x (tm_G x Ω) (1 + b) (k.toNat + n) pc L (.int (I k) :: st) := by
  intro H locs ls cells slots h1 h2 hS hG hl
  obtain ⟨Lw, hL, hP, hD⟩ := hG
  refine va_newq (C := "java/lang/Object") hC.1 hC.2.1 hC.2.2.2.1 (tm_CW hC hw) hC.2.2.2.2.2.2.2.2.1.2.2.2.2 (tm_CK hC) hP hD hS (tm_lt0 (H := H) (locs := locs) hC) (by rw [show (0 : Int32) = I 0 from rfl, I_lt (by omega)]; omega) (I_nat (by omega)) (by show k.toNat * 4 ≤ _; omega) (by show cells + 1 ≤ (tm_R x).cells; omega) (by show slots + _ ≤ (tm_R x).slots; omega) hd (fun q cA H1 hK1 hP1 hD1 hS1 => ?_)
  have hcA : cA = (tm_T x).2.2.2 := by
    obtain ⟨kA, comp, -, -, -, e1⟩ := (hK1.2 4 _ rfl).2
    obtain ⟨kB, comp2, -, -, -, e2⟩ := ((tm_CK hC).2 3 _ rfl).2
    exact Option.some.inj (e1.symm.trans e2)
  subst hcA
  obtain ⟨hh, hn⟩ := tm_hol_push hL hP1 hD1
  exact kk q hn H1 locs ls _ _ (by omega) (by omega) hS1 hh hl
theorem tm_alen1 {c : ClassId} {y : vp_A} {t0 : Nat} {ty : FieldType} (hC : tm_C x cc own ret) (ha : Ω a = some (.inl (c, y))) (ht : (tm_tys (tm_T x))[t0]? = some (c, ty)) (hd : decode cc pc = .ok (.arraylength, 1)) (kk : tm_V x (tm_G x Ω) b n (pc + 1) L (.int (I y.1) :: st)) : tm_V x (tm_G x Ω) b n pc L (.ref a :: st) := by
  intro H locs ls cells slots h1 h2 hS hG hl
  have kk := kk H locs ls cells slots h1 h2 hS hG hl
  obtain ⟨Lw, hL, hP, hD⟩ := hG
  obtain ⟨q0, hq⟩ := tm_hol_get hL ha
  exact va_alen hC.1 hC.2.1 (tm_CK hC) hP q0 t0 hq ht (v := I y.1) rfl hd kk
theorem tm_alen0 (hC : tm_C x cc own ret) (hd : decode cc pc = .ok (.arraylength, 1)) (kk : tm_V x (tm_G x Ω) b n (pc + 1) L (.int (I 0) :: st)) : tm_V x (tm_G x Ω) b n pc L (.ref (tm_e0 x) :: st) := by
  intro H locs ls cells slots h1 h2 hS hG hl
  have kk := kk H locs ls cells slots h1 h2 hS hG hl
  obtain ⟨cell, g1, g2, g3, g4, g5, g6, g7⟩ := (tm_CE hC hS).2.1
  exact W.alen hC.1 hC.2.1 g1 g2 (n := I 0) (g5.trans rfl) rfl rfl hd kk
theorem tm_iald1 {i : Int} {k : Nat} {g : Int → Int} (hC : tm_C x cc own ret) (ha : Ω a = some (tm_ai (tm_T x) k g)) (hi : 0 ≤ i ∧ i < k ∧ i ≤ 2147483647) (hd : decode cc pc = .ok (.iaload, 1)) (kk : tm_V x (tm_G x Ω) b n (pc + 1) L (.int (I (g i)) :: st)) : tm_V x (tm_G x Ω) b n pc L (.int (I i) :: .ref a :: st) := by
  intro H locs ls cells slots h1 h2 hS hG hl
  have kk := kk H locs ls cells slots h1 h2 hS hG hl
  obtain ⟨Lw, hL, hP, hD⟩ := hG
  obtain ⟨q0, hq⟩ := tm_hol_get hL ha
  refine va_iald hC.1 hC.2.1 (tm_CK hC) hP q0 0 hq rfl (I_in hi) hd ?_
  rw [I_nat (by omega), show ((i.toNat : Nat) : Int) = i by omega]
  exact kk
theorem tm_iast1 {i v : Int} {k : Nat} {g : Int → Int} (hC : tm_C x cc own ret) (ha : Ω a = some (tm_ai (tm_T x) k g)) (hi : 0 ≤ i ∧ i < k ∧ i ≤ 2147483647) (hd : decode cc pc = .ok (.iastore, 1)) (kk : tm_V x (tm_G x (tm_up Ω a (tm_ai (tm_T x) k (tm_ui g i v)))) b n (pc + 1) L st) : tm_V x (tm_G x Ω) b n pc L (.int (I v) :: .int (I i) :: .ref a :: st) := by
  intro H locs ls cells slots h1 h2 hS hG hl
  obtain ⟨Lw, hL, hP, hD⟩ := hG
  obtain ⟨q0, hq⟩ := tm_hol_get hL ha
  refine va_iast hC.1 hC.2.1 (tm_CK hC) hP hD hS q0 0 hq rfl (I_in hi) hd (fun H1 locs1 hP1 hD1 hS1 => kk H1 locs1 ls cells slots h1 h2 hS1 ?_ hl)
  rw [I_nat (by omega), tm_upd hi.1] at hP1 hD1
  exact tm_hol_set hL hD hq hP1 hD1
theorem tm_zald1 {i : Int} {k : Nat} {g : Int → Int} (hC : tm_C x cc own ret) (ha : Ω a = some (tm_az (tm_T x) k g)) (hi : 0 ≤ i ∧ i < k ∧ i ≤ 2147483647) (hd : decode cc pc = .ok (.baload, 1)) (kk : tm_V x (tm_G x Ω) b n (pc + 1) L (.int (I (g i)) :: st)) : tm_V x (tm_G x Ω) b n pc L (.int (I i) :: .ref a :: st) := by
  intro H locs ls cells slots h1 h2 hS hG hl
  have kk := kk H locs ls cells slots h1 h2 hS hG hl
  obtain ⟨Lw, hL, hP, hD⟩ := hG
  obtain ⟨q0, hq⟩ := tm_hol_get hL ha
  refine va_zald hC.1 hC.2.1 (tm_CK hC) hP q0 1 hq rfl (I_in hi) hd ?_
  rw [I_nat (by omega), show ((i.toNat : Nat) : Int) = i by omega]
  exact kk
theorem tm_zast1 {i v : Int} {k : Nat} {g : Int → Int} (hC : tm_C x cc own ret) (ha : Ω a = some (tm_az (tm_T x) k g)) (hi : 0 ≤ i ∧ i < k ∧ i ≤ 2147483647) (hv : v = 0 ∨ v = 1) (hd : decode cc pc = .ok (.bastore, 1)) (kk : tm_V x (tm_G x (tm_up Ω a (tm_az (tm_T x) k (tm_ui g i v)))) b n (pc + 1) L st) : tm_V x (tm_G x Ω) b n pc L (.int (I v) :: .int (I i) :: .ref a :: st) := by
  intro H locs ls cells slots h1 h2 hS hG hl
  obtain ⟨Lw, hL, hP, hD⟩ := hG
  obtain ⟨q0, hq⟩ := tm_hol_get hL ha
  refine va_zast hC.1 hC.2.1 (tm_CK hC) hP hD hS q0 1 hq rfl (I_in hi) hd (fun H1 locs1 hP1 hD1 hS1 => kk H1 locs1 ls cells slots h1 h2 hS1 ?_ hl)
  rw [show vp_nar .boolean (I v) = I v by rcases hv with rfl | rfl <;> rfl, I_nat (by omega), tm_upd hi.1] at hP1 hD1
  exact tm_hol_set hL hD hq hP1 hD1
theorem tm_lald1 {i : Int} {k : Nat} {g : Nat → Int64} (hC : tm_C x cc own ret) (ha : Ω a = some (tm_al (tm_T x) k g)) (hi : 0 ≤ i ∧ i < k ∧ i ≤ 2147483647) (hd : decode cc pc = .ok (.laload, 1)) (kk : tm_V x (tm_G x Ω) b n (pc + 1) L (.long (g i.toNat) :: st)) : tm_V x (tm_G x Ω) b n pc L (.int (I i) :: .ref a :: st) := by
  intro H locs ls cells slots h1 h2 hS hG hl
  have kk := kk H locs ls cells slots h1 h2 hS hG hl
  obtain ⟨Lw, hL, hP, hD⟩ := hG
  obtain ⟨q0, hq⟩ := tm_hol_get hL ha
  refine va_lald hC.1 hC.2.1 (tm_CK hC) hP q0 2 hq rfl (I_in hi) hd ?_
  rw [I_nat (by omega)]
  exact kk
theorem tm_last1 {i : Int} {v : Int64} {k : Nat} {g : Nat → Int64} (hC : tm_C x cc own ret) (ha : Ω a = some (tm_al (tm_T x) k g)) (hi : 0 ≤ i ∧ i < k ∧ i ≤ 2147483647) (hd : decode cc pc = .ok (.lastore, 1)) (kk : tm_V x (tm_G x (tm_up Ω a (tm_al (tm_T x) k (vp_updL g i.toNat v)))) b n (pc + 1) L st) : tm_V x (tm_G x Ω) b n pc L (.long v :: .int (I i) :: .ref a :: st) := by
  intro H locs ls cells slots h1 h2 hS hG hl
  obtain ⟨Lw, hL, hP, hD⟩ := hG
  obtain ⟨q0, hq⟩ := tm_hol_get hL ha
  refine va_last hC.1 hC.2.1 (tm_CK hC) hP hD hS q0 2 hq rfl (I_in hi) hd (fun H1 locs1 hP1 hD1 hS1 => kk H1 locs1 ls cells slots h1 h2 hS1 ?_ hl)
  rw [I_nat (by omega)] at hP1 hD1
  exact tm_hol_set hL hD hq hP1 hD1
theorem tm_aald1 {i : Int} {k v : Nat} {g : Nat → Option Nat} (hC : tm_C x cc own ret) (ha : Ω a = some (tm_ao (tm_T x) k g)) (hi : 0 ≤ i ∧ i < k ∧ i ≤ 2147483647) (hv : g i.toNat = some v) (hd : decode cc pc = .ok (.aaload, 1)) (kk : tm_V x (tm_G x Ω) b n (pc + 1) L (.ref v :: st)) : tm_V x (tm_G x Ω) b n pc L (.int (I i) :: .ref a :: st) := by
  intro H locs ls cells slots h1 h2 hS hG hl
  have kk := kk H locs ls cells slots h1 h2 hS hG hl
  obtain ⟨Lw, hL, hP, hD⟩ := hG
  obtain ⟨q0, hq⟩ := tm_hol_get hL ha
  refine va_aldq hC.1 hC.2.1 (tm_CK hC) hP q0 3 hq rfl (I_in hi) hd ?_
  rw [I_nat (by omega), hv]
  exact kk
/-- an object that may lie in a list -/
def tm_el (Ω : tmO) (a : Nat) : Prop := ∃ (ci : Nat) (fs : List Value) (r : vw_C), Ω a = some (.inr (ci, fs)) ∧ classes[ci]? = some r ∧ Cond.castable r.1 "java/lang/Object" ∈ NW
theorem tm_any {v : Nat} {H : Heap} {Lw : List Nat} (hC : tm_C x cc own ret) (hL : ∀ a, a ∈ Lw ↔ Ω a ≠ none) (hP : va_P (tm_D x) classes (tm_wl Ω Lw) H) (h : tm_el Ω v) : va_Any "java/lang/Object" (tm_st x) H v := by
  obtain ⟨ci, fs, r, h1, h2, h3⟩ := h
  obtain ⟨q0, hq⟩ := tm_hol_get hL h1
  refine va_rAny (tm_CK hC) hP hq h2 (fun comp c0 e1 e2 => ?_)
  obtain ⟨c, t, f1, f2, f3⟩ := Cond.castable_spec (show (Cond.castable r.1 "java/lang/Object").before #[] (tm_st x) = true from tm_CN hC h3)
  cases Option.some.inj (f1.symm.trans e2)
  cases Option.some.inj (f2.symm.trans e1)
  exact f3
theorem tm_aast1 {i : Int} {k v : Nat} {g : Nat → Option Nat} (hC : tm_C x cc own ret) (ha : Ω a = some (tm_ao (tm_T x) k g)) (hi : 0 ≤ i ∧ i < k ∧ i ≤ 2147483647) (hv : tm_el Ω v) (hd : decode cc pc = .ok (.aastore, 1)) (kk : tm_V x (tm_G x (tm_up Ω a (tm_ao (tm_T x) k (va_up g i.toNat (some v))))) b n (pc + 1) L st) : tm_V x (tm_G x Ω) b n pc L (.ref v :: .int (I i) :: .ref a :: st) := by
  intro H locs ls cells slots h1 h2 hS hG hl
  obtain ⟨Lw, hL, hP, hD⟩ := hG
  obtain ⟨q0, hq⟩ := tm_hol_get hL ha
  refine va_astqM hC.1 hC.2.1 (tm_CK hC) hP hD hS q0 3 (E := "java/lang/Object") hq rfl (tm_any hC hL hP hv) (I_in hi) hd (fun H1 locs1 hP1 hD1 hS1 => kk H1 locs1 ls cells slots h1 h2 hS1 ?_ hl)
  rw [I_nat (by omega)] at hP1 hD1
  exact tm_hol_set hL hD hq hP1 hD1
theorem tm_aastN1 {i : Int} {k : Nat} {g : Nat → Option Nat} (hC : tm_C x cc own ret) (ha : Ω a = some (tm_ao (tm_T x) k g)) (hi : 0 ≤ i ∧ i < k ∧ i ≤ 2147483647) (hd : decode cc pc = .ok (.aastore, 1)) (kk : tm_V x (tm_G x (tm_up Ω a (tm_ao (tm_T x) k (va_up g i.toNat none)))) b n (pc + 1) L st) : tm_V x (tm_G x Ω) b n pc L (.null :: .int (I i) :: .ref a :: st) := by
  intro H locs ls cells slots h1 h2 hS hG hl
  obtain ⟨Lw, hL, hP, hD⟩ := hG
  obtain ⟨q0, hq⟩ := tm_hol_get hL ha
  refine va_astqN hC.1 hC.2.1 (tm_CK hC) hP hD hS q0 3 (C := "java/lang/Object") hq rfl (I_in hi) hd (fun H1 locs1 hP1 hD1 hS1 => kk H1 locs1 ls cells slots h1 h2 hS1 ?_ hl)
  rw [I_nat (by omega)] at hP1 hD1
  exact tm_hol_set hL hD hq hP1 hD1
def tm_cw (own : String) (idx : Nat) : Prop := Cond.methodLink own idx arraycopyName ∈ ALL ∧ Cond.native arraycopyName ∈ ALL ∧ Cond.static arraycopyName ∈ ALL ∧ Cond.initialized "java/lang/System" ∈ ALL
theorem tm_copy1 {idx a0 : Nat} {sp dp k : Int} {n0 n1 : Nat} {f g : Nat → Option Nat} (hC : tm_C x cc own ret) (hk : tm_cw own idx) (ha0 : Ω a0 = some (tm_ao (tm_T x) n0 f)) (ha : Ω a = some (tm_ao (tm_T x) n1 g)) (hr : 0 ≤ sp ∧ 0 ≤ dp ∧ 0 ≤ k ∧ sp + k ≤ n0 ∧ dp + k ≤ n1 ∧ n0 ≤ 100000 ∧ n1 ≤ 100000) (hel : ∀ i : Nat, i < k.toNat → ∀ y : Nat, f (sp.toNat + i) = some y → tm_el Ω y) (hR : 1 ≤ (tm_R x).frames ∧ 64 ≤ (tm_R x).locals) (hst : (st.map fun v => v.category).sum ≤ 8) (hd : decode cc pc = .ok (.invokestatic idx, 3)) (kk : tm_V x (tm_G x (tm_up Ω a (tm_ao (tm_T x) n1 (va_cpy f g sp.toNat dp.toNat k.toNat)))) b n (pc + 3) L st) : tm_V x (tm_G x Ω) b n pc L (.int (I k) :: .int (I dp) :: .ref a :: .int (I sp) :: .ref a0 :: st) := by
  intro H locs ls cells slots h1 h2 hS hG hl
  obtain ⟨Lw, hL, hP, hD⟩ := hG
  obtain ⟨q0, hq0⟩ := tm_hol_get hL ha0
  obtain ⟨q1, hq1⟩ := tm_hol_get hL ha
  have ng : ∀ z : Int, 0 ≤ z ∧ z ≤ 100000 → ¬ I z < 0 := fun z hz => by rw [show (0 : Int32) = I 0 from rfl, I_lt (by omega)]; omega
  have es : (I sp).toNatClampNeg = sp.toNat := I_nat (by omega)
  have ed : (I dp).toNatClampNeg = dp.toNat := I_nat (by omega)
  have ek : (I k).toNatClampNeg = k.toNat := I_nat (by omega)
  refine va_copyM hC.1 hC.2.1 (by rw [hl.1]; exact hC.2.2.1) hC.2.2.2.1 (tm_CW hC hk.1) (tm_CW hC hk.2.1) (tm_CW hC hk.2.2.1) (tm_CW hC hk.2.2.2) (tm_CK hC) hP hD hS q0 q1 3 3 (E0 := "java/lang/Object") (E1 := "java/lang/Object") hq0 hq1 rfl rfl (ng sp (by omega)) (ng dp (by omega)) (ng k (by omega)) (by rw [es, ek]; omega) (by rw [ed, ek]; omega) (fun i hi y hy => ?_) hR.1 ?_ hd (fun H1 locs1 hP1 hD1 hS1 => kk H1 locs1 ls cells slots h1 h2 hS1 ?_ hl)
  · rw [ek] at hi
    rw [es] at hy
    exact tm_any hC hL hP (hel i hi y hy)
  · have h8 : nativeFrameWords "java/lang/System" "arraycopy" 5 + 11 ≤ 56 := by decide
    have h9 : (st.map fun v => v.category).sum + (nativeFrameWords "java/lang/System" "arraycopy" 5 + 11) ≤ (tm_R x).locals := by omega
    exact h9
  · rw [es, ed, ek] at hP1 hD1
    exact tm_hol_set hL hD hq1 hP1 hD1
theorem tm_gets {idx : Nat} {G : Heap → Prop} (hC : tm_C x cc own ret) (hk : Cond.fieldLink own idx "java/util/ArrayList" "DEFAULTCAPACITY_EMPTY_ELEMENTDATA" "[Ljava/lang/Object;" ∈ ALL) (hd : decode cc pc = .ok (.getstatic idx, 3)) (kk : tm_V x G b n (pc + 3) L (.ref (tm_e0 x) :: st)) : tm_V x G b n pc L st := by
  intro H locs ls cells slots h1 h2 hS hG hl
  exact va_gets hC.1 hC.2.1 hC.2.2.2.2.2.2.2.2.2.1 hS hC.2.2.2.1 (tm_CW hC hk) (fun _ h => h) hd (kk H locs ls cells slots h1 h2 hS hG hl)
theorem tm_rec1 {ci : Nat} {fs : List Value} {r : vw_C} (hC : tm_C x cc own ret) (ha : Ω a = some (.inr (ci, fs))) (hc : classes[ci]? = some r) : ∀ H, tm_hol (tm_D x) (tm_Fz x) Ω H → ∃ cell : Cell, H[a]? = some cell ∧ cell.vm.isStatics = false ∧ (tm_st x).vm.findClass r.1 = some cell.cls := by
  intro H hG
  obtain ⟨Lw, hL, hP, hD⟩ := hG
  obtain ⟨q0, hq⟩ := tm_hol_get hL ha
  exact va_recv (tm_CK hC) hP hc hq
theorem tm_cast1 {idx ci : Nat} {fs : List Value} {r : vw_C} (hC : tm_C x cc own ret) (ha : Ω a = some (.inr (ci, fs))) (hc : classes[ci]? = some r) (hk : Cond.classLink own idx r.1 ∈ ALL) (hd : decode cc pc = .ok (.checkcast idx, 3)) (kk : tm_V x (tm_G x Ω) b n (pc + 3) L (.ref a :: st)) : tm_V x (tm_G x Ω) b n pc L (.ref a :: st) := by
  intro H locs ls cells slots h1 h2 hS hG hl
  have hr := tm_rec1 hC ha hc H hG
  exact va_castS hC.1 hC.2.1 hC.2.2.2.1 (tm_CW hC hk) ((tm_CK hC).1 ci r hc).2 hr hd (kk H locs ls cells slots h1 h2 hS hG hl)
theorem tm_castA1 {idx k : Nat} {g : Nat → Option Nat} (hC : tm_C x cc own ret) (ha : Ω a = some (tm_ao (tm_T x) k g)) (hk : Cond.classLink own idx "[Ljava/lang/Object;" ∈ ALL) (hd : decode cc pc = .ok (.checkcast idx, 3)) (kk : tm_V x (tm_G x Ω) b n (pc + 3) L (.ref a :: st)) : tm_V x (tm_G x Ω) b n pc L (.ref a :: st) := by
  intro H locs ls cells slots h1 h2 hS hG hl
  have kk := kk H locs ls cells slots h1 h2 hS hG hl
  obtain ⟨Lw, hL, hP, hD⟩ := hG
  obtain ⟨q0, hq⟩ := tm_hol_get hL ha
  obtain ⟨kB, comp2, -, -, -, e2⟩ := ((tm_CK hC).2 3 _ rfl).2
  exact va_castA hC.1 hC.2.1 hC.2.2.2.1 (tm_CW hC hk) hP q0 hq e2 hd kk
theorem tm_ldcM {idx : Nat} {G : Heap → Prop} (hC : tm_C x cc own ret) (hk : Cond.classLink own idx "[Ljava/lang/Object;" ∈ ALL) (hd : decode cc pc = .ok (.ldc idx, 2)) (kk : tm_V x G b n (pc + 2) L (.ref (tm_mi x) :: st)) : tm_V x G b n pc L st := by
  intro H locs ls cells slots h1 h2 hS hG hl
  exact va_ldcM hC.1 hC.2.1 hC.2.2.2.1 (tm_CW hC hk) hC.2.2.2.2.2.2.2.2.1.2.2.2.1 hd (kk H locs ls cells slots h1 h2 hS hG hl)
abbrev tm_gc : MethodName := ⟨"java/lang/Object", "getClass", "()Ljava/lang/Class;"⟩
theorem tm_getC1 {idx k : Nat} {g : Nat → Option Nat} (hC : tm_C x cc own ret) (ha : Ω a = some (tm_ao (tm_T x) k g)) (hk : Cond.methodLink own idx tm_gc ∈ ALL ∧ Cond.declares tm_gc ∈ NW ∧ Cond.selects "[Ljava/lang/Object;" tm_gc tm_gc ∈ ALL ∧ Cond.instanceMethod tm_gc ∈ ALL ∧ Cond.native tm_gc ∈ ALL) (hR : 1 ≤ (tm_R x).frames ∧ 64 ≤ (tm_R x).locals) (hst : (st.map fun v => v.category).sum ≤ 8) (hd : decode cc pc = .ok (.invokevirtual idx, 3)) (kk : tm_V x (tm_G x Ω) b n (pc + 3) L (.ref (tm_mi x) :: st)) : tm_V x (tm_G x Ω) b n pc L (.ref a :: st) := by
  intro H locs ls cells slots h1 h2 hS hG hl
  have kk := kk H locs ls cells slots h1 h2 hS hG hl
  obtain ⟨Lw, hL, hP, hD⟩ := hG
  obtain ⟨q0, hq⟩ := tm_hol_get hL ha
  obtain ⟨kB, comp2, -, -, -, e2⟩ := ((tm_CK hC).2 3 _ rfl).2
  exact va_getC hC.1 hC.2.1 (by rw [hl.1]; exact hC.2.2.1) hC.2.2.2.1 (tm_CW hC hk.1) (va_Nw.use rfl (tm_CN hC hk.2.1)) (tm_CW hC hk.2.2.1) (tm_CW hC hk.2.2.2.1) (tm_CW hC hk.2.2.2.2) hC.2.2.2.2.2.2.2.2.1.2.2.2.1 ⟨_, hP q0 _ hq, rfl, e2⟩ hR.1 (show (st.map fun v => v.category).sum + 14 ≤ (tm_R x).locals by omega) hd kk
theorem tm_mm (hC : tm_C x cc own ret) (op : Bool) {G : Heap → Prop} {idx : Nat} {u v : Int} (hk : if op then Cond.methodLink own idx Lib.Math.max.name ∈ ALL ∧ Cond.static Lib.Math.max.name ∈ ALL ∧ Cond.initialized "java/lang/Math" ∈ ALL ∧ Cond.code Lib.Math.max.name Lib.Math.max.code 2 (some .int) ∈ ALL else Cond.methodLink own idx Lib.Math.min.name ∈ ALL ∧ Cond.static Lib.Math.min.name ∈ ALL ∧ Cond.initialized "java/lang/Math" ∈ ALL ∧ Cond.code Lib.Math.min.name Lib.Math.min.code 2 (some .int) ∈ ALL)
    (h : (-2147483648 ≤ u ∧ u ≤ 2147483647) ∧ -2147483648 ≤ v ∧ v ≤ 2147483647) (hR : 1 ≤ (tm_R x).frames ∧ 64 ≤ (tm_R x).locals) (hst : (st.map fun v => v.category).sum ≤ 8) (hd : decode cc pc = .ok (.invokestatic idx, 3)) (kk : tm_V x G b n (pc + 3) L (.int (I (if op then max u v else min u v)) :: st)) : tm_V x G b n pc L (.int (I v) :: .int (I u) :: st) := by
  intro H locs ls cells slots h1 h2 hS hG hl
  have kk := kk H locs ls cells slots h1 h2 hS hG hl
  cases op
  · refine va_mmin hC.1 hC.2.1 (by rw [hl.1]; exact hC.2.2.1) hC.2.2.2.1 (tm_CW hC hk.1) (tm_CW hC hk.2.1) (tm_CW hC hk.2.2.1) (tm_CW hC hk.2.2.2) hR.1 (show (st.map fun v => v.category).sum + 13 ≤ (tm_R x).locals by omega) (show cells ≤ (tm_R x).cells by omega) (show slots ≤ (tm_R x).slots by omega) hd ?_
    have e : (if I v < I u then I v else I u) = I (min u v) := by
      by_cases c : v < u
      · rw [if_pos ((I_lt ⟨h.2, h.1⟩).mpr c), show min u v = v by omega]
      · rw [if_neg (fun z => c ((I_lt ⟨h.2, h.1⟩).mp z)), show min u v = u by omega]
    rw [e]; exact kk
  · refine va_mmax hC.1 hC.2.1 (by rw [hl.1]; exact hC.2.2.1) hC.2.2.2.1 (tm_CW hC hk.1) (tm_CW hC hk.2.1) (tm_CW hC hk.2.2.1) (tm_CW hC hk.2.2.2) hR.1 (show (st.map fun v => v.category).sum + 13 ≤ (tm_R x).locals by omega) (show cells ≤ (tm_R x).cells by omega) (show slots ≤ (tm_R x).slots by omega) hd ?_
    have e : (if I u < I v then I v else I u) = I (max u v) := by
      by_cases c : u < v
      · rw [if_pos ((I_lt h).mpr c), show max u v = v by omega]
      · rw [if_neg (fun z => c ((I_lt h).mp z)), show max u v = u by omega]
    rw [e]; exact kk
theorem tm_objInit {idx : Nat} {G : Heap → Prop} (hC : tm_C x cc own ret) (hk : Cond.methodLink own idx objectInit ∈ ALL ∧ Cond.instanceMethod objectInit ∈ ALL ∧ Cond.code objectInit ⟨#[0xb1]⟩ 1 none ∈ ALL) (hR : 1 ≤ (tm_R x).frames ∧ 64 ≤ (tm_R x).locals) (hst : (st.map fun v => v.category).sum ≤ 8) (hd : decode cc pc = .ok (.invokespecial idx, 3)) (kk : tm_V x G b n (pc + 3) L st) : tm_V x G b n pc L (.ref a :: st) := by
  intro H locs ls cells slots h1 h2 hS hG hl
  have hm : 2 * (F0 (tm_m x) pc ls (Value.ref a :: st)).monitorRoom + (st.map fun v => v.category).sum ≤ 8 := lv_room hst
  exact W.objInit hC.1 hC.2.1 hC.2.2.2.1 (tm_CW hC hk.1) (tm_CW hC hk.2.1) (tm_CW hC hk.2.2) rfl (by rw [show (tm_c x).maxLocals = _ from hC.2.2.1]; exact hl.1) rfl hd hR.1 (show 2 * (F0 (tm_m x) pc ls (Value.ref a :: st)).monitorRoom + (st.map fun v => v.category).sum + 12 ≤ (tm_R x).locals by omega) (kk H locs ls cells slots h1 h2 hS hG hl)
end TMH
