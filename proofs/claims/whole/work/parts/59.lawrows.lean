/-! The law's rows: its script, its world: class, reference, the array of answers. -/
def sx (xs : Nat → Int32) (j : Int) : Int := (xs j.toNat).toInt
theorem sx_rg (xs : Nat → Int32) (j : Int) : -2147483648 ≤ sx xs j ∧ sx xs j ≤ 2147483647 := I_rg _
theorem m31 (y : Int32) : 0 ≤ (y &&& 31).toInt ∧ (y &&& 31).toInt ≤ 31 := by
  have h1 : (y &&& 31).toBitVec.toNat ≤ 31 := by
    rw [Int32.toBitVec_and, BitVec.toNat_and]
    exact Nat.and_le_right
  have h2 : (y &&& 31).toInt = ((y &&& 31).toBitVec.toNat : Int) := by
    show (y &&& 31).toBitVec.toInt = _
    rw [BitVec.toInt_eq_toNat_of_lt (by omega)]
  omega
def tm_sc (x : tmX) (sb L : Nat) (xs : Nat → Int32) : Prop := va_X sb L xs (tm_st x) (tm_st x).heap ∧ sb < (tm_st x).heap.size ∧ tm_Fz x sb ∧ L ≤ 3584
def dcv (u v : UInt64) : Int := (Op.cmpValue (FP.dcmp u v) .l).toInt
section TML9
variable {x : tmX} {cc : ByteArray} {own : String} {ret : Option FieldType} {G : Heap → Prop} {b n pc : Nat} {L : List (Nat × Value)} {st : List Value}
theorem tm_sld {sb l : Nat} {xs : Nat → Int32} {j : Int} (hC : tm_C x cc own ret) (hX : tm_sc x sb l xs) (hj : 0 ≤ j ∧ j < l) (hd : decode cc pc = .ok (.iaload, 1)) (k : tm_V x G b n (pc + 1) L (.int (I (sx xs j)) :: st)) : tm_V x G b n pc L (.int (I j) :: .ref sb :: st) := by
  intro H locs ls cells slots h1 h2 hS hG hl
  have hL := hX.2.2.2
  refine va_sld hC.1 hC.2.1 hX.1 hX.2.1 (fun z => z hX.2.2.1) hS (I_in (by omega)) hd ?_
  rw [I_nat (by omega), I_of (xs j.toNat)]
  exact k H locs ls cells slots h1 h2 hS hG hl
theorem tm_slen {sb l : Nat} {xs : Nat → Int32} (hC : tm_C x cc own ret) (hX : tm_sc x sb l xs) (hd : decode cc pc = .ok (.arraylength, 1)) (k : tm_V x G b n (pc + 1) L (.int (I (l : Int)) :: st)) : tm_V x G b n pc L (.ref sb :: st) := by
  intro H locs ls cells slots h1 h2 hS hG hl
  refine va_slen hC.1 hC.2.1 hX.1 hX.2.1 (fun z => z hX.2.2.1) hS hd ?_
  exact k H locs ls cells slots h1 h2 hS hG hl
theorem tm_land {v : Int} (hC : tm_C x cc own ret) (hd : decode cc pc = .ok (.iand, 1)) (k : ∀ t : Int, 0 ≤ t ∧ t ≤ 31 → tm_V x G b n (pc + 1) L (.int (I t) :: st)) : tm_V x G b n pc L (.int (I 31) :: .int (I v) :: st) := by
  refine tm_iand hC hd ?_
  rw [I_of (I v &&& I 31)]
  exact k _ (m31 (I v))
theorem tm_lcmpE {u v : Int64} (h : u = v) (hC : tm_C x cc own ret) (hd : decode cc pc = .ok (.lcmp, 1)) (k : tm_V x G b n (pc + 1) L (.int (I 0) :: st)) : tm_V x G b n pc L (.long v :: .long u :: st) := by
  subst h
  refine tm_lcmp hC hd ?_
  rw [if_neg (fun z => absurd z (Int64.lt_irrefl)), if_pos (by simp)]
  exact k
theorem tm_dcmp {u v : UInt64} (hC : tm_C x cc own ret) (hd : decode cc pc = .ok (.dcmp .l, 1)) (k : tm_V x G b n (pc + 1) L (.int (I (dcv u v)) :: st)) : tm_V x G b n pc L (.double v :: .double u :: st) :=
  fun H locs ls cells slots h1 h2 hS hG hl => lv_dcmp hC.1 hC.2.1 hd (by rw [I_of (Op.cmpValue _ _)]; exact k H locs ls cells slots h1 h2 hS hG hl)
end TML9
theorem dcv_rg (u v : UInt64) : -2147483648 ≤ dcv u v ∧ dcv u v ≤ 2147483647 := I_rg _
def oW (T : ClassId × ClassId × ClassId × ClassId) (o : Nat) (f : Nat → Int64) : tmL := tm_u2 (fun _ => none) o (tm_al T 1 f)
theorem oW_o {T : ClassId × ClassId × ClassId × ClassId} {o : Nat} {f : Nat → Int64} : oW T o f o = some (.inl (tm_al T 1 f)) := tm_u2_s
theorem oW_u {T : ClassId × ClassId × ClassId × ClassId} {o : Nat} {f g : Nat → Int64} : tm_u2 (oW T o f) o (tm_al T 1 g) = oW T o g := tm_u2_2
theorem oW_ok {T : ClassId × ClassId × ClassId × ClassId} {o : Nat} {f : Nat → Int64} : okL (oW T o f) := by
  intro a ys ha
  by_cases h : a = o
  · subst h; rw [oW_o] at ha; cases ha
  · have h2 : oW T o f a = none := tm_u2_n h
    rw [h2] at ha; cases ha
theorem oW_dj {T : ClassId × ClassId × ClassId × ClassId} {o : Nat} {f : Nat → Int64} {Λ : tmL} (h : Λ o = none) : dj Λ (oW T o f) := by
  intro a
  by_cases e : a = o
  · subst e; exact Or.inl h
  · exact Or.inr (tm_u2_n e)
/-- class, reference, answers: apart -/
def LW (T : ClassId × ClassId × ClassId × ClassId) (o : Nat) (w Λ1 Λ2 : tmL) (f : Nat → Int64) : Prop := dj Λ1 Λ2 ∧ Λ1 o = none ∧ Λ2 o = none ∧ okL Λ1 ∧ okL Λ2 ∧ w = un Λ1 (un Λ2 (oW T o f))
section LWS
variable {T : ClassId × ClassId × ClassId × ClassId} {o : Nat} {w w' Λ1 Λ2 Λ' : tmL} {f g : Nat → Int64}
theorem LW_c (h : LW T o w Λ1 Λ2 f) : w = un Λ1 (un Λ2 (oW T o f)) ∧ dj Λ1 (un Λ2 (oW T o f)) ∧ okL Λ1 ∧ okL (un Λ2 (oW T o f)) ∧ (un Λ2 (oW T o f)) o = some (.inl (tm_al T 1 f)) := by
  obtain ⟨h1, h2, h3, h4, h5, h6⟩ := h
  exact ⟨h6, dj_s (dj_un (dj_s h1) (dj_s (oW_dj h2))), h4, okL_un (oW_dj h3) h5 oW_ok, un_2 (oW_dj h3) oW_o⟩
theorem LW_cc (h : LW T o w Λ1 Λ2 f) (hd : dj Λ' (un Λ2 (oW T o f))) (ok : okL Λ') (e : un Λ' (un Λ2 (oW T o f)) = w') : LW T o w' Λ' Λ2 f := by
  obtain ⟨h1, h2, h3, h4, h5, h6⟩ := h
  have hd1 : dj Λ' Λ2 := dj_s (dj_l (dj_s hd))
  have hd2 : dj Λ' (oW T o f) := dj_s (dj_r (oW_dj h3) (dj_s hd))
  refine ⟨hd1, ?_, h3, ok, h5, e.symm⟩
  rcases hd2 o with z | z
  · exact z
  · rw [oW_o] at z; cases z
theorem LW_ch (h : LW T o w Λ1 Λ2 f) (hd : dj Λ' (tm_u2 (un Λ2 (oW T o f)) o (tm_al T 1 g))) (ok : okL Λ') (e : un Λ' (tm_u2 (un Λ2 (oW T o f)) o (tm_al T 1 g)) = w') : LW T o w' Λ' Λ2 g := by
  have h3 := h.2.2.1
  rw [un_u2 h3, oW_u] at hd e
  have hb : LW T o (un Λ1 (un Λ2 (oW T o g))) Λ1 Λ2 g := ⟨h.1, h.2.1, h3, h.2.2.2.1, h.2.2.2.2.1, rfl⟩
  exact LW_cc hb hd ok e
theorem LW_m (h : LW T o w Λ1 Λ2 f) : w = un Λ2 (un Λ1 (oW T o f)) ∧ dj Λ2 (un Λ1 (oW T o f)) ∧ okL Λ2 ∧ okL (un Λ1 (oW T o f)) := by
  obtain ⟨h1, h2, h3, h4, h5, h6⟩ := h
  exact ⟨by rw [h6, ← un_assoc, ← un_assoc, un_comm h1], dj_s (dj_un h1 (dj_s (oW_dj h3))), h5, okL_un (oW_dj h2) h4 oW_ok⟩
theorem LW_mm (h : LW T o w Λ1 Λ2 f) (hd : dj Λ' (un Λ1 (oW T o f))) (ok : okL Λ') (e : un Λ' (un Λ1 (oW T o f)) = w') : LW T o w' Λ1 Λ' f := by
  obtain ⟨h1, h2, h3, h4, h5, h6⟩ := h
  have hd1 : dj Λ' Λ1 := dj_s (dj_l (dj_s hd))
  have hd2 : dj Λ' (oW T o f) := dj_s (dj_r (oW_dj h2) (dj_s hd))
  have ho : Λ' o = none := by
    rcases hd2 o with z | z
    · exact z
    · rw [oW_o] at z; cases z
  exact ⟨dj_s hd1, h2, ho, h4, ok, by rw [← e, ← un_assoc, ← un_assoc, un_comm hd1]⟩
end LWS
/-- the law's state between two calls -/
def LwS (x : tmX) (o ko : Nat) (ρ : Nat → Nat) (w : tmL) (σ : ST) : Prop := WF σ ∧ ∃ Λ1 Λ2 f κ th sf se, LW (tm_T x) o w Λ1 Λ2 f ∧ (RC (tm_T x) Λ1 κ σ ∧ grp (s_aj σ) (s_cu σ) (k_cs κ) 0 (s_nm σ) ∧ k_o κ = ko) ∧ RM (tm_T x) Λ2 ρ th sf se σ
/-- the law's walk: everything that stays through it -/
def LwC (x : tmX) (sb l : Nat) (xs : Nat → Int32) : Prop := (tm_C x cL_law RL (some .boolean) ∧ (True ∧ tm_nL x = 9 ∧ tm_R x = room_1 ∧ True)) ∧ (tm_g x).1.stackTraces = false ∧ tm_Nc (tm_st x) ∧ tm_sc x sb l xs
