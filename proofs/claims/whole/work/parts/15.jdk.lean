theorem tm_ishr1 {x : tmX} {cc : ByteArray} {own : String} {ret : Option FieldType} {G : Heap → Prop} {b n pc : Nat} {L : List (Nat × Value)} {st : List Value} {u : Int} (hC : tm_C x cc own ret) (hd : decode cc pc = .ok (.ishr, 1)) (h : 0 ≤ u ∧ u ≤ 2147483647) (k : tm_V x G b n (pc + 1) L (.int (I (u / 2)) :: st)) : tm_V x G b n pc L (.int (I 1) :: .int (I u) :: st) := by
  intro H locs ls cells slots h1 h2 hS hG hl
  have e0 : ∀ z : Int, 0 ≤ z ∧ z ≤ 2147483647 → I z = nI z.toNat := fun z hz => by rw [← Int32.toInt_inj, I_toInt (by omega), nI_toInt (by omega)]; omega
  have e : I u >>> ((I 1) &&& 31) = I (u / 2) := by
    rw [e0 u h, e0 (u / 2) (by omega), pk_shrN (by omega) ((I 1) &&& 31) 1 (by decide)]
    congr 1
    omega
  refine lv_ishr hC.1 hC.2.1 hd ?_
  rw [e]
  exact k H locs ls cells slots h1 h2 hS hG hl
theorem tm_up_up {Ω : tmO} {a : Nat} {e e' : va_E} : tm_up (tm_up Ω a e) a e' = tm_up Ω a e' := by
  funext b
  by_cases h : b = a
  · subst h; rw [tm_up_s, tm_up_s]
  · rw [tm_up_n h, tm_up_n h, tm_up_n h]
theorem tm_up_c {Ω : tmO} {a c : Nat} {e e' : va_E} (h : a ≠ c) : tm_up (tm_up Ω a e) c e' = tm_up (tm_up Ω c e') a e := by
  funext b
  by_cases h1 : b = a
  · subst h1; rw [tm_up_n h, tm_up_s, tm_up_s]
  · by_cases h2 : b = c
    · subst h2; rw [tm_up_s, tm_up_n h1, tm_up_s]
    · rw [tm_up_n h2, tm_up_n h1, tm_up_n h1, tm_up_n h2]
theorem tm_el_put {Ω : tmO} {a v : Nat} {fs fs' : List Value} (h : tm_el Ω v) (ha : Ω a = some (.inr (0, fs))) : tm_el (tm_up Ω a (.inr (0, fs'))) v := by
  obtain ⟨ci, gs, r, h1, h2, h3⟩ := h
  by_cases hv : v = a
  · subst hv; rw [ha] at h1; cases h1; exact ⟨0, fs', r, tm_up_s, h2, h3⟩
  · exact ⟨ci, gs, r, by rw [tm_up_n hv]; exact h1, h2, h3⟩
theorem tm_el_arr {Ω : tmO} {a v : Nat} {e e' : ClassId × vp_A} (h : tm_el Ω v) (ha : Ω a = some (.inl e)) : tm_el (tm_up Ω a (.inl e')) v := by
  obtain ⟨ci, gs, r, h1, h2, h3⟩ := h
  exact ⟨ci, gs, r, by rw [tm_up_n (fun z => by subst z; rw [ha] at h1; cases h1)]; exact h1, h2, h3⟩
theorem tm_up_none {Ω : tmO} {a b : Nat} {e : va_E} (h : tm_up Ω a e b = none) : Ω b = none := by
  by_cases hb : b = a
  · subst hb; rw [tm_up_s] at h; cases h
  · rw [tm_up_n hb] at h; exact h
theorem tm_el_up {Ω : tmO} {a v : Nat} {e : va_E} (h : tm_el Ω v) (ha : Ω a = none) : tm_el (tm_up Ω a e) v := by
  obtain ⟨ci, fs, r, h1, h2, h3⟩ := h
  exact ⟨ci, fs, r, by rw [tm_up_n (fun z => by subst z; rw [ha] at h1; cases h1)]; exact h1, h2, h3⟩

set_option maxHeartbeats 4000000 in
set_option maxRecDepth 100000 in
theorem c_J3_checkIndex (γ : tmG) (hst : γ.1.stackTraces = false) {Wd : Type} (h : (Nat → Prop) → Wd → Heap → Prop) (w : Wd) (i k : Int) (hi : 0 ≤ i ∧ i < k ∧ k ≤ 2147483647) : tm_Con γ h M_J3_checkIndex_8e157 1 0 0 [.int (I (i)), .int (I (k)), .null] w (fun v w' => w = w' ∧ v = some (.int (I i))) := by
  refine tm_con hst (by decide) (Nat.le_of_ble_eq_true rfl) (fun x hB hR => ?_)
  have hg := hB.1
  subst hg
  have hC : tm_C x cJ3_checkIndex_8e157 RJ3 (some FieldType.int) := hB.2.2.2.1
  show tm_V x (h (tm_Fz x) w) 0 0 0 [(0, .int (I (i))), (1, .int (I (k))), (2, .null)] []
  refine tm_iload_n 0 hC dJ3_checkIndex_8e157_0 rfl rfl ?_
  refine tm_if_lt 9 hC dJ3_checkIndex_8e157_1 (by decide) (by omega) (fun c_1 => ?_) (fun c_1 => ?_)
  · exact ((by omega) : False).elim
  · refine tm_iload_n 0 hC dJ3_checkIndex_8e157_4 rfl rfl ?_
    refine tm_iload_n 1 hC dJ3_checkIndex_8e157_5 rfl rfl ?_
    refine tm_icmp_lt 16 hC dJ3_checkIndex_8e157_6 (by decide) (by omega) (fun c_6 => ?_) (fun c_6 => ?_)
    · refine tm_iload_n 0 hC dJ3_checkIndex_8e157_16 rfl rfl ?_
      exact tm_iret hC hR dJ3_checkIndex_8e157_17 (⟨rfl, rfl⟩)
    · exact ((by omega) : False).elim

set_option maxHeartbeats 4000000 in
set_option maxRecDepth 100000 in
theorem c_J15_checkIndex (γ : tmG) (hst : γ.1.stackTraces = false) {Wd : Type} (h : (Nat → Prop) → Wd → Heap → Prop) (w : Wd) (i k : Int) (hi : 0 ≤ i ∧ i < k ∧ k ≤ 2147483647) : tm_Con γ h M_J15_checkIndex_7cf53 2 0 0 [.int (I (i)), .int (I (k))] w (fun v w' => w = w' ∧ v = some (.int (I i))) := by
  refine tm_con hst (by decide) (Nat.le_of_ble_eq_true rfl) (fun x hB hR => ?_)
  have hg := hB.1
  subst hg
  have hC : tm_C x cJ15_checkIndex_7cf53 RJ15 (some FieldType.int) := hB.2.2.2.1
  show tm_V x (h (tm_Fz x) w) 0 0 0 [(0, .int (I (i))), (1, .int (I (k)))] []
  refine tm_iload_n 0 hC dJ15_checkIndex_7cf53_0 rfl rfl ?_
  refine tm_iload_n 1 hC dJ15_checkIndex_7cf53_1 rfl rfl ?_
  refine tm_null hC dJ15_checkIndex_7cf53_2 ?_
  refine tm_callS (b := 0) (n := 0) (rest := []) hC (c_J3_checkIndex (tm_g x) hst h _ i k (by omega)) k_J15_105 (by rw [hB.2.2.1]; exact ⟨Nat.le_of_ble_eq_true rfl, Nat.le_of_ble_eq_true rfl⟩) rfl rfl (by decide) dJ15_checkIndex_7cf53_3 (fun v_3 w_3 hp_3 => ?_)
  obtain ⟨rfl, rfl⟩ := hp_3
  show tm_V x (h (tm_Fz x) w) 0 0 6 [(0, .int (I (i))), (1, .int (I (k)))] [.int (I (i))]
  exact tm_iret hC hR dJ15_checkIndex_7cf53_6 (⟨rfl, rfl⟩)

set_option maxHeartbeats 4000000 in
set_option maxRecDepth 100000 in
theorem c_Jxa1e45_init (γ : tmG) (hst : γ.1.stackTraces = false) {Wd : Type} (h : (Nat → Prop) → Wd → Heap → Prop) (w : Wd) (a : Nat) : tm_Con γ h M_Jxa1e45_init_da8c8 1 0 0 [.ref (a)] w (fun v w' => w = w' ∧ v = none) := by
  refine tm_con hst (by decide) (Nat.le_of_ble_eq_true rfl) (fun x hB hR => ?_)
  have hg := hB.1
  subst hg
  have hC : tm_C x cJxa1e45_init_da8c8 RJxa1e45 (none) := hB.2.2.2.1
  show tm_V x (h (tm_Fz x) w) 0 0 0 [(0, .ref (a))] []
  refine tm_aload_n 0 hC dJxa1e45_init_da8c8_0 rfl rfl ?_
  refine tm_objInit hC x_Jxa1e45_1 (by rw [hB.2.2.1]; exact ⟨Nat.le_of_ble_eq_true rfl, Nat.le_of_ble_eq_true rfl⟩) ((by decide)) dJxa1e45_init_da8c8_1 ?_
  exact tm_vret hC hR dJxa1e45_init_da8c8_4 (⟨rfl, rfl⟩)

set_option maxHeartbeats 4000000 in
set_option maxRecDepth 100000 in
theorem c_Jxc12de_init (γ : tmG) (hst : γ.1.stackTraces = false) (Ω : tmO) (a : Nat) (mc : Int32) (ha : Ω a = some (.inr (0, [.int mc, .null, .int (I 0)]))) : tm_Con γ (tm_hol γ.2.1) M_Jxc12de_init_da8c8 2 0 0 [.ref (a)] Ω (fun v w' => tm_up Ω a (.inr (0, [.int (I 0), .null, .int (I 0)])) = w' ∧ v = none) := by
  refine tm_con hst (by decide) (Nat.le_of_ble_eq_true rfl) (fun x hB hR => ?_)
  have hg := hB.1
  subst hg
  have hC : tm_C x cJxc12de_init_da8c8 RJxc12de (none) := hB.2.2.2.1
  show tm_V x (tm_G x Ω) 0 0 0 [(0, .ref (a))] []
  refine tm_aload_n 0 hC dJxc12de_init_da8c8_0 rfl rfl ?_
  refine tm_callI (b := 0) (n := 0) (rest := []) hC (c_Jxa1e45_init (tm_g x) hst (tm_hol (tm_D x)) _ a) k_Jxc12de_1 (by rw [hB.2.2.1]; exact ⟨Nat.le_of_ble_eq_true rfl, Nat.le_of_ble_eq_true rfl⟩) rfl rfl (by decide) dJxc12de_init_da8c8_1 (fun v_1 w_1 hp_1 => ?_)
  obtain ⟨rfl, rfl⟩ := hp_1
  show tm_V x (tm_G x Ω) 0 0 4 [(0, .ref (a))] []
  refine tm_aload_n 0 hC dJxc12de_init_da8c8_4 rfl rfl ?_
  refine tm_iconst hC dJxc12de_init_da8c8_5 ?_
  refine tm_putf1 hC f_Jxc12de_7 ha (tt_0_0 _) (Nat.le_of_ble_eq_true rfl) dJxc12de_init_da8c8_6 ?_
  obtain ⟨w1, hw2⟩ : ∃ z, z = tm_up Ω a (.inr (0, [.int (I (0)), .null, .int (I (0))])) := ⟨_, rfl⟩
  show tm_V x (tm_G x (tm_up Ω a (.inr (0, [.int (I (0)), .null, .int (I (0))])))) 0 0 9 [(0, .ref (a))] []
  rw [← hw2]
  have hw1_a : w1 a = some (.inr (0, [.int (I (0)), .null, .int (I (0))])) := by rw [hw2]; first | done | exact tm_up_s
  exact tm_vret hC hR dJxc12de_init_da8c8_9 (⟨hw2.symm, rfl⟩)

set_option maxHeartbeats 4000000 in
set_option maxRecDepth 100000 in
theorem c_J8_newLength (γ : tmG) (hst : γ.1.stackTraces = false) {Wd : Type} (h : (Nat → Prop) → Wd → Heap → Prop) (w : Wd) (k m g : Int) (hi : 0 ≤ k ∧ k ≤ 100000 ∧ 0 ≤ m ∧ m ≤ 100000 ∧ 0 ≤ g ∧ g ≤ 100000 ∧ 1 ≤ k + max m g) : tm_Con γ h M_J8_newLength_cabcc 1 0 0 [.int (I (k)), .int (I (m)), .int (I (g))] w (fun v w' => w = w' ∧ v = some (.int (I (k + max m g)))) := by
  refine tm_con hst (by decide) (Nat.le_of_ble_eq_true rfl) (fun x hB hR => ?_)
  have hg := hB.1
  subst hg
  have hC : tm_C x cJ8_newLength_cabcc RJ8 (some FieldType.int) := hB.2.2.2.1
  show tm_V x (h (tm_Fz x) w) 0 0 0 [(0, .int (I (k))), (1, .int (I (m))), (2, .int (I (g)))] []
  refine tm_iload_n 0 hC dJ8_newLength_cabcc_0 rfl rfl ?_
  refine tm_iload_n 1 hC dJ8_newLength_cabcc_1 rfl rfl ?_
  refine tm_iload_n 2 hC dJ8_newLength_cabcc_2 rfl rfl ?_
  refine tm_mm hC true x_J8_194 (by omega) (by rw [hB.2.2.1]; exact ⟨Nat.le_of_ble_eq_true rfl, Nat.le_of_ble_eq_true rfl⟩) ((by simp [Value.category])) dJ8_newLength_cabcc_3 ?_
  show tm_V x (h (tm_Fz x) w) 0 0 6 [(0, .int (I (k))), (1, .int (I (m))), (2, .int (I (g)))] [.int (I (max m g)), .int (I (k))]
  refine tm_iadd hC dJ8_newLength_cabcc_6 ?_
  refine tm_istore_n [(3, .int (I (k + (max m g)))), (0, .int (I (k))), (1, .int (I (m))), (2, .int (I (g)))] hC dJ8_newLength_cabcc_7 rfl (by rw [hB.2.1]; exact Nat.le_of_ble_eq_true rfl) rfl ?_
  refine tm_iconst hC dJ8_newLength_cabcc_8 ?_
  refine tm_iload_n 0 hC dJ8_newLength_cabcc_9 rfl rfl ?_
  refine tm_icmp_ge 21 hC dJ8_newLength_cabcc_10 (by decide) (by omega) (fun c_10 => ?_) (fun c_10 => ?_)
  · exact ((by omega) : False).elim
  · refine tm_iload_n 0 hC dJ8_newLength_cabcc_13 rfl rfl ?_
    refine tm_ldc (v := I 2147483639) hC w_J8_200 dJ8_newLength_cabcc_14 ?_
    refine tm_icmp_gt 21 hC dJ8_newLength_cabcc_16 (by decide) (by omega) (fun c_16 => ?_) (fun c_16 => ?_)
    · exact ((by omega) : False).elim
    · refine tm_iload_n 0 hC dJ8_newLength_cabcc_19 rfl rfl ?_
      exact tm_iret hC hR dJ8_newLength_cabcc_20 (⟨rfl, rfl⟩)

set_option maxHeartbeats 4000000 in
set_option maxRecDepth 100000 in
theorem c_J7_copyOf3 (γ : tmG) (hst : γ.1.stackTraces = false) (Ω : tmO) (d cap : Nat) (f : Nat → Option Nat) (k : Int) (hd : Ω d = some (tm_ao γ.2.2.1 cap f)) (hk : (cap : Int) ≤ k ∧ k ≤ 1000) (he : ∀ i : Nat, i < cap → ∀ y : Nat, f i = some y → tm_el Ω y) : tm_Con γ (tm_hol γ.2.1) M_J7_copyOf_6403c 1 1 k.toNat [.ref (d), .int (I (k)), .ref (γ.2.2.2.2)] Ω (fun v w' => ∃ (q : Nat) (g : Nat → Option Nat), Ω q = none ∧ tm_up Ω q (tm_ao γ.2.2.1 k.toNat g) = w' ∧ (∀ i : Nat, i < cap → g i = f i) ∧ v = some (.ref q)) := by
  refine tm_con hst (by decide) (Nat.le_of_ble_eq_true rfl) (fun x hB hR => ?_)
  have hg := hB.1
  subst hg
  have hC : tm_C x cJ7_copyOf_6403c RJ7 (some (FieldType.array (FieldType.object "java/lang/Object"))) := hB.2.2.2.1
  show tm_V x (tm_G x Ω) 1 k.toNat 0 [(0, .ref (d)), (1, .int (I (k))), (2, .ref ((tm_g x).2.2.2.2))] []
  refine tm_aload_n 2 hC dJ7_copyOf_6403c_0 rfl rfl ?_
  refine tm_ldcM hC w_J7_110 dJ7_copyOf_6403c_1 ?_
  refine tm_acmp_ne 13 hC dJ7_copyOf_6403c_3 (by decide) (fun c_3 => ?_) (fun c_3 => ?_)
  · exact absurd rfl c_3
  · refine tm_iload_n 1 hC dJ7_copyOf_6403c_6 rfl rfl ?_
    refine tm_less (b' := 1 + 0) (n' := (k : Int).toNat + 0) ⟨by omega, by omega⟩ ?_
    refine tm_newo1 hC (by omega) w_J7_2 dJ7_copyOf_6403c_7 (fun q1 hq2 => ?_)
    obtain ⟨w3, hw4⟩ : ∃ z, z = tm_up Ω q1 (tm_ao (tm_T x) ((k : Int).toNat) (fun _ => none)) := ⟨_, rfl⟩
    show tm_V x (tm_G x (tm_up Ω q1 (tm_ao (tm_T x) ((k : Int).toNat) (fun _ => none)))) 0 0 10 [(0, .ref (d)), (1, .int (I (k))), (2, .ref ((tm_g x).2.2.2.2))] [.ref (q1)]
    rw [← hw4]
    have hw3_q1 : w3 q1 = some (tm_ao (tm_T x) ((k : Int).toNat) (fun _ => none)) := by rw [hw4]; first | done | exact tm_up_s
    have hw3_d := (show w3 d = _ by rw [hw4]; exact tm_up_n (fun z => by subst z; rw [hd] at hq2; cases hq2)).trans hd
    refine tm_goto 24 hC dJ7_copyOf_6403c_10 (by decide) ?_
    refine tm_astore_n [(3, .ref (q1)), (0, .ref (d)), (1, .int (I (k))), (2, .ref ((tm_g x).2.2.2.2))] hC dJ7_copyOf_6403c_24 rfl (by rw [hB.2.1]; exact Nat.le_of_ble_eq_true rfl) rfl ?_
    refine tm_aload_n 1 hC dJ7_copyOf_6403c_25 rfl rfl ?_
    refine tm_iconst hC dJ7_copyOf_6403c_26 ?_
    refine tm_aload_n 0 hC dJ7_copyOf_6403c_27 rfl rfl ?_
    refine tm_iconst hC dJ7_copyOf_6403c_28 ?_
    refine tm_aload_n 1 hC dJ7_copyOf_6403c_29 rfl rfl ?_
    refine tm_alen1 (t0 := 3) (ty := .object "java/lang/Object") hC hw3_d rfl dJ7_copyOf_6403c_30 ?_
    refine tm_iload_n 2 hC dJ7_copyOf_6403c_31 rfl rfl ?_
    refine tm_mm hC false x_J7_304 (by omega) (by rw [hB.2.2.1]; exact ⟨Nat.le_of_ble_eq_true rfl, Nat.le_of_ble_eq_true rfl⟩) ((by simp [Value.category])) dJ7_copyOf_6403c_32 ?_
    show tm_V x (tm_G x w3) 0 0 35 [(3, .ref (q1)), (0, .ref (d)), (1, .int (I (k))), (2, .ref ((tm_g x).2.2.2.2))] [.int (I (min ((cap : Nat) : Int) k)), .int (I (0)), .ref (q1), .int (I (0)), .ref (d)]
    refine tm_copy1 hC x_J7_150 hw3_d hw3_q1 (by omega) (fun i hi y hy => by rw [hw4]; exact tm_el_up (he i (by omega) y (by simpa using hy)) hq2) (by rw [hB.2.2.1]; exact ⟨Nat.le_of_ble_eq_true rfl, Nat.le_of_ble_eq_true rfl⟩) (by decide) dJ7_copyOf_6403c_35 ?_
    obtain ⟨w5, hw6⟩ : ∃ z, z = tm_up w3 q1 (tm_ao (tm_T x) ((k : Int).toNat) (va_cpy f (fun _ => none) (0 : Int).toNat (0 : Int).toNat (min ((cap : Nat) : Int) k : Int).toNat)) := ⟨_, rfl⟩
    show tm_V x (tm_G x (tm_up w3 q1 (tm_ao (tm_T x) ((k : Int).toNat) (va_cpy f (fun _ => none) (0 : Int).toNat (0 : Int).toNat (min ((cap : Nat) : Int) k : Int).toNat)))) 0 0 38 [(3, .ref (q1)), (0, .ref (d)), (1, .int (I (k))), (2, .ref ((tm_g x).2.2.2.2))] []
    rw [← hw6]
    have hw5_q1 : w5 q1 = some (tm_ao (tm_T x) ((k : Int).toNat) (va_cpy f (fun _ => none) (0 : Int).toNat (0 : Int).toNat (min ((cap : Nat) : Int) k : Int).toNat)) := by rw [hw6]; first | done | exact tm_up_s
    refine tm_aload_n 0 hC dJ7_copyOf_6403c_38 rfl rfl ?_
    exact tm_aret hC hR (Or.inr ⟨_, rfl⟩) dJ7_copyOf_6403c_39 (⟨q1, _, hq2, (hw6.trans (by rw [hw4]; exact tm_up_up)).symm, fun i hi => (pk_cpy_in (by omega) (by omega)).trans (by congr 1; omega), rfl⟩)

set_option maxHeartbeats 4000000 in
set_option maxRecDepth 100000 in
theorem c_J7_copyOf2 (γ : tmG) (hst : γ.1.stackTraces = false) (Ω : tmO) (d cap : Nat) (f : Nat → Option Nat) (k : Int) (hd : Ω d = some (tm_ao γ.2.2.1 cap f)) (hk : (cap : Int) ≤ k ∧ k ≤ 1000) (he : ∀ i : Nat, i < cap → ∀ y : Nat, f i = some y → tm_el Ω y) : tm_Con γ (tm_hol γ.2.1) M_J7_copyOf_1904c 2 1 k.toNat [.ref (d), .int (I (k))] Ω (fun v w' => ∃ (q : Nat) (g : Nat → Option Nat), Ω q = none ∧ tm_up Ω q (tm_ao γ.2.2.1 k.toNat g) = w' ∧ (∀ i : Nat, i < cap → g i = f i) ∧ v = some (.ref q)) := by
  refine tm_con hst (by decide) (Nat.le_of_ble_eq_true rfl) (fun x hB hR => ?_)
  have hg := hB.1
  subst hg
  have hC : tm_C x cJ7_copyOf_1904c RJ7 (some (FieldType.array (FieldType.object "java/lang/Object"))) := hB.2.2.2.1
  show tm_V x (tm_G x Ω) 1 k.toNat 0 [(0, .ref (d)), (1, .int (I (k)))] []
  refine tm_aload_n 0 hC dJ7_copyOf_1904c_0 rfl rfl ?_
  refine tm_iload_n 1 hC dJ7_copyOf_1904c_1 rfl rfl ?_
  refine tm_aload_n 0 hC dJ7_copyOf_1904c_2 rfl rfl ?_
  refine tm_getC1 hC hd x_J7_86 (by rw [hB.2.2.1]; exact ⟨Nat.le_of_ble_eq_true rfl, Nat.le_of_ble_eq_true rfl⟩) (by simp [Value.category]) dJ7_copyOf_1904c_3 ?_
  refine tm_less (b' := 1 + 0) (n' := k.toNat + 0) ⟨by omega, by omega⟩ ?_
  refine tm_callS (b := 0) (n := 0) (rest := []) hC (c_J7_copyOf3 (tm_g x) hst _ d cap f k hd hk he) k_J7_300 (by rw [hB.2.2.1]; exact ⟨Nat.le_of_ble_eq_true rfl, Nat.le_of_ble_eq_true rfl⟩) rfl rfl (by decide) dJ7_copyOf_1904c_6 (fun v_6 w_6 hp_6 => ?_)
  obtain ⟨q, g, hq, hw, hg, rfl⟩ := hp_6
  show tm_V x (tm_G x w_6) 0 0 9 [(0, .ref (d)), (1, .int (I (k)))] [.ref (q)]
  exact tm_aret hC hR (Or.inr ⟨_, rfl⟩) dJ7_copyOf_1904c_9 (⟨q, g, hq, hw, hg, rfl⟩)

set_option maxHeartbeats 4000000 in
set_option maxRecDepth 100000 in
theorem c_growA (γ : tmG) (hst : γ.1.stackTraces = false) (Ω : tmO) (a n : Nat) (mc : Int32) (f : Nat → Option Nat) (ha : Ω a = some (.inr (0, [.int mc, .ref γ.2.2.2.1, .int (I n)]))) (hn : n = 0) : tm_Con γ (tm_hol γ.2.1) M_Jx4a65c_grow_92f84 4 1 400 [.ref (a), .int (I ((n : Int) + 1))] Ω (fun v w' => ∃ (q cap' : Nat) (g : Nat → Option Nat), Ω q = none ∧ tm_up (tm_up Ω q (tm_ao γ.2.2.1 cap' g)) a (.inr (0, [.int mc, .ref q, .int (I n)])) = w' ∧ (n < cap' ∧ 10 ≤ cap' ∧ cap' ≤ 400) ∧ (∀ i : Nat, i < n → g i = f i) ∧ v = some (.ref q)) := by
  refine tm_con hst (by decide) (Nat.le_of_ble_eq_true rfl) (fun x hB hR => ?_)
  have hg := hB.1
  subst hg
  have hC : tm_C x cJx4a65c_grow_92f84 RJx4a65c (some (FieldType.array (FieldType.object "java/lang/Object"))) := hB.2.2.2.1
  show tm_V x (tm_G x Ω) 1 400 0 [(0, .ref (a)), (1, .int (I ((n : Int) + 1)))] []
  refine tm_aload_n 0 hC dJx4a65c_grow_92f84_0 rfl rfl ?_
  refine tm_getf1 hC f_Jx4a65c_9 ha rfl dJx4a65c_grow_92f84_1 ?_
  refine tm_alen0 hC dJx4a65c_grow_92f84_4 ?_
  refine tm_istore_n [(2, .int (I (0))), (0, .ref (a)), (1, .int (I ((n : Int) + 1)))] hC dJx4a65c_grow_92f84_5 rfl (by rw [hB.2.1]; exact Nat.le_of_ble_eq_true rfl) rfl ?_
  refine tm_iload_n 0 hC dJx4a65c_grow_92f84_6 rfl rfl ?_
  refine tm_if_gt 20 hC dJx4a65c_grow_92f84_7 (by decide) (by omega) (fun c_7 => ?_) (fun c_7 => ?_)
  case refine_1 => exact absurd c_7 (by omega)
  refine tm_aload_n 1 hC dJx4a65c_grow_92f84_10 rfl rfl ?_
  refine tm_getf1 hC f_Jx4a65c_9 ha rfl dJx4a65c_grow_92f84_11 ?_
  refine tm_gets hC w_Jx4a65c_39 dJx4a65c_grow_92f84_14 ?_
  refine tm_acmp_eq 45 hC dJx4a65c_grow_92f84_17 (by decide) (fun c_17 => ?_) (fun c_17 => ?_)
  · refine tm_aload_n 1 hC dJx4a65c_grow_92f84_45 rfl rfl ?_
    refine tm_bipush hC dJx4a65c_grow_92f84_46 rfl ?_
    refine tm_iload_n 2 hC dJx4a65c_grow_92f84_48 rfl rfl ?_
    refine tm_mm hC true x_Jx4a65c_79 (by omega) (by rw [hB.2.2.1]; exact ⟨Nat.le_of_ble_eq_true rfl, Nat.le_of_ble_eq_true rfl⟩) ((by simp [Value.category])) dJx4a65c_grow_92f84_49 ?_
    show tm_V x (tm_G x Ω) 1 400 52 [(2, .int (I (0))), (0, .ref (a)), (1, .int (I ((n : Int) + 1)))] [.int (I (max 10 ((n : Int) + 1))), .ref (a)]
    refine tm_less (b' := 1 + 0) (n' := (max 10 ((n : Int) + 1) : Int).toNat + 0) ⟨by omega, by omega⟩ ?_
    refine tm_newo1 hC (by omega) w_Jx4a65c_7 dJx4a65c_grow_92f84_52 (fun q1 hq2 => ?_)
    obtain ⟨w3, hw4⟩ : ∃ z, z = tm_up Ω q1 (tm_ao (tm_T x) ((max 10 ((n : Int) + 1) : Int).toNat) (fun _ => none)) := ⟨_, rfl⟩
    show tm_V x (tm_G x (tm_up Ω q1 (tm_ao (tm_T x) ((max 10 ((n : Int) + 1) : Int).toNat) (fun _ => none)))) 0 0 55 [(2, .int (I (0))), (0, .ref (a)), (1, .int (I ((n : Int) + 1)))] [.ref (q1), .ref (a)]
    rw [← hw4]
    have hw3_q1 : w3 q1 = some (tm_ao (tm_T x) ((max 10 ((n : Int) + 1) : Int).toNat) (fun _ => none)) := by rw [hw4]; first | done | exact tm_up_s
    have hw3_a := (show w3 a = _ by rw [hw4]; exact tm_up_n (fun z => by subst z; rw [ha] at hq2; cases hq2)).trans ha
    refine tm_dup_x1 hC dJx4a65c_grow_92f84_55 rfl rfl ?_
    refine tm_putf1 hC f_Jx4a65c_9 hw3_a (tt_0_1 _) (Nat.le_of_ble_eq_true rfl) dJx4a65c_grow_92f84_56 ?_
    obtain ⟨w5, hw6⟩ : ∃ z, z = tm_up w3 a (.inr (0, [.int (mc), .ref (q1), .int (I ((n : Int)))])) := ⟨_, rfl⟩
    show tm_V x (tm_G x (tm_up w3 a (.inr (0, [.int (mc), .ref (q1), .int (I ((n : Int)))])))) 0 0 59 [(2, .int (I (0))), (0, .ref (a)), (1, .int (I ((n : Int) + 1)))] [.ref (q1)]
    rw [← hw6]
    have hw5_a : w5 a = some (.inr (0, [.int (mc), .ref (q1), .int (I ((n : Int)))])) := by rw [hw6]; first | done | exact tm_up_s
    have hw5_q1 := (show w5 q1 = _ by rw [hw6]; exact tm_up_n (fun z => absurd (hw3_a.symm.trans (z ▸ hw3_q1)) (by intro q; cases q))).trans hw3_q1
    exact tm_aret hC hR (Or.inr ⟨_, rfl⟩) dJx4a65c_grow_92f84_59 (⟨_, _, _, hq2, by rw [hw6, hw4], by omega, fun i hi => absurd hi (by omega), rfl⟩)
  · exact absurd rfl c_17

set_option maxHeartbeats 4000000 in
set_option maxRecDepth 100000 in
theorem c_growB (γ : tmG) (hst : γ.1.stackTraces = false) (Ω : tmO) (a d n : Nat) (mc : Int32) (f : Nat → Option Nat) (ha : Ω a = some (.inr (0, [.int mc, .ref d, .int (I n)]))) (hd : Ω d = some (tm_ao γ.2.2.1 n f)) (hn : 10 ≤ n ∧ n ≤ 250) (he : ∀ i : Nat, i < n → ∀ y : Nat, f i = some y → tm_el Ω y) : tm_Con γ (tm_hol γ.2.1) M_Jx4a65c_grow_92f84 4 1 400 [.ref (a), .int (I ((n : Int) + 1))] Ω (fun v w' => ∃ (q cap' : Nat) (g : Nat → Option Nat), Ω q = none ∧ tm_up (tm_up Ω q (tm_ao γ.2.2.1 cap' g)) a (.inr (0, [.int mc, .ref q, .int (I n)])) = w' ∧ (n < cap' ∧ 10 ≤ cap' ∧ cap' ≤ 400) ∧ (∀ i : Nat, i < n → g i = f i) ∧ v = some (.ref q)) := by
  refine tm_con hst (by decide) (Nat.le_of_ble_eq_true rfl) (fun x hB hR => ?_)
  have hg := hB.1
  subst hg
  have hC : tm_C x cJx4a65c_grow_92f84 RJx4a65c (some (FieldType.array (FieldType.object "java/lang/Object"))) := hB.2.2.2.1
  show tm_V x (tm_G x Ω) 1 400 0 [(0, .ref (a)), (1, .int (I ((n : Int) + 1)))] []
  refine tm_aload_n 0 hC dJx4a65c_grow_92f84_0 rfl rfl ?_
  refine tm_getf1 hC f_Jx4a65c_9 ha rfl dJx4a65c_grow_92f84_1 ?_
  refine tm_alen1 (t0 := 3) (ty := .object "java/lang/Object") hC hd rfl dJx4a65c_grow_92f84_4 ?_
  refine tm_istore_n [(2, .int (I (((n : Nat) : Int)))), (0, .ref (a)), (1, .int (I ((n : Int) + 1)))] hC dJx4a65c_grow_92f84_5 rfl (by rw [hB.2.1]; exact Nat.le_of_ble_eq_true rfl) rfl ?_
  refine tm_iload_n 0 hC dJx4a65c_grow_92f84_6 rfl rfl ?_
  refine tm_if_gt 20 hC dJx4a65c_grow_92f84_7 (by decide) (by omega) (fun c_7 => ?_) (fun c_7 => ?_)
  · refine tm_iload_n 0 hC dJx4a65c_grow_92f84_20 rfl rfl ?_
    refine tm_iload_n 2 hC dJx4a65c_grow_92f84_21 rfl rfl ?_
    refine tm_iload_n 0 hC dJx4a65c_grow_92f84_22 rfl rfl ?_
    refine tm_isub hC dJx4a65c_grow_92f84_23 ?_
    refine tm_iload_n 0 hC dJx4a65c_grow_92f84_24 rfl rfl ?_
    refine tm_iconst hC dJx4a65c_grow_92f84_25 ?_
    refine tm_ishr1 hC dJx4a65c_grow_92f84_26 (by omega) ?_
    refine tm_callS (b := 1) (n := 400) (rest := []) hC (c_J8_newLength (tm_g x) hst (tm_hol (tm_D x)) _ _ _ _ (by omega)) k_Jx4a65c_73 (by rw [hB.2.2.1]; exact ⟨Nat.le_of_ble_eq_true rfl, Nat.le_of_ble_eq_true rfl⟩) rfl rfl (by decide) dJx4a65c_grow_92f84_27 (fun v_27 w_27 hp_27 => ?_)
    obtain ⟨rfl, rfl⟩ := hp_27
    show tm_V x (tm_G x Ω) 1 400 30 [(2, .int (I (((n : Nat) : Int)))), (0, .ref (a)), (1, .int (I ((n : Int) + 1)))] [.int (I ((n : Int) + max ((n : Int) + 1 - (n : Int)) ((n : Int) / 2)))]
    refine tm_istore_n [(3, .int (I ((n : Int) + max ((n : Int) + 1 - (n : Int)) ((n : Int) / 2)))), (2, .int (I (((n : Nat) : Int)))), (0, .ref (a)), (1, .int (I ((n : Int) + 1)))] hC dJx4a65c_grow_92f84_30 rfl (by rw [hB.2.1]; exact Nat.le_of_ble_eq_true rfl) rfl ?_
    refine tm_aload_n 2 hC dJx4a65c_grow_92f84_31 rfl rfl ?_
    refine tm_aload_n 2 hC dJx4a65c_grow_92f84_32 rfl rfl ?_
    refine tm_getf1 hC f_Jx4a65c_9 ha rfl dJx4a65c_grow_92f84_33 ?_
    refine tm_iload_n 0 hC dJx4a65c_grow_92f84_36 rfl rfl ?_
    refine tm_less (b' := 1 + 0) (n' := (((n : Int) + max ((n : Int) + 1 - (n : Int)) ((n : Int) / 2) : Int).toNat) + 0) ⟨by omega, by omega⟩ ?_
    refine tm_callS (b := 0) (n := 0) (rest := [.ref (a)]) hC (c_J7_copyOf2 (tm_g x) hst _ d n f _ hd (by omega) he) k_Jx4a65c_66 (by rw [hB.2.2.1]; exact ⟨Nat.le_of_ble_eq_true rfl, Nat.le_of_ble_eq_true rfl⟩) rfl rfl (by simp [Value.category]) dJx4a65c_grow_92f84_37 (fun v_37 w_37 hp_37 => ?_)
    obtain ⟨q, g, hq, rfl, hg, rfl⟩ := hp_37
    have ha2 : (tm_up Ω q (tm_ao (tm_T x) ((n : Int) + max ((n : Int) + 1 - (n : Int)) ((n : Int) / 2) : Int).toNat g)) a = some (.inr (0, [.int mc, .ref d, .int (I n)])) := (tm_up_n (fun z => by subst z; rw [hq] at ha; cases ha)).trans ha
    show tm_V x (tm_G x (tm_up Ω q (tm_ao (tm_T x) ((n : Int) + max ((n : Int) + 1 - (n : Int)) ((n : Int) / 2) : Int).toNat g))) 0 0 40 [(3, .int (I ((n : Int) + max ((n : Int) + 1 - (n : Int)) ((n : Int) / 2)))), (2, .int (I (((n : Nat) : Int)))), (0, .ref (a)), (1, .int (I ((n : Int) + 1)))] [.ref (q), .ref (a)]
    refine tm_dup_x1 hC dJx4a65c_grow_92f84_40 rfl rfl ?_
    refine tm_putf1 hC f_Jx4a65c_9 ha2 (tt_0_1 _) (Nat.le_of_ble_eq_true rfl) dJx4a65c_grow_92f84_41 ?_
    obtain ⟨w1, hw2⟩ : ∃ z, z = tm_up (tm_up Ω q (tm_ao (tm_T x) ((n : Int) + max ((n : Int) + 1 - (n : Int)) ((n : Int) / 2) : Int).toNat g)) a (.inr (0, [.int (mc), .ref (q), .int (I ((n : Int)))])) := ⟨_, rfl⟩
    show tm_V x (tm_G x (tm_up (tm_up Ω q (tm_ao (tm_T x) ((n : Int) + max ((n : Int) + 1 - (n : Int)) ((n : Int) / 2) : Int).toNat g)) a (.inr (0, [.int (mc), .ref (q), .int (I ((n : Int)))])))) 0 0 44 [(3, .int (I ((n : Int) + max ((n : Int) + 1 - (n : Int)) ((n : Int) / 2)))), (2, .int (I (((n : Nat) : Int)))), (0, .ref (a)), (1, .int (I ((n : Int) + 1)))] [.ref (q)]
    rw [← hw2]
    have hw1_a : w1 a = some (.inr (0, [.int (mc), .ref (q), .int (I ((n : Int)))])) := by rw [hw2]; first | done | exact tm_up_s
    exact tm_aret hC hR (Or.inr ⟨_, rfl⟩) dJx4a65c_grow_92f84_44 (⟨_, _, _, hq, by rw [hw2], by omega, hg, rfl⟩)
  · exact ((by omega) : False).elim

theorem c_growI (γ : tmG) (hst : γ.1.stackTraces = false) (Ω : tmO) (a d n : Nat) (mc : Int32) (f : Nat → Option Nat) (ha : Ω a = some (.inr (0, [.int mc, .ref d, .int (I n)]))) (h : ((d = γ.2.2.2.1 ∧ n = 0) ∨ (Ω d = some (tm_ao γ.2.2.1 n f) ∧ (10 ≤ n ∧ n ≤ 250) ∧ ∀ i : Nat, i < n → ∀ y : Nat, f i = some y → tm_el Ω y))) : tm_Con γ (tm_hol γ.2.1) M_Jx4a65c_grow_92f84 4 1 400 [.ref a, .int (I ((n : Int) + 1))] Ω (fun v w' => ∃ (q cap' : Nat) (g : Nat → Option Nat), Ω q = none ∧ tm_up (tm_up Ω q (tm_ao γ.2.2.1 cap' g)) a (.inr (0, [.int mc, .ref q, .int (I n)])) = w' ∧ (n < cap' ∧ 10 ≤ cap' ∧ cap' ≤ 400) ∧ (∀ i : Nat, i < n → g i = f i) ∧ v = some (.ref q)) := by
  rcases h with ⟨h1, h2⟩ | ⟨h1, h2, h3⟩
  · subst h1; exact c_growA γ hst Ω a n mc f ha h2
  · exact c_growB γ hst Ω a d n mc f ha h1 h2 h3

set_option maxHeartbeats 4000000 in
set_option maxRecDepth 100000 in
theorem c_grow0 (γ : tmG) (hst : γ.1.stackTraces = false) (Ω : tmO) (a d n : Nat) (mc : Int32) (f : Nat → Option Nat) (ha : Ω a = some (.inr (0, [.int mc, .ref d, .int (I n)]))) (h : ((d = γ.2.2.2.1 ∧ n = 0) ∨ (Ω d = some (tm_ao γ.2.2.1 n f) ∧ (10 ≤ n ∧ n ≤ 250) ∧ ∀ i : Nat, i < n → ∀ y : Nat, f i = some y → tm_el Ω y))) : tm_Con γ (tm_hol γ.2.1) M_Jx4a65c_grow_d5877 5 1 400 [.ref (a)] Ω (fun v w' => ∃ (q cap' : Nat) (g : Nat → Option Nat), Ω q = none ∧ tm_up (tm_up Ω q (tm_ao γ.2.2.1 cap' g)) a (.inr (0, [.int mc, .ref q, .int (I n)])) = w' ∧ (n < cap' ∧ 10 ≤ cap' ∧ cap' ≤ 400) ∧ (∀ i : Nat, i < n → g i = f i) ∧ v = some (.ref q)) := by
  refine tm_con hst (by decide) (Nat.le_of_ble_eq_true rfl) (fun x hB hR => ?_)
  have hg := hB.1
  subst hg
  have hC : tm_C x cJx4a65c_grow_d5877 RJx4a65c (some (FieldType.array (FieldType.object "java/lang/Object"))) := hB.2.2.2.1
  show tm_V x (tm_G x Ω) 1 400 0 [(0, .ref (a))] []
  refine tm_aload_n 0 hC dJx4a65c_grow_d5877_0 rfl rfl ?_
  refine tm_aload_n 0 hC dJx4a65c_grow_d5877_1 rfl rfl ?_
  refine tm_getf1 hC f_Jx4a65c_48 ha rfl dJx4a65c_grow_d5877_2 ?_
  refine tm_iconst hC dJx4a65c_grow_d5877_5 ?_
  refine tm_iadd hC dJx4a65c_grow_d5877_6 ?_
  refine tm_less (b' := 1 + 0) (n' := 400 + 0) ⟨by omega, by omega⟩ ?_
  refine tm_callV (b := 0) (n := 0) (rest := []) hC (c_growI (tm_g x) hst Ω a d n mc f ha h) k_Jx4a65c_69 (by rw [hB.2.2.1]; exact ⟨Nat.le_of_ble_eq_true rfl, Nat.le_of_ble_eq_true rfl⟩) rfl (tm_rec1 hC ha rfl) rfl (by decide) dJx4a65c_grow_d5877_7 (fun v_7 w_7 hp_7 => ?_)
  obtain ⟨q, cap', g, hq, hw, hc, hg, rfl⟩ := hp_7
  show tm_V x (tm_G x w_7) 0 0 10 [(0, .ref (a))] [.ref (q)]
  exact tm_aret hC hR (Or.inr ⟨_, rfl⟩) dJx4a65c_grow_d5877_10 (⟨q, cap', g, hq, hw, hc, hg, rfl⟩)

set_option maxHeartbeats 4000000 in
set_option maxRecDepth 100000 in
theorem c_add3A (γ : tmG) (hst : γ.1.stackTraces = false) (Ω : tmO) (a d n v0 : Nat) (mc : Int32) (f : Nat → Option Nat) (ha : Ω a = some (.inr (0, [.int mc, .ref γ.2.2.2.1, .int (I n)]))) (hv : tm_el Ω v0) (hn : n = 0) : tm_Con γ (tm_hol γ.2.1) M_Jx4a65c_add_72be8 6 1 400 [.ref (a), .ref (v0), .ref (γ.2.2.2.1), .int (I ((n : Int)))] Ω (fun v w' => v = none ∧ ∃ (d' cap' : Nat) (g : Nat → Option Nat), (Ω d' = none ∨ (d' = γ.2.2.2.1 ∧ Ω γ.2.2.2.1 ≠ none)) ∧ (∀ b, b ≠ a → b ≠ d' → w' b = Ω b) ∧ w' a = some (.inr (0, [.int mc, .ref d', .int (I ((n : Int) + 1))])) ∧ w' d' = some (tm_ao γ.2.2.1 cap' g) ∧ (n + 1 ≤ cap' ∧ cap' ≤ 400 ∧ 10 ≤ cap') ∧ g n = some v0 ∧ ∀ i : Nat, i < n → g i = f i) := by
  refine tm_con hst (by decide) (Nat.le_of_ble_eq_true rfl) (fun x hB hR => ?_)
  have hg := hB.1
  subst hg
  have hC : tm_C x cJx4a65c_add_72be8 RJx4a65c (none) := hB.2.2.2.1
  show tm_V x (tm_G x Ω) 1 400 0 [(0, .ref (a)), (1, .ref (v0)), (2, .ref ((tm_g x).2.2.2.1)), (3, .int (I ((n : Int))))] []
  refine tm_iload_n 3 hC dJx4a65c_add_72be8_0 rfl rfl ?_
  refine tm_aload_n 2 hC dJx4a65c_add_72be8_1 rfl rfl ?_
  refine tm_alen0 hC dJx4a65c_add_72be8_2 ?_
  refine tm_icmp_ne 11 hC dJx4a65c_add_72be8_3 (by decide) (by omega) (fun c_3 => ?_) (fun c_3 => ?_)
  · exact ((by omega) : False).elim
  · refine tm_aload_n 0 hC dJx4a65c_add_72be8_6 rfl rfl ?_
    refine tm_less (b' := 1 + 0) (n' := 400 + 0) ⟨by omega, by omega⟩ ?_
    refine tm_callV (b := 0) (n := 0) (rest := []) hC (c_grow0 (tm_g x) hst Ω a (tm_e0 x) n mc f ha (Or.inl ⟨rfl, hn⟩)) k_Jx4a65c_129 (by rw [hB.2.2.1]; exact ⟨Nat.le_of_ble_eq_true rfl, Nat.le_of_ble_eq_true rfl⟩) rfl (tm_rec1 hC ha rfl) rfl (by decide) dJx4a65c_add_72be8_7 (fun v_7 w_7 hp_7 => ?_)
    obtain ⟨q, cap', g, hq, hw, hc, hg, rfl⟩ := hp_7
    have hqa : q ≠ a := fun z => by subst z; rw [hq] at ha; cases ha
    have hv2 : tm_el w_7 v0 := by rw [← hw]; exact tm_el_put (tm_el_up hv hq) ((tm_up_n (Ne.symm hqa)).trans ha)
    have ha2 : w_7 a = some (.inr (0, [.int mc, .ref q, .int (I n)])) := by rw [← hw]; exact tm_up_s
    have hq2 : w_7 q = some (tm_ao (tm_T x) cap' g) := by rw [← hw, tm_up_n hqa]; exact tm_up_s
    show tm_V x (tm_G x w_7) 0 0 10 [(0, .ref (a)), (1, .ref (v0)), (2, .ref (tm_e0 x)), (3, .int (I ((n : Int))))] [.ref (q)]
    refine tm_astore_n [(2, .ref (q)), (0, .ref (a)), (1, .ref (v0)), (3, .int (I ((n : Int))))] hC dJx4a65c_add_72be8_10 rfl (by rw [hB.2.1]; exact Nat.le_of_ble_eq_true rfl) rfl ?_
    refine tm_aload_n 0 hC dJx4a65c_add_72be8_11 rfl rfl ?_
    refine tm_iload_n 3 hC dJx4a65c_add_72be8_12 rfl rfl ?_
    refine tm_aload_n 2 hC dJx4a65c_add_72be8_13 rfl rfl ?_
    refine tm_aast1 hC hq2 (by omega) (hv2) dJx4a65c_add_72be8_14 ?_
    obtain ⟨w1, hw2⟩ : ∃ z, z = tm_up w_7 q (tm_ao (tm_T x) cap' (va_up g ((n : Int) : Int).toNat (some v0))) := ⟨_, rfl⟩
    show tm_V x (tm_G x (tm_up w_7 q (tm_ao (tm_T x) cap' (va_up g ((n : Int) : Int).toNat (some v0))))) 0 0 15 [(2, .ref (q)), (0, .ref (a)), (1, .ref (v0)), (3, .int (I ((n : Int))))] []
    rw [← hw2]
    have hw1_q : w1 q = some (tm_ao (tm_T x) cap' (va_up g ((n : Int) : Int).toNat (some v0))) := by rw [hw2]; first | done | exact tm_up_s
    have hw1_a := (show w1 a = _ by rw [hw2]; exact tm_up_n (fun z => absurd (hq2.symm.trans (z ▸ ha2)) (by intro q; cases q))).trans ha2
    refine tm_aload_n 1 hC dJx4a65c_add_72be8_15 rfl rfl ?_
    refine tm_iload_n 3 hC dJx4a65c_add_72be8_16 rfl rfl ?_
    refine tm_iconst hC dJx4a65c_add_72be8_17 ?_
    refine tm_iadd hC dJx4a65c_add_72be8_18 ?_
    refine tm_putf1 hC f_Jx4a65c_48 hw1_a (tt_0_2 _) (Nat.le_of_ble_eq_true rfl) dJx4a65c_add_72be8_19 ?_
    obtain ⟨w3, hw4⟩ : ∃ z, z = tm_up w1 a (.inr (0, [.int (mc), .ref (q), .int (I ((n : Int) + 1))])) := ⟨_, rfl⟩
    show tm_V x (tm_G x (tm_up w1 a (.inr (0, [.int (mc), .ref (q), .int (I ((n : Int) + 1))])))) 0 0 22 [(2, .ref (q)), (0, .ref (a)), (1, .ref (v0)), (3, .int (I ((n : Int))))] []
    rw [← hw4]
    have hw3_a : w3 a = some (.inr (0, [.int (mc), .ref (q), .int (I ((n : Int) + 1))])) := by rw [hw4]; first | done | exact tm_up_s
    have hw3_q := (show w3 q = _ by rw [hw4]; exact tm_up_n (fun z => absurd (hw1_a.symm.trans (z ▸ hw1_q)) (by intro q; cases q))).trans hw1_q
    exact tm_vret hC hR dJx4a65c_add_72be8_22 (⟨rfl, q, cap', va_up g ((n : Int)).toNat (some v0), Or.inl hq, fun b hb1 hb2 => by rw [hw4, tm_up_n hb1, hw2, tm_up_n hb2, ← hw, tm_up_n hb1, tm_up_n hb2], by rw [hw4]; exact tm_up_s, (by rw [hw4, tm_up_n (hqa), hw2]; exact tm_up_s), by omega, if_pos rfl, fun i hi => (if_neg (by omega)).trans (hg i hi)⟩)

set_option maxHeartbeats 4000000 in
set_option maxRecDepth 100000 in
theorem c_add3B (γ : tmG) (hst : γ.1.stackTraces = false) (Ω : tmO) (a d n v0 : Nat) (mc : Int32) (f : Nat → Option Nat) (ha : Ω a = some (.inr (0, [.int mc, .ref d, .int (I n)]))) (hv : tm_el Ω v0) (hd : Ω d = some (tm_ao γ.2.2.1 n f)) (hn : 10 ≤ n ∧ n ≤ 250) (he : ∀ i : Nat, i < n → ∀ y : Nat, f i = some y → tm_el Ω y) : tm_Con γ (tm_hol γ.2.1) M_Jx4a65c_add_72be8 6 1 400 [.ref (a), .ref (v0), .ref (d), .int (I ((n : Int)))] Ω (fun v w' => v = none ∧ ∃ (d' cap' : Nat) (g : Nat → Option Nat), (Ω d' = none ∨ (d' = d ∧ Ω d ≠ none)) ∧ (∀ b, b ≠ a → b ≠ d' → w' b = Ω b) ∧ w' a = some (.inr (0, [.int mc, .ref d', .int (I ((n : Int) + 1))])) ∧ w' d' = some (tm_ao γ.2.2.1 cap' g) ∧ (n + 1 ≤ cap' ∧ cap' ≤ 400 ∧ 10 ≤ cap') ∧ g n = some v0 ∧ ∀ i : Nat, i < n → g i = f i) := by
  refine tm_con hst (by decide) (Nat.le_of_ble_eq_true rfl) (fun x hB hR => ?_)
  have hg := hB.1
  subst hg
  have hC : tm_C x cJx4a65c_add_72be8 RJx4a65c (none) := hB.2.2.2.1
  show tm_V x (tm_G x Ω) 1 400 0 [(0, .ref (a)), (1, .ref (v0)), (2, .ref (d)), (3, .int (I ((n : Int))))] []
  refine tm_iload_n 3 hC dJx4a65c_add_72be8_0 rfl rfl ?_
  refine tm_aload_n 2 hC dJx4a65c_add_72be8_1 rfl rfl ?_
  refine tm_alen1 (t0 := 3) (ty := .object "java/lang/Object") hC hd rfl dJx4a65c_add_72be8_2 ?_
  refine tm_icmp_ne 11 hC dJx4a65c_add_72be8_3 (by decide) (by omega) (fun c_3 => ?_) (fun c_3 => ?_)
  · exact ((by omega) : False).elim
  · refine tm_aload_n 0 hC dJx4a65c_add_72be8_6 rfl rfl ?_
    refine tm_less (b' := 1 + 0) (n' := 400 + 0) ⟨by omega, by omega⟩ ?_
    refine tm_callV (b := 0) (n := 0) (rest := []) hC (c_grow0 (tm_g x) hst Ω a d n mc f ha (Or.inr ⟨hd, hn, he⟩)) k_Jx4a65c_129 (by rw [hB.2.2.1]; exact ⟨Nat.le_of_ble_eq_true rfl, Nat.le_of_ble_eq_true rfl⟩) rfl (tm_rec1 hC ha rfl) rfl (by decide) dJx4a65c_add_72be8_7 (fun v_7 w_7 hp_7 => ?_)
    obtain ⟨q, cap', g, hq, hw, hc, hg, rfl⟩ := hp_7
    have hqa : q ≠ a := fun z => by subst z; rw [hq] at ha; cases ha
    have hv2 : tm_el w_7 v0 := by rw [← hw]; exact tm_el_put (tm_el_up hv hq) ((tm_up_n (Ne.symm hqa)).trans ha)
    have ha2 : w_7 a = some (.inr (0, [.int mc, .ref q, .int (I n)])) := by rw [← hw]; exact tm_up_s
    have hq2 : w_7 q = some (tm_ao (tm_T x) cap' g) := by rw [← hw, tm_up_n hqa]; exact tm_up_s
    show tm_V x (tm_G x w_7) 0 0 10 [(0, .ref (a)), (1, .ref (v0)), (2, .ref (d)), (3, .int (I ((n : Int))))] [.ref (q)]
    refine tm_astore_n [(2, .ref (q)), (0, .ref (a)), (1, .ref (v0)), (3, .int (I ((n : Int))))] hC dJx4a65c_add_72be8_10 rfl (by rw [hB.2.1]; exact Nat.le_of_ble_eq_true rfl) rfl ?_
    refine tm_aload_n 0 hC dJx4a65c_add_72be8_11 rfl rfl ?_
    refine tm_iload_n 3 hC dJx4a65c_add_72be8_12 rfl rfl ?_
    refine tm_aload_n 2 hC dJx4a65c_add_72be8_13 rfl rfl ?_
    refine tm_aast1 hC hq2 (by omega) (hv2) dJx4a65c_add_72be8_14 ?_
    obtain ⟨w1, hw2⟩ : ∃ z, z = tm_up w_7 q (tm_ao (tm_T x) cap' (va_up g ((n : Int) : Int).toNat (some v0))) := ⟨_, rfl⟩
    show tm_V x (tm_G x (tm_up w_7 q (tm_ao (tm_T x) cap' (va_up g ((n : Int) : Int).toNat (some v0))))) 0 0 15 [(2, .ref (q)), (0, .ref (a)), (1, .ref (v0)), (3, .int (I ((n : Int))))] []
    rw [← hw2]
    have hw1_q : w1 q = some (tm_ao (tm_T x) cap' (va_up g ((n : Int) : Int).toNat (some v0))) := by rw [hw2]; first | done | exact tm_up_s
    have hw1_a := (show w1 a = _ by rw [hw2]; exact tm_up_n (fun z => absurd (hq2.symm.trans (z ▸ ha2)) (by intro q; cases q))).trans ha2
    refine tm_aload_n 1 hC dJx4a65c_add_72be8_15 rfl rfl ?_
    refine tm_iload_n 3 hC dJx4a65c_add_72be8_16 rfl rfl ?_
    refine tm_iconst hC dJx4a65c_add_72be8_17 ?_
    refine tm_iadd hC dJx4a65c_add_72be8_18 ?_
    refine tm_putf1 hC f_Jx4a65c_48 hw1_a (tt_0_2 _) (Nat.le_of_ble_eq_true rfl) dJx4a65c_add_72be8_19 ?_
    obtain ⟨w3, hw4⟩ : ∃ z, z = tm_up w1 a (.inr (0, [.int (mc), .ref (q), .int (I ((n : Int) + 1))])) := ⟨_, rfl⟩
    show tm_V x (tm_G x (tm_up w1 a (.inr (0, [.int (mc), .ref (q), .int (I ((n : Int) + 1))])))) 0 0 22 [(2, .ref (q)), (0, .ref (a)), (1, .ref (v0)), (3, .int (I ((n : Int))))] []
    rw [← hw4]
    have hw3_a : w3 a = some (.inr (0, [.int (mc), .ref (q), .int (I ((n : Int) + 1))])) := by rw [hw4]; first | done | exact tm_up_s
    have hw3_q := (show w3 q = _ by rw [hw4]; exact tm_up_n (fun z => absurd (hw1_a.symm.trans (z ▸ hw1_q)) (by intro q; cases q))).trans hw1_q
    exact tm_vret hC hR dJx4a65c_add_72be8_22 (⟨rfl, q, cap', va_up g ((n : Int)).toNat (some v0), Or.inl hq, fun b hb1 hb2 => by rw [hw4, tm_up_n hb1, hw2, tm_up_n hb2, ← hw, tm_up_n hb1, tm_up_n hb2], by rw [hw4]; exact tm_up_s, (by rw [hw4, tm_up_n (hqa), hw2]; exact tm_up_s), by omega, if_pos rfl, fun i hi => (if_neg (by omega)).trans (hg i hi)⟩)

set_option maxHeartbeats 4000000 in
set_option maxRecDepth 100000 in
theorem c_add3C (γ : tmG) (hst : γ.1.stackTraces = false) (Ω : tmO) (a d n v0 : Nat) (mc : Int32) (f : Nat → Option Nat) (ha : Ω a = some (.inr (0, [.int mc, .ref d, .int (I n)]))) (hv : tm_el Ω v0) (cap : Nat) (hd : Ω d = some (tm_ao γ.2.2.1 cap f)) (hn : n < cap ∧ cap ≤ 400 ∧ 10 ≤ cap) : tm_Con γ (tm_hol γ.2.1) M_Jx4a65c_add_72be8 6 1 400 [.ref (a), .ref (v0), .ref (d), .int (I ((n : Int)))] Ω (fun v w' => v = none ∧ ∃ (d' cap' : Nat) (g : Nat → Option Nat), (Ω d' = none ∨ (d' = d ∧ Ω d ≠ none)) ∧ (∀ b, b ≠ a → b ≠ d' → w' b = Ω b) ∧ w' a = some (.inr (0, [.int mc, .ref d', .int (I ((n : Int) + 1))])) ∧ w' d' = some (tm_ao γ.2.2.1 cap' g) ∧ (n + 1 ≤ cap' ∧ cap' ≤ 400 ∧ 10 ≤ cap') ∧ g n = some v0 ∧ ∀ i : Nat, i < n → g i = f i) := by
  refine tm_con hst (by decide) (Nat.le_of_ble_eq_true rfl) (fun x hB hR => ?_)
  have hg := hB.1
  subst hg
  have hC : tm_C x cJx4a65c_add_72be8 RJx4a65c (none) := hB.2.2.2.1
  show tm_V x (tm_G x Ω) 1 400 0 [(0, .ref (a)), (1, .ref (v0)), (2, .ref (d)), (3, .int (I ((n : Int))))] []
  refine tm_iload_n 3 hC dJx4a65c_add_72be8_0 rfl rfl ?_
  refine tm_aload_n 2 hC dJx4a65c_add_72be8_1 rfl rfl ?_
  refine tm_alen1 (t0 := 3) (ty := .object "java/lang/Object") hC hd rfl dJx4a65c_add_72be8_2 ?_
  refine tm_icmp_ne 11 hC dJx4a65c_add_72be8_3 (by decide) (by omega) (fun c_3 => ?_) (fun c_3 => ?_)
  · refine tm_aload_n 2 hC dJx4a65c_add_72be8_11 rfl rfl ?_
    refine tm_iload_n 3 hC dJx4a65c_add_72be8_12 rfl rfl ?_
    refine tm_aload_n 1 hC dJx4a65c_add_72be8_13 rfl rfl ?_
    refine tm_aast1 hC hd (by omega) (hv) dJx4a65c_add_72be8_14 ?_
    obtain ⟨w1, hw2⟩ : ∃ z, z = tm_up Ω d (tm_ao (tm_T x) cap (va_up f ((n : Int) : Int).toNat (some v0))) := ⟨_, rfl⟩
    show tm_V x (tm_G x (tm_up Ω d (tm_ao (tm_T x) cap (va_up f ((n : Int) : Int).toNat (some v0))))) 1 400 15 [(0, .ref (a)), (1, .ref (v0)), (2, .ref (d)), (3, .int (I ((n : Int))))] []
    rw [← hw2]
    have hw1_d : w1 d = some (tm_ao (tm_T x) cap (va_up f ((n : Int) : Int).toNat (some v0))) := by rw [hw2]; first | done | exact tm_up_s
    have hw1_a := (show w1 a = _ by rw [hw2]; exact tm_up_n (fun z => absurd (hd.symm.trans (z ▸ ha)) (by intro q; cases q))).trans ha
    refine tm_aload_n 0 hC dJx4a65c_add_72be8_15 rfl rfl ?_
    refine tm_iload_n 3 hC dJx4a65c_add_72be8_16 rfl rfl ?_
    refine tm_iconst hC dJx4a65c_add_72be8_17 ?_
    refine tm_iadd hC dJx4a65c_add_72be8_18 ?_
    refine tm_putf1 hC f_Jx4a65c_48 hw1_a (tt_0_2 _) (Nat.le_of_ble_eq_true rfl) dJx4a65c_add_72be8_19 ?_
    obtain ⟨w3, hw4⟩ : ∃ z, z = tm_up w1 a (.inr (0, [.int (mc), .ref (d), .int (I ((n : Int) + 1))])) := ⟨_, rfl⟩
    show tm_V x (tm_G x (tm_up w1 a (.inr (0, [.int (mc), .ref (d), .int (I ((n : Int) + 1))])))) 1 400 22 [(0, .ref (a)), (1, .ref (v0)), (2, .ref (d)), (3, .int (I ((n : Int))))] []
    rw [← hw4]
    have hw3_a : w3 a = some (.inr (0, [.int (mc), .ref (d), .int (I ((n : Int) + 1))])) := by rw [hw4]; first | done | exact tm_up_s
    have hw3_d := (show w3 d = _ by rw [hw4]; exact tm_up_n (fun z => absurd (hw1_a.symm.trans (z ▸ hw1_d)) (by intro q; cases q))).trans hw1_d
    exact tm_vret hC hR dJx4a65c_add_72be8_22 (⟨rfl, d, cap, va_up f ((n : Int)).toNat (some v0), Or.inr ⟨rfl, by rw [hd]; exact fun z => by cases z⟩, fun b hb1 hb2 => by rw [hw4, tm_up_n hb1, hw2, tm_up_n hb2], by rw [hw4]; exact tm_up_s, (by rw [hw4, tm_up_n (fun z => absurd (z ▸ hd) (by rw [ha]; intro q; cases q)), hw2]; exact tm_up_s), by omega, if_pos rfl, fun i hi => (if_neg (by omega)).trans (rfl)⟩)
  · exact ((by omega) : False).elim

theorem c_add3 (γ : tmG) (hst : γ.1.stackTraces = false) (Ω : tmO) (a d n v0 : Nat) (mc : Int32) (f : Nat → Option Nat) (ha : Ω a = some (.inr (0, [.int mc, .ref d, .int (I n)]))) (hv : tm_el Ω v0) (h : ((d = γ.2.2.2.1 ∧ n = 0) ∨ (∃ cap, Ω d = some (tm_ao γ.2.2.1 cap f) ∧ n ≤ cap ∧ cap ≤ 400 ∧ 10 ≤ cap ∧ n ≤ 250 ∧ ∀ i : Nat, i < n → ∀ y : Nat, f i = some y → tm_el Ω y))) : tm_Con γ (tm_hol γ.2.1) M_Jx4a65c_add_72be8 6 1 400 [.ref a, .ref v0, .ref d, .int (I (n : Int))] Ω (fun v w' => v = none ∧ ∃ (d' cap' : Nat) (g : Nat → Option Nat), (Ω d' = none ∨ (d' = d ∧ Ω d ≠ none)) ∧ (∀ b, b ≠ a → b ≠ d' → w' b = Ω b) ∧ w' a = some (.inr (0, [.int mc, .ref d', .int (I ((n : Int) + 1))])) ∧ w' d' = some (tm_ao γ.2.2.1 cap' g) ∧ (n + 1 ≤ cap' ∧ cap' ≤ 400 ∧ 10 ≤ cap') ∧ g n = some v0 ∧ ∀ i : Nat, i < n → g i = f i) := by
  rcases h with ⟨h1, h2⟩ | ⟨cap, h1, h2, h3, h4, h5, h6⟩
  · subst h1; exact c_add3A γ hst Ω a γ.2.2.2.1 n v0 mc f ha hv h2
  · by_cases hc : n = cap
    · subst hc; exact c_add3B γ hst Ω a d n v0 mc f ha hv h1 ⟨h4, h5⟩ h6
    · exact c_add3C γ hst Ω a d n v0 mc f ha hv cap h1 (by omega)

set_option maxHeartbeats 4000000 in
set_option maxRecDepth 100000 in
theorem c_init1 (γ : tmG) (hst : γ.1.stackTraces = false) (Ω : tmO) (a : Nat) (mc : Int32) (ha : Ω a = some (.inr (0, [.int mc, .null, .int (I 0)]))) : tm_Con γ (tm_hol γ.2.1) M_Jx4a65c_init_da8c8 3 0 0 [.ref (a)] Ω (fun v w' => tm_up Ω a (.inr (0, [.int (I 0), .ref γ.2.2.2.1, .int (I 0)])) = w' ∧ v = none) := by
  refine tm_con hst (by decide) (Nat.le_of_ble_eq_true rfl) (fun x hB hR => ?_)
  have hg := hB.1
  subst hg
  have hC : tm_C x cJx4a65c_init_da8c8 RJx4a65c (none) := hB.2.2.2.1
  show tm_V x (tm_G x Ω) 0 0 0 [(0, .ref (a))] []
  refine tm_aload_n 0 hC dJx4a65c_init_da8c8_0 rfl rfl ?_
  refine tm_callI (b := 0) (n := 0) (rest := []) hC (c_Jxc12de_init (tm_g x) hst Ω a mc ha) k_Jx4a65c_1 (by rw [hB.2.2.1]; exact ⟨Nat.le_of_ble_eq_true rfl, Nat.le_of_ble_eq_true rfl⟩) rfl rfl (by decide) dJx4a65c_init_da8c8_1 (fun v_1 w_1 hp_1 => ?_)
  obtain ⟨hw, rfl⟩ := hp_1
  have ha2 : w_1 a = some (.inr (0, [.int (I 0), .null, .int (I 0)])) := by rw [← hw]; exact tm_up_s
  show tm_V x (tm_G x w_1) 0 0 4 [(0, .ref (a))] []
  refine tm_aload_n 0 hC dJx4a65c_init_da8c8_4 rfl rfl ?_
  refine tm_gets hC w_Jx4a65c_39 dJx4a65c_init_da8c8_5 ?_
  refine tm_putf1 hC f_Jx4a65c_9 ha2 (tt_0_1 _) (Nat.le_of_ble_eq_true rfl) dJx4a65c_init_da8c8_8 ?_
  obtain ⟨w1, hw2⟩ : ∃ z, z = tm_up w_1 a (.inr (0, [.int (I (0)), .ref (tm_e0 x), .int (I (0))])) := ⟨_, rfl⟩
  show tm_V x (tm_G x (tm_up w_1 a (.inr (0, [.int (I (0)), .ref (tm_e0 x), .int (I (0))])))) 0 0 11 [(0, .ref (a))] []
  rw [← hw2]
  have hw1_a : w1 a = some (.inr (0, [.int (I (0)), .ref (tm_e0 x), .int (I (0))])) := by rw [hw2]; first | done | exact tm_up_s
  exact tm_vret hC hR dJx4a65c_init_da8c8_11 (⟨by rw [hw2, ← hw]; exact tm_up_up.symm, rfl⟩)

set_option maxHeartbeats 4000000 in
set_option maxRecDepth 100000 in
theorem c_add1 (γ : tmG) (hst : γ.1.stackTraces = false) (Ω : tmO) (a d n v0 : Nat) (m0 : Int) (f : Nat → Option Nat) (ha : Ω a = some (.inr (0, [.int (I m0), .ref d, .int (I n)]))) (hv : tm_el Ω v0) (h : ((d = γ.2.2.2.1 ∧ n = 0) ∨ (∃ cap, Ω d = some (tm_ao γ.2.2.1 cap f) ∧ n ≤ cap ∧ cap ≤ 400 ∧ 10 ≤ cap ∧ n ≤ 250 ∧ ∀ i : Nat, i < n → ∀ y : Nat, f i = some y → tm_el Ω y))) : tm_Con γ (tm_hol γ.2.1) M_Jx4a65c_add_9ea2d 7 1 400 [.ref (a), .ref (v0)] Ω (fun v w' => v = some (.int (I 1)) ∧ ∃ (d' cap' : Nat) (g : Nat → Option Nat), (Ω d' = none ∨ (d' = d ∧ Ω d ≠ none)) ∧ (∀ b, b ≠ a → b ≠ d' → w' b = Ω b) ∧ w' a = some (.inr (0, [.int (I (m0 + 1)), .ref d', .int (I ((n : Int) + 1))])) ∧ w' d' = some (tm_ao γ.2.2.1 cap' g) ∧ (n + 1 ≤ cap' ∧ cap' ≤ 400 ∧ 10 ≤ cap') ∧ g n = some v0 ∧ ∀ i : Nat, i < n → g i = f i) := by
  refine tm_con hst (by decide) (Nat.le_of_ble_eq_true rfl) (fun x hB hR => ?_)
  have hg := hB.1
  subst hg
  have hC : tm_C x cJx4a65c_add_9ea2d RJx4a65c (some FieldType.boolean) := hB.2.2.2.1
  show tm_V x (tm_G x Ω) 1 400 0 [(0, .ref (a)), (1, .ref (v0))] []
  refine tm_aload_n 0 hC dJx4a65c_add_9ea2d_0 rfl rfl ?_
  refine tm_dup hC dJx4a65c_add_9ea2d_1 rfl ?_
  refine tm_getf1 hC f_Jx4a65c_63 ha rfl dJx4a65c_add_9ea2d_2 ?_
  refine tm_iconst hC dJx4a65c_add_9ea2d_5 ?_
  refine tm_iadd hC dJx4a65c_add_9ea2d_6 ?_
  refine tm_putf1 hC f_Jx4a65c_63 ha (tt_0_0 _) (Nat.le_of_ble_eq_true rfl) dJx4a65c_add_9ea2d_7 ?_
  obtain ⟨w1, hw2⟩ : ∃ z, z = tm_up Ω a (.inr (0, [.int (I (m0 + 1)), .ref (d), .int (I ((n : Int)))])) := ⟨_, rfl⟩
  show tm_V x (tm_G x (tm_up Ω a (.inr (0, [.int (I (m0 + 1)), .ref (d), .int (I ((n : Int)))])))) 1 400 10 [(0, .ref (a)), (1, .ref (v0))] []
  rw [← hw2]
  have hw1_a : w1 a = some (.inr (0, [.int (I (m0 + 1)), .ref (d), .int (I ((n : Int)))])) := by rw [hw2]; first | done | exact tm_up_s
  refine tm_aload_n 0 hC dJx4a65c_add_9ea2d_10 rfl rfl ?_
  refine tm_aload_n 1 hC dJx4a65c_add_9ea2d_11 rfl rfl ?_
  refine tm_aload_n 0 hC dJx4a65c_add_9ea2d_12 rfl rfl ?_
  refine tm_getf1 hC f_Jx4a65c_9 hw1_a rfl dJx4a65c_add_9ea2d_13 ?_
  refine tm_aload_n 0 hC dJx4a65c_add_9ea2d_16 rfl rfl ?_
  refine tm_getf1 hC f_Jx4a65c_48 hw1_a rfl dJx4a65c_add_9ea2d_17 ?_
  have hv2 : tm_el w1 v0 := by rw [hw2]; exact tm_el_put hv ha
  have h2 : (d = tm_e0 x ∧ n = 0) ∨ (∃ cap, w1 d = some (tm_ao (tm_T x) cap f) ∧ n ≤ cap ∧ cap ≤ 400 ∧ 10 ≤ cap ∧ n ≤ 250 ∧ ∀ i : Nat, i < n → ∀ y : Nat, f i = some y → tm_el w1 y) := by
    rcases h with h | ⟨cap, e1, e2, e3, e4, e5, e6⟩
    · exact Or.inl h
    · exact Or.inr ⟨cap, by rw [hw2, tm_up_n (fun z => absurd (z ▸ e1) (by rw [ha]; intro q; cases q))]; exact e1, e2, e3, e4, e5, fun i hi y hy => by rw [hw2]; exact tm_el_put (e6 i hi y hy) ha⟩
  refine tm_less (b' := 1 + 0) (n' := 400 + 0) ⟨by omega, by omega⟩ ?_
  refine tm_callV (b := 0) (n := 0) (rest := []) hC (c_add3 (tm_g x) hst w1 a d n v0 (I (m0 + 1)) f hw1_a hv2 h2) k_Jx4a65c_131 (by rw [hB.2.2.1]; exact ⟨Nat.le_of_ble_eq_true rfl, Nat.le_of_ble_eq_true rfl⟩) rfl (tm_rec1 hC hw1_a rfl) rfl (by decide) dJx4a65c_add_9ea2d_20 (fun v_20 w_20 hp_20 => ?_)
  obtain ⟨rfl, d', cap', g, hd, hk, hoa, hod, hc, hgn, hgi⟩ := hp_20
  show tm_V x (tm_G x w_20) 0 0 23 [(0, .ref (a)), (1, .ref (v0))] []
  refine tm_iconst hC dJx4a65c_add_9ea2d_23 ?_
  exact tm_zret hC hR dJx4a65c_add_9ea2d_24 (by omega) (⟨rfl, d', cap', g, (by
      rcases hd with hd | ⟨rfl, hd⟩
      · exact Or.inl (tm_up_none (by rw [← hw2]; exact hd))
      · exact Or.inr ⟨rfl, fun z => hd (by rw [hw2, tm_up_n (fun e => by rw [e, ha] at z; cases z)]; exact z)⟩), fun b h1 h2 => (hk b h1 h2).trans (by rw [hw2]; exact tm_up_n h1), hoa, hod, hc, hgn, hgi⟩)

set_option maxHeartbeats 4000000 in
set_option maxRecDepth 100000 in
theorem c_rca (γ : tmG) (hst : γ.1.stackTraces = false) (Ω : tmO) (a d n : Nat) (mc : Int32) (ha : Ω a = some (.inr (0, [.int mc, .ref d, .int (I n)]))) (i : Nat) (hi : i ≤ n ∧ n ≤ 100000) : tm_Con γ (tm_hol γ.2.1) M_Jx4a65c_rangeCheckForAdd_d00df 1 0 0 [.ref (a), .int (I ((i : Int)))] Ω (fun v w' => Ω = w' ∧ v = none) := by
  refine tm_con hst (by decide) (Nat.le_of_ble_eq_true rfl) (fun x hB hR => ?_)
  have hg := hB.1
  subst hg
  have hC : tm_C x cJx4a65c_rangeCheckForAdd_d00df RJx4a65c (none) := hB.2.2.2.1
  show tm_V x (tm_G x Ω) 0 0 0 [(0, .ref (a)), (1, .int (I ((i : Int))))] []
  refine tm_iload_n 1 hC dJx4a65c_rangeCheckForAdd_d00df_0 rfl rfl ?_
  refine tm_aload_n 0 hC dJx4a65c_rangeCheckForAdd_d00df_1 rfl rfl ?_
  refine tm_getf1 hC f_Jx4a65c_48 ha rfl dJx4a65c_rangeCheckForAdd_d00df_2 ?_
  refine tm_icmp_gt 12 hC dJx4a65c_rangeCheckForAdd_d00df_5 (by decide) (by omega) (fun c_5 => ?_) (fun c_5 => ?_)
  · exact ((by omega) : False).elim
  · refine tm_iload_n 1 hC dJx4a65c_rangeCheckForAdd_d00df_8 rfl rfl ?_
    refine tm_if_ge 25 hC dJx4a65c_rangeCheckForAdd_d00df_9 (by decide) (by omega) (fun c_9 => ?_) (fun c_9 => ?_)
    · exact tm_vret hC hR dJx4a65c_rangeCheckForAdd_d00df_25 (⟨rfl, rfl⟩)
    · exact ((by omega) : False).elim

set_option maxHeartbeats 4000000 in
set_option maxRecDepth 100000 in
theorem c_eld (γ : tmG) (hst : γ.1.stackTraces = false) (Ω : tmO) (a d n : Nat) (mc : Int32) (ha : Ω a = some (.inr (0, [.int mc, .ref d, .int (I n)]))) (cap i v0 : Nat) (f : Nat → Option Nat) (hd : Ω d = some (tm_ao γ.2.2.1 cap f)) (hi : i < cap ∧ cap ≤ 400) (hf : f i = some v0) : tm_Con γ (tm_hol γ.2.1) M_Jx4a65c_elementData_915e3 1 0 0 [.ref (a), .int (I ((i : Int)))] Ω (fun v w' => Ω = w' ∧ v = some (.ref v0)) := by
  refine tm_con hst (by decide) (Nat.le_of_ble_eq_true rfl) (fun x hB hR => ?_)
  have hg := hB.1
  subst hg
  have hC : tm_C x cJx4a65c_elementData_915e3 RJx4a65c (some (FieldType.object "java/lang/Object")) := hB.2.2.2.1
  show tm_V x (tm_G x Ω) 0 0 0 [(0, .ref (a)), (1, .int (I ((i : Int))))] []
  refine tm_aload_n 0 hC dJx4a65c_elementData_915e3_0 rfl rfl ?_
  refine tm_getf1 hC f_Jx4a65c_9 ha rfl dJx4a65c_elementData_915e3_1 ?_
  refine tm_iload_n 1 hC dJx4a65c_elementData_915e3_4 rfl rfl ?_
  refine tm_aald1 hC hd (by omega) (hf) dJx4a65c_elementData_915e3_5 ?_
  exact tm_aret hC hR (Or.inl ⟨_, rfl⟩) dJx4a65c_elementData_915e3_6 (⟨rfl, rfl⟩)

set_option maxHeartbeats 4000000 in
set_option maxRecDepth 100000 in
theorem c_get1 (γ : tmG) (hst : γ.1.stackTraces = false) (Ω : tmO) (a d n : Nat) (mc : Int32) (ha : Ω a = some (.inr (0, [.int mc, .ref d, .int (I n)]))) (cap i v0 : Nat) (f : Nat → Option Nat) (hd : Ω d = some (tm_ao γ.2.2.1 cap f)) (hi : i < n ∧ n ≤ cap ∧ cap ≤ 400) (hf : f i = some v0) : tm_Con γ (tm_hol γ.2.1) M_Jx4a65c_get_915e3 3 0 0 [.ref (a), .int (I ((i : Int)))] Ω (fun v w' => Ω = w' ∧ v = some (.ref v0)) := by
  refine tm_con hst (by decide) (Nat.le_of_ble_eq_true rfl) (fun x hB hR => ?_)
  have hg := hB.1
  subst hg
  have hC : tm_C x cJx4a65c_get_915e3 RJx4a65c (some (FieldType.object "java/lang/Object")) := hB.2.2.2.1
  show tm_V x (tm_G x Ω) 0 0 0 [(0, .ref (a)), (1, .int (I ((i : Int))))] []
  refine tm_iload_n 1 hC dJx4a65c_get_915e3_0 rfl rfl ?_
  refine tm_aload_n 0 hC dJx4a65c_get_915e3_1 rfl rfl ?_
  refine tm_getf1 hC f_Jx4a65c_48 ha rfl dJx4a65c_get_915e3_2 ?_
  refine tm_callS (b := 0) (n := 0) (rest := []) hC (c_J15_checkIndex (tm_g x) hst (tm_hol (tm_D x)) _ (i : Int) (n : Int) (by omega)) k_Jx4a65c_118 (by rw [hB.2.2.1]; exact ⟨Nat.le_of_ble_eq_true rfl, Nat.le_of_ble_eq_true rfl⟩) rfl rfl (by decide) dJx4a65c_get_915e3_5 (fun v_5 w_5 hp_5 => ?_)
  obtain ⟨rfl, rfl⟩ := hp_5
  show tm_V x (tm_G x Ω) 0 0 8 [(0, .ref (a)), (1, .int (I ((i : Int))))] [.int (I ((i : Int)))]
  refine tm_pop hC dJx4a65c_get_915e3_8 rfl ?_
  refine tm_aload_n 0 hC dJx4a65c_get_915e3_9 rfl rfl ?_
  refine tm_iload_n 1 hC dJx4a65c_get_915e3_10 rfl rfl ?_
  refine tm_callV (b := 0) (n := 0) (rest := []) hC (c_eld (tm_g x) hst Ω a d n mc ha cap i v0 f hd (by omega) hf) k_Jx4a65c_123 (by rw [hB.2.2.1]; exact ⟨Nat.le_of_ble_eq_true rfl, Nat.le_of_ble_eq_true rfl⟩) rfl (tm_rec1 hC ha rfl) rfl (by decide) dJx4a65c_get_915e3_11 (fun v_11 w_11 hp_11 => ?_)
  obtain ⟨rfl, rfl⟩ := hp_11
  show tm_V x (tm_G x Ω) 0 0 14 [(0, .ref (a)), (1, .int (I ((i : Int))))] [.ref (v0)]
  exact tm_aret hC hR (Or.inl ⟨_, rfl⟩) dJx4a65c_get_915e3_14 (⟨rfl, rfl⟩)

set_option maxHeartbeats 4000000 in
set_option maxRecDepth 100000 in
theorem c_size1 (γ : tmG) (hst : γ.1.stackTraces = false) (Ω : tmO) (a d n : Nat) (mc : Int32) (ha : Ω a = some (.inr (0, [.int mc, .ref d, .int (I n)]))) : tm_Con γ (tm_hol γ.2.1) M_Jx4a65c_size_8abf5 1 0 0 [.ref (a)] Ω (fun v w' => Ω = w' ∧ v = some (.int (I (n : Int)))) := by
  refine tm_con hst (by decide) (Nat.le_of_ble_eq_true rfl) (fun x hB hR => ?_)
  have hg := hB.1
  subst hg
  have hC : tm_C x cJx4a65c_size_8abf5 RJx4a65c (some FieldType.int) := hB.2.2.2.1
  show tm_V x (tm_G x Ω) 0 0 0 [(0, .ref (a))] []
  refine tm_aload_n 0 hC dJx4a65c_size_8abf5_0 rfl rfl ?_
  refine tm_getf1 hC f_Jx4a65c_48 ha rfl dJx4a65c_size_8abf5_1 ?_
  exact tm_iret hC hR dJx4a65c_size_8abf5_4 (⟨rfl, rfl⟩)

set_option maxHeartbeats 4000000 in
set_option maxRecDepth 100000 in
theorem c_isE1 (γ : tmG) (hst : γ.1.stackTraces = false) (Ω : tmO) (a d n : Nat) (mc : Int32) (ha : Ω a = some (.inr (0, [.int mc, .ref d, .int (I n)]))) (hn : n ≤ 100000) : tm_Con γ (tm_hol γ.2.1) M_Jx4a65c_isEmpty_aae02 1 0 0 [.ref (a)] Ω (fun v w' => Ω = w' ∧ v = some (.int (I (bi (n = 0))))) := by
  refine tm_con hst (by decide) (Nat.le_of_ble_eq_true rfl) (fun x hB hR => ?_)
  have hg := hB.1
  subst hg
  have hC : tm_C x cJx4a65c_isEmpty_aae02 RJx4a65c (some FieldType.boolean) := hB.2.2.2.1
  show tm_V x (tm_G x Ω) 0 0 0 [(0, .ref (a))] []
  refine tm_aload_n 0 hC dJx4a65c_isEmpty_aae02_0 rfl rfl ?_
  refine tm_getf1 hC f_Jx4a65c_48 ha rfl dJx4a65c_isEmpty_aae02_1 ?_
  refine tm_if_ne 11 hC dJx4a65c_isEmpty_aae02_4 (by decide) (by omega) (fun c_4 => ?_) (fun c_4 => ?_)
  · refine tm_iconst hC dJx4a65c_isEmpty_aae02_11 ?_
    exact tm_zret hC hR dJx4a65c_isEmpty_aae02_12 (by omega) (⟨rfl, by rw [bi_f (by omega)]⟩)
  · refine tm_iconst hC dJx4a65c_isEmpty_aae02_7 ?_
    refine tm_goto 12 hC dJx4a65c_isEmpty_aae02_8 (by decide) ?_
    exact tm_zret hC hR dJx4a65c_isEmpty_aae02_12 (by omega) (⟨rfl, by rw [bi_t (by omega)]⟩)

set_option maxHeartbeats 4000000 in
set_option maxRecDepth 100000 in
theorem c_frem (γ : tmG) (hst : γ.1.stackTraces = false) (Ω : tmO) (a d n cap i : Nat) (m0 : Int) (f : Nat → Option Nat) (ha : Ω a = some (.inr (0, [.int (I m0), .ref d, .int (I n)]))) (hd : Ω d = some (tm_ao γ.2.2.1 cap f)) (hi : i < n ∧ n ≤ cap ∧ cap ≤ 400) (he : ∀ j : Nat, j < n → ∀ y : Nat, f j = some y → tm_el Ω y) : tm_Con γ (tm_hol γ.2.1) M_Jx4a65c_fastRemove_b59b0 1 0 0 [.ref (a), .ref (d), .int (I ((i : Int)))] Ω (fun v w' => v = none ∧ (∀ b, b ≠ a → b ≠ d → w' b = Ω b) ∧ ∃ g : Nat → Option Nat, w' a = some (.inr (0, [.int (I (m0 + 1)), .ref d, .int (I ((n : Int) - 1))])) ∧ w' d = some (tm_ao γ.2.2.1 cap g) ∧ (∀ j : Nat, j < i → g j = f j) ∧ ∀ j : Nat, i ≤ j → j < n - 1 → g j = f (j + 1)) := by
  refine tm_con hst (by decide) (Nat.le_of_ble_eq_true rfl) (fun x hB hR => ?_)
  have hg := hB.1
  subst hg
  have hC : tm_C x cJx4a65c_fastRemove_b59b0 RJx4a65c (none) := hB.2.2.2.1
  show tm_V x (tm_G x Ω) 0 0 0 [(0, .ref (a)), (1, .ref (d)), (2, .int (I ((i : Int))))] []
  refine tm_aload_n 0 hC dJx4a65c_fastRemove_b59b0_0 rfl rfl ?_
  refine tm_dup hC dJx4a65c_fastRemove_b59b0_1 rfl ?_
  refine tm_getf1 hC f_Jx4a65c_63 ha rfl dJx4a65c_fastRemove_b59b0_2 ?_
  refine tm_iconst hC dJx4a65c_fastRemove_b59b0_5 ?_
  refine tm_iadd hC dJx4a65c_fastRemove_b59b0_6 ?_
  refine tm_putf1 hC f_Jx4a65c_63 ha (tt_0_0 _) (Nat.le_of_ble_eq_true rfl) dJx4a65c_fastRemove_b59b0_7 ?_
  obtain ⟨w1, hw2⟩ : ∃ z, z = tm_up Ω a (.inr (0, [.int (I (m0 + 1)), .ref (d), .int (I ((n : Int)))])) := ⟨_, rfl⟩
  show tm_V x (tm_G x (tm_up Ω a (.inr (0, [.int (I (m0 + 1)), .ref (d), .int (I ((n : Int)))])))) 0 0 10 [(0, .ref (a)), (1, .ref (d)), (2, .int (I ((i : Int))))] []
  rw [← hw2]
  have hw1_a : w1 a = some (.inr (0, [.int (I (m0 + 1)), .ref (d), .int (I ((n : Int)))])) := by rw [hw2]; first | done | exact tm_up_s
  have hw1_d := (show w1 d = _ by rw [hw2]; exact tm_up_n (fun z => absurd (ha.symm.trans (z ▸ hd)) (by intro q; cases q))).trans hd
  refine tm_aload_n 0 hC dJx4a65c_fastRemove_b59b0_10 rfl rfl ?_
  refine tm_getf1 hC f_Jx4a65c_48 hw1_a rfl dJx4a65c_fastRemove_b59b0_11 ?_
  refine tm_iconst hC dJx4a65c_fastRemove_b59b0_14 ?_
  refine tm_isub hC dJx4a65c_fastRemove_b59b0_15 ?_
  refine tm_dup hC dJx4a65c_fastRemove_b59b0_16 rfl ?_
  refine tm_istore_n [(3, .int (I ((n : Int) - 1))), (0, .ref (a)), (1, .ref (d)), (2, .int (I ((i : Int))))] hC dJx4a65c_fastRemove_b59b0_17 rfl (by rw [hB.2.1]; exact Nat.le_of_ble_eq_true rfl) rfl ?_
  refine tm_iload_n 3 hC dJx4a65c_fastRemove_b59b0_18 rfl rfl ?_
  refine tm_icmp_le 34 hC dJx4a65c_fastRemove_b59b0_19 (by decide) (by omega) (fun c_19 => ?_) (fun c_19 => ?_)
  · refine tm_aload_n 2 hC dJx4a65c_fastRemove_b59b0_34 rfl rfl ?_
    refine tm_aload_n 1 hC dJx4a65c_fastRemove_b59b0_35 rfl rfl ?_
    refine tm_iload_n 0 hC dJx4a65c_fastRemove_b59b0_36 rfl rfl ?_
    refine tm_dup_x1 hC dJx4a65c_fastRemove_b59b0_37 rfl rfl ?_
    refine tm_putf1 hC f_Jx4a65c_48 hw1_a (tt_0_2 _) (Nat.le_of_ble_eq_true rfl) dJx4a65c_fastRemove_b59b0_38 ?_
    obtain ⟨w3, hw4⟩ : ∃ z, z = tm_up w1 a (.inr (0, [.int (I (m0 + 1)), .ref (d), .int (I ((n : Int) - 1))])) := ⟨_, rfl⟩
    show tm_V x (tm_G x (tm_up w1 a (.inr (0, [.int (I (m0 + 1)), .ref (d), .int (I ((n : Int) - 1))])))) 0 0 41 [(3, .int (I ((n : Int) - 1))), (0, .ref (a)), (1, .ref (d)), (2, .int (I ((i : Int))))] [.int (I ((n : Int) - 1)), .ref (d)]
    rw [← hw4]
    have hw3_a : w3 a = some (.inr (0, [.int (I (m0 + 1)), .ref (d), .int (I ((n : Int) - 1))])) := by rw [hw4]; first | done | exact tm_up_s
    have hw3_d := (show w3 d = _ by rw [hw4]; exact tm_up_n (fun z => absurd (hw1_a.symm.trans (z ▸ hw1_d)) (by intro q; cases q))).trans hw1_d
    refine tm_null hC dJx4a65c_fastRemove_b59b0_41 ?_
    refine tm_aastN1 hC hw3_d (by omega) dJx4a65c_fastRemove_b59b0_42 ?_
    obtain ⟨w5, hw6⟩ : ∃ z, z = tm_up w3 d (tm_ao (tm_T x) cap (va_up f ((n : Int) - 1 : Int).toNat none)) := ⟨_, rfl⟩
    show tm_V x (tm_G x (tm_up w3 d (tm_ao (tm_T x) cap (va_up f ((n : Int) - 1 : Int).toNat none)))) 0 0 43 [(3, .int (I ((n : Int) - 1))), (0, .ref (a)), (1, .ref (d)), (2, .int (I ((i : Int))))] []
    rw [← hw6]
    have hw5_d : w5 d = some (tm_ao (tm_T x) cap (va_up f ((n : Int) - 1 : Int).toNat none)) := by rw [hw6]; first | done | exact tm_up_s
    have hw5_a := (show w5 a = _ by rw [hw6]; exact tm_up_n (fun z => absurd (hw3_d.symm.trans (z ▸ hw3_a)) (by intro q; cases q))).trans hw3_a
    exact tm_vret hC hR dJx4a65c_fastRemove_b59b0_43 (⟨rfl, fun b hb1 hb2 => by rw [hw6, tm_up_n hb2, hw4, tm_up_n hb1, hw2, tm_up_n hb1], _, by rw [hw6, tm_up_n (fun z => absurd (z ▸ hd) (by rw [ha]; intro q; cases q)), hw4]; exact tm_up_s, by rw [hw6]; exact tm_up_s, fun j hj => if_neg (by omega), fun j h1 h2 => absurd h1 (by omega)⟩)
  · refine tm_aload_n 2 hC dJx4a65c_fastRemove_b59b0_22 rfl rfl ?_
    refine tm_iload_n 3 hC dJx4a65c_fastRemove_b59b0_23 rfl rfl ?_
    refine tm_iconst hC dJx4a65c_fastRemove_b59b0_24 ?_
    refine tm_iadd hC dJx4a65c_fastRemove_b59b0_25 ?_
    refine tm_aload_n 2 hC dJx4a65c_fastRemove_b59b0_26 rfl rfl ?_
    refine tm_iload_n 3 hC dJx4a65c_fastRemove_b59b0_27 rfl rfl ?_
    refine tm_iload_n 0 hC dJx4a65c_fastRemove_b59b0_28 rfl rfl ?_
    refine tm_iload_n 3 hC dJx4a65c_fastRemove_b59b0_29 rfl rfl ?_
    refine tm_isub hC dJx4a65c_fastRemove_b59b0_30 ?_
    refine tm_copy1 hC x_Jx4a65c_112 hw1_d hw1_d (by omega) (fun j hj y hy => by rw [hw2]; exact tm_el_put (he _ (by omega) y hy) ha) (by rw [hB.2.2.1]; exact ⟨Nat.le_of_ble_eq_true rfl, Nat.le_of_ble_eq_true rfl⟩) (by decide) dJx4a65c_fastRemove_b59b0_31 ?_
    obtain ⟨w7, hw8⟩ : ∃ z, z = tm_up w1 d (tm_ao (tm_T x) cap (va_cpy f f ((i : Int) + 1 : Int).toNat ((i : Int) : Int).toNat (((n : Int) - 1) - (i : Int) : Int).toNat)) := ⟨_, rfl⟩
    show tm_V x (tm_G x (tm_up w1 d (tm_ao (tm_T x) cap (va_cpy f f ((i : Int) + 1 : Int).toNat ((i : Int) : Int).toNat (((n : Int) - 1) - (i : Int) : Int).toNat)))) 0 0 34 [(3, .int (I ((n : Int) - 1))), (0, .ref (a)), (1, .ref (d)), (2, .int (I ((i : Int))))] []
    rw [← hw8]
    have hw7_d : w7 d = some (tm_ao (tm_T x) cap (va_cpy f f ((i : Int) + 1 : Int).toNat ((i : Int) : Int).toNat (((n : Int) - 1) - (i : Int) : Int).toNat)) := by rw [hw8]; first | done | exact tm_up_s
    have hw7_a := (show w7 a = _ by rw [hw8]; exact tm_up_n (fun z => absurd (hw1_d.symm.trans (z ▸ hw1_a)) (by intro q; cases q))).trans hw1_a
    refine tm_aload_n 2 hC dJx4a65c_fastRemove_b59b0_34 rfl rfl ?_
    refine tm_aload_n 1 hC dJx4a65c_fastRemove_b59b0_35 rfl rfl ?_
    refine tm_iload_n 0 hC dJx4a65c_fastRemove_b59b0_36 rfl rfl ?_
    refine tm_dup_x1 hC dJx4a65c_fastRemove_b59b0_37 rfl rfl ?_
    refine tm_putf1 hC f_Jx4a65c_48 hw7_a (tt_0_2 _) (Nat.le_of_ble_eq_true rfl) dJx4a65c_fastRemove_b59b0_38 ?_
    obtain ⟨w9, hw10⟩ : ∃ z, z = tm_up w7 a (.inr (0, [.int (I (m0 + 1)), .ref (d), .int (I ((n : Int) - 1))])) := ⟨_, rfl⟩
    show tm_V x (tm_G x (tm_up w7 a (.inr (0, [.int (I (m0 + 1)), .ref (d), .int (I ((n : Int) - 1))])))) 0 0 41 [(3, .int (I ((n : Int) - 1))), (0, .ref (a)), (1, .ref (d)), (2, .int (I ((i : Int))))] [.int (I ((n : Int) - 1)), .ref (d)]
    rw [← hw10]
    have hw9_a : w9 a = some (.inr (0, [.int (I (m0 + 1)), .ref (d), .int (I ((n : Int) - 1))])) := by rw [hw10]; first | done | exact tm_up_s
    have hw9_d := (show w9 d = _ by rw [hw10]; exact tm_up_n (fun z => absurd (hw7_a.symm.trans (z ▸ hw7_d)) (by intro q; cases q))).trans hw7_d
    refine tm_null hC dJx4a65c_fastRemove_b59b0_41 ?_
    refine tm_aastN1 hC hw9_d (by omega) dJx4a65c_fastRemove_b59b0_42 ?_
    obtain ⟨w11, hw12⟩ : ∃ z, z = tm_up w9 d (tm_ao (tm_T x) cap (va_up (va_cpy f f ((i : Int) + 1 : Int).toNat ((i : Int) : Int).toNat (((n : Int) - 1) - (i : Int) : Int).toNat) ((n : Int) - 1 : Int).toNat none)) := ⟨_, rfl⟩
    show tm_V x (tm_G x (tm_up w9 d (tm_ao (tm_T x) cap (va_up (va_cpy f f ((i : Int) + 1 : Int).toNat ((i : Int) : Int).toNat (((n : Int) - 1) - (i : Int) : Int).toNat) ((n : Int) - 1 : Int).toNat none)))) 0 0 43 [(3, .int (I ((n : Int) - 1))), (0, .ref (a)), (1, .ref (d)), (2, .int (I ((i : Int))))] []
    rw [← hw12]
    have hw11_d : w11 d = some (tm_ao (tm_T x) cap (va_up (va_cpy f f ((i : Int) + 1 : Int).toNat ((i : Int) : Int).toNat (((n : Int) - 1) - (i : Int) : Int).toNat) ((n : Int) - 1 : Int).toNat none)) := by rw [hw12]; first | done | exact tm_up_s
    have hw11_a := (show w11 a = _ by rw [hw12]; exact tm_up_n (fun z => absurd (hw9_d.symm.trans (z ▸ hw9_a)) (by intro q; cases q))).trans hw9_a
    exact tm_vret hC hR dJx4a65c_fastRemove_b59b0_43 (⟨rfl, fun b hb1 hb2 => by rw [hw12, tm_up_n hb2, hw10, tm_up_n hb1, hw8, tm_up_n hb2, hw2, tm_up_n hb1], _, by rw [hw12, tm_up_n (fun z => absurd (z ▸ hd) (by rw [ha]; intro q; cases q)), hw10]; exact tm_up_s, by rw [hw12]; exact tm_up_s, fun j hj => (if_neg (by omega)).trans ((pk_cpy_out (by omega)).trans rfl), fun j h1 h2 => (if_neg (by omega)).trans ((pk_cpy_in (by omega) (by omega)).trans (by congr 1; omega))⟩)

set_option maxHeartbeats 4000000 in
set_option maxRecDepth 100000 in
theorem c_rem1 (γ : tmG) (hst : γ.1.stackTraces = false) (Ω : tmO) (a d n cap i : Nat) (m0 : Int) (f : Nat → Option Nat) (ha : Ω a = some (.inr (0, [.int (I m0), .ref d, .int (I n)]))) (hd : Ω d = some (tm_ao γ.2.2.1 cap f)) (hi : i < n ∧ n ≤ cap ∧ cap ≤ 400) (he : ∀ j : Nat, j < n → ∀ y : Nat, f j = some y → tm_el Ω y) (v0 : Nat) (hf : f i = some v0) : tm_Con γ (tm_hol γ.2.1) M_Jx4a65c_remove_915e3 3 0 0 [.ref (a), .int (I ((i : Int)))] Ω (fun v w' => v = some (.ref v0) ∧ (∀ b, b ≠ a → b ≠ d → w' b = Ω b) ∧ ∃ g : Nat → Option Nat, w' a = some (.inr (0, [.int (I (m0 + 1)), .ref d, .int (I ((n : Int) - 1))])) ∧ w' d = some (tm_ao γ.2.2.1 cap g) ∧ (∀ j : Nat, j < i → g j = f j) ∧ ∀ j : Nat, i ≤ j → j < n - 1 → g j = f (j + 1)) := by
  refine tm_con hst (by decide) (Nat.le_of_ble_eq_true rfl) (fun x hB hR => ?_)
  have hg := hB.1
  subst hg
  have hC : tm_C x cJx4a65c_remove_915e3 RJx4a65c (some (FieldType.object "java/lang/Object")) := hB.2.2.2.1
  show tm_V x (tm_G x Ω) 0 0 0 [(0, .ref (a)), (1, .int (I ((i : Int))))] []
  refine tm_iload_n 1 hC dJx4a65c_remove_915e3_0 rfl rfl ?_
  refine tm_aload_n 0 hC dJx4a65c_remove_915e3_1 rfl rfl ?_
  refine tm_getf1 hC f_Jx4a65c_48 ha rfl dJx4a65c_remove_915e3_2 ?_
  refine tm_callS (b := 0) (n := 0) (rest := []) hC (c_J15_checkIndex (tm_g x) hst (tm_hol (tm_D x)) _ (i : Int) (n : Int) (by omega)) k_Jx4a65c_118 (by rw [hB.2.2.1]; exact ⟨Nat.le_of_ble_eq_true rfl, Nat.le_of_ble_eq_true rfl⟩) rfl rfl (by decide) dJx4a65c_remove_915e3_5 (fun v_5 w_5 hp_5 => ?_)
  obtain ⟨rfl, rfl⟩ := hp_5
  show tm_V x (tm_G x Ω) 0 0 8 [(0, .ref (a)), (1, .int (I ((i : Int))))] [.int (I ((i : Int)))]
  refine tm_pop hC dJx4a65c_remove_915e3_8 rfl ?_
  refine tm_aload_n 0 hC dJx4a65c_remove_915e3_9 rfl rfl ?_
  refine tm_getf1 hC f_Jx4a65c_9 ha rfl dJx4a65c_remove_915e3_10 ?_
  refine tm_astore_n [(2, .ref (d)), (0, .ref (a)), (1, .int (I ((i : Int))))] hC dJx4a65c_remove_915e3_13 rfl (by rw [hB.2.1]; exact Nat.le_of_ble_eq_true rfl) rfl ?_
  refine tm_aload_n 0 hC dJx4a65c_remove_915e3_14 rfl rfl ?_
  refine tm_iload_n 2 hC dJx4a65c_remove_915e3_15 rfl rfl ?_
  refine tm_aald1 hC hd (by omega) (hf) dJx4a65c_remove_915e3_16 ?_
  refine tm_astore_n [(3, .ref (v0)), (2, .ref (d)), (0, .ref (a)), (1, .int (I ((i : Int))))] hC dJx4a65c_remove_915e3_17 rfl (by rw [hB.2.1]; exact Nat.le_of_ble_eq_true rfl) rfl ?_
  refine tm_aload_n 2 hC dJx4a65c_remove_915e3_18 rfl rfl ?_
  refine tm_aload_n 1 hC dJx4a65c_remove_915e3_19 rfl rfl ?_
  refine tm_iload_n 3 hC dJx4a65c_remove_915e3_20 rfl rfl ?_
  refine tm_callV (b := 0) (n := 0) (rest := []) hC (c_frem (tm_g x) hst Ω a d n cap i m0 f ha hd hi he) k_Jx4a65c_144 (by rw [hB.2.2.1]; exact ⟨Nat.le_of_ble_eq_true rfl, Nat.le_of_ble_eq_true rfl⟩) rfl (tm_rec1 hC ha rfl) rfl (by decide) dJx4a65c_remove_915e3_21 (fun v_21 w_21 hp_21 => ?_)
  obtain ⟨rfl, hk, g, hoa, hod, hg1, hg2⟩ := hp_21
  show tm_V x (tm_G x w_21) 0 0 24 [(3, .ref (v0)), (2, .ref (d)), (0, .ref (a)), (1, .int (I ((i : Int))))] []
  refine tm_aload_n 0 hC dJx4a65c_remove_915e3_24 rfl rfl ?_
  exact tm_aret hC hR (Or.inl ⟨_, rfl⟩) dJx4a65c_remove_915e3_25 (⟨rfl, hk, g, hoa, hod, hg1, hg2⟩)

set_option maxHeartbeats 4000000 in
set_option maxRecDepth 100000 in
theorem c_addiA (γ : tmG) (hst : γ.1.stackTraces = false) (Ω : tmO) (a d n i v0 : Nat) (m0 : Int) (f : Nat → Option Nat) (ha : Ω a = some (.inr (0, [.int (I m0), .ref γ.2.2.2.1, .int (I n)]))) (hv : tm_el Ω v0) (hin : i ≤ n) (hn : n = 0) : tm_Con γ (tm_hol γ.2.1) M_Jx4a65c_add_7a177 6 1 400 [.ref (a), .int (I ((i : Int))), .ref (v0)] Ω (fun v w' => v = none ∧ ∃ (d' cap' : Nat) (g : Nat → Option Nat), (Ω d' = none ∨ (d' = γ.2.2.2.1 ∧ Ω γ.2.2.2.1 ≠ none)) ∧ (∀ b, b ≠ a → b ≠ d' → w' b = Ω b) ∧ w' a = some (.inr (0, [.int (I (m0 + 1)), .ref d', .int (I ((n : Int) + 1))])) ∧ w' d' = some (tm_ao γ.2.2.1 cap' g) ∧ (n + 1 ≤ cap' ∧ cap' ≤ 400 ∧ 10 ≤ cap') ∧ (∀ j : Nat, j < i → g j = f j) ∧ g i = some v0 ∧ ∀ j : Nat, i ≤ j → j < n → g (j + 1) = f j) := by
  refine tm_con hst (by decide) (Nat.le_of_ble_eq_true rfl) (fun x hB hR => ?_)
  have hg := hB.1
  subst hg
  have hC : tm_C x cJx4a65c_add_7a177 RJx4a65c (none) := hB.2.2.2.1
  show tm_V x (tm_G x Ω) 1 400 0 [(0, .ref (a)), (1, .int (I ((i : Int)))), (2, .ref (v0))] []
  refine tm_aload_n 0 hC dJx4a65c_add_7a177_0 rfl rfl ?_
  refine tm_iload_n 1 hC dJx4a65c_add_7a177_1 rfl rfl ?_
  refine tm_callV (b := 1) (n := 400) (rest := []) hC (c_rca (tm_g x) hst Ω a _ n _ ha i (by omega)) k_Jx4a65c_135 (by rw [hB.2.2.1]; exact ⟨Nat.le_of_ble_eq_true rfl, Nat.le_of_ble_eq_true rfl⟩) rfl (tm_rec1 hC ha rfl) rfl (by decide) dJx4a65c_add_7a177_2 (fun v_2 w_2 hp_2 => ?_)
  obtain ⟨rfl, rfl⟩ := hp_2
  show tm_V x (tm_G x Ω) 1 400 5 [(0, .ref (a)), (1, .int (I ((i : Int)))), (2, .ref (v0))] []
  refine tm_aload_n 0 hC dJx4a65c_add_7a177_5 rfl rfl ?_
  refine tm_dup hC dJx4a65c_add_7a177_6 rfl ?_
  refine tm_getf1 hC f_Jx4a65c_63 ha rfl dJx4a65c_add_7a177_7 ?_
  refine tm_iconst hC dJx4a65c_add_7a177_10 ?_
  refine tm_iadd hC dJx4a65c_add_7a177_11 ?_
  refine tm_putf1 hC f_Jx4a65c_63 ha (tt_0_0 _) (Nat.le_of_ble_eq_true rfl) dJx4a65c_add_7a177_12 ?_
  obtain ⟨w1, hw2⟩ : ∃ z, z = tm_up Ω a (.inr (0, [.int (I (m0 + 1)), .ref (tm_e0 x), .int (I ((n : Int)))])) := ⟨_, rfl⟩
  show tm_V x (tm_G x (tm_up Ω a (.inr (0, [.int (I (m0 + 1)), .ref (tm_e0 x), .int (I ((n : Int)))])))) 1 400 15 [(0, .ref (a)), (1, .int (I ((i : Int)))), (2, .ref (v0))] []
  rw [← hw2]
  have hw1_a : w1 a = some (.inr (0, [.int (I (m0 + 1)), .ref (tm_e0 x), .int (I ((n : Int)))])) := by rw [hw2]; first | done | exact tm_up_s
  refine tm_aload_n 0 hC dJx4a65c_add_7a177_15 rfl rfl ?_
  refine tm_getf1 hC f_Jx4a65c_48 hw1_a rfl dJx4a65c_add_7a177_16 ?_
  refine tm_dup hC dJx4a65c_add_7a177_19 rfl ?_
  refine tm_istore_n [(3, .int (I ((n : Int)))), (0, .ref (a)), (1, .int (I ((i : Int)))), (2, .ref (v0))] hC dJx4a65c_add_7a177_20 rfl (by rw [hB.2.1]; exact Nat.le_of_ble_eq_true rfl) rfl ?_
  refine tm_aload_n 1 hC dJx4a65c_add_7a177_21 rfl rfl ?_
  refine tm_getf1 hC f_Jx4a65c_9 hw1_a rfl dJx4a65c_add_7a177_22 ?_
  refine tm_dup hC dJx4a65c_add_7a177_25 rfl ?_
  refine tm_astore [(4, .ref (tm_e0 x)), (3, .int (I ((n : Int)))), (0, .ref (a)), (1, .int (I ((i : Int)))), (2, .ref (v0))] hC dJx4a65c_add_7a177_26 (by rw [hB.2.1]; exact Nat.le_of_ble_eq_true rfl) rfl ?_
  refine tm_alen0 hC dJx4a65c_add_7a177_28 ?_
  refine tm_icmp_ne 38 hC dJx4a65c_add_7a177_29 (by decide) (by omega) (fun c_29 => ?_) (fun c_29 => ?_)
  · exact ((by omega) : False).elim
  · refine tm_aload_n 2 hC dJx4a65c_add_7a177_32 rfl rfl ?_
    refine tm_less (b' := 1 + 0) (n' := 400 + 0) ⟨by omega, by omega⟩ ?_
    refine tm_callV (b := 0) (n := 0) (rest := []) hC (c_grow0 (tm_g x) hst w1 a (tm_e0 x) n (I (m0 + 1)) f hw1_a (Or.inl ⟨rfl, hn⟩)) k_Jx4a65c_129 (by rw [hB.2.2.1]; exact ⟨Nat.le_of_ble_eq_true rfl, Nat.le_of_ble_eq_true rfl⟩) rfl (tm_rec1 hC hw1_a rfl) rfl (by decide) dJx4a65c_add_7a177_33 (fun v_33 w_33 hp_33 => ?_)
    obtain ⟨q, cap', g, hq, hw, hc, hg, rfl⟩ := hp_33
    have hqa : q ≠ a := fun z => by subst z; rw [hw1_a] at hq; cases hq
    have hqn : Ω q = none := by rw [hw2, tm_up_n hqa] at hq; exact hq
    have hv2 : tm_el w_33 v0 := by rw [← hw]; exact tm_el_put (tm_el_up (by rw [hw2]; exact tm_el_put hv ha) hq) ((tm_up_n (Ne.symm hqa)).trans hw1_a)
    have ha2 : w_33 a = some (.inr (0, [.int (I (m0 + 1)), .ref q, .int (I n)])) := by rw [← hw]; exact tm_up_s
    have hq2 : w_33 q = some (tm_ao (tm_T x) cap' g) := by rw [← hw, tm_up_n hqa]; exact tm_up_s
    show tm_V x (tm_G x w_33) 0 0 36 [(4, .ref (tm_e0 x)), (3, .int (I ((n : Int)))), (0, .ref (a)), (1, .int (I ((i : Int)))), (2, .ref (v0))] [.ref (q)]
    refine tm_astore [(4, .ref (q)), (3, .int (I ((n : Int)))), (0, .ref (a)), (1, .int (I ((i : Int)))), (2, .ref (v0))] hC dJx4a65c_add_7a177_36 (by rw [hB.2.1]; exact Nat.le_of_ble_eq_true rfl) rfl ?_
    refine tm_aload 0 hC dJx4a65c_add_7a177_38 rfl ?_
    refine tm_iload_n 3 hC dJx4a65c_add_7a177_40 rfl rfl ?_
    refine tm_aload 0 hC dJx4a65c_add_7a177_41 rfl ?_
    refine tm_iload_n 3 hC dJx4a65c_add_7a177_43 rfl rfl ?_
    refine tm_iconst hC dJx4a65c_add_7a177_44 ?_
    refine tm_iadd hC dJx4a65c_add_7a177_45 ?_
    refine tm_iload_n 1 hC dJx4a65c_add_7a177_46 rfl rfl ?_
    refine tm_iload_n 3 hC dJx4a65c_add_7a177_47 rfl rfl ?_
    refine tm_isub hC dJx4a65c_add_7a177_48 ?_
    refine tm_copy1 hC x_Jx4a65c_112 hq2 hq2 (by omega) (fun j hj y hy => absurd hj (by omega)) (by rw [hB.2.2.1]; exact ⟨Nat.le_of_ble_eq_true rfl, Nat.le_of_ble_eq_true rfl⟩) (by decide) dJx4a65c_add_7a177_49 ?_
    obtain ⟨w3, hw4⟩ : ∃ z, z = tm_up w_33 q (tm_ao (tm_T x) cap' (va_cpy g g ((i : Int) : Int).toNat ((i : Int) + 1 : Int).toNat ((n : Int) - (i : Int) : Int).toNat)) := ⟨_, rfl⟩
    show tm_V x (tm_G x (tm_up w_33 q (tm_ao (tm_T x) cap' (va_cpy g g ((i : Int) : Int).toNat ((i : Int) + 1 : Int).toNat ((n : Int) - (i : Int) : Int).toNat)))) 0 0 52 [(4, .ref (q)), (3, .int (I ((n : Int)))), (0, .ref (a)), (1, .int (I ((i : Int)))), (2, .ref (v0))] []
    rw [← hw4]
    have hw3_q : w3 q = some (tm_ao (tm_T x) cap' (va_cpy g g ((i : Int) : Int).toNat ((i : Int) + 1 : Int).toNat ((n : Int) - (i : Int) : Int).toNat)) := by rw [hw4]; first | done | exact tm_up_s
    have hw3_a := (show w3 a = _ by rw [hw4]; exact tm_up_n (fun z => absurd (hq2.symm.trans (z ▸ ha2)) (by intro q; cases q))).trans ha2
    refine tm_aload 0 hC dJx4a65c_add_7a177_52 rfl ?_
    refine tm_iload_n 3 hC dJx4a65c_add_7a177_54 rfl rfl ?_
    refine tm_aload_n 4 hC dJx4a65c_add_7a177_55 rfl rfl ?_
    refine tm_aast1 hC hw3_q (by omega) (by rw [hw4]; exact tm_el_arr hv2 hq2) dJx4a65c_add_7a177_56 ?_
    obtain ⟨w5, hw6⟩ : ∃ z, z = tm_up w3 q (tm_ao (tm_T x) cap' (va_up (va_cpy g g ((i : Int) : Int).toNat ((i : Int) + 1 : Int).toNat ((n : Int) - (i : Int) : Int).toNat) ((i : Int) : Int).toNat (some v0))) := ⟨_, rfl⟩
    show tm_V x (tm_G x (tm_up w3 q (tm_ao (tm_T x) cap' (va_up (va_cpy g g ((i : Int) : Int).toNat ((i : Int) + 1 : Int).toNat ((n : Int) - (i : Int) : Int).toNat) ((i : Int) : Int).toNat (some v0))))) 0 0 57 [(4, .ref (q)), (3, .int (I ((n : Int)))), (0, .ref (a)), (1, .int (I ((i : Int)))), (2, .ref (v0))] []
    rw [← hw6]
    have hw5_q : w5 q = some (tm_ao (tm_T x) cap' (va_up (va_cpy g g ((i : Int) : Int).toNat ((i : Int) + 1 : Int).toNat ((n : Int) - (i : Int) : Int).toNat) ((i : Int) : Int).toNat (some v0))) := by rw [hw6]; first | done | exact tm_up_s
    have hw5_a := (show w5 a = _ by rw [hw6]; exact tm_up_n (fun z => absurd (hw3_q.symm.trans (z ▸ hw3_a)) (by intro q; cases q))).trans hw3_a
    refine tm_aload_n 2 hC dJx4a65c_add_7a177_57 rfl rfl ?_
    refine tm_iload_n 1 hC dJx4a65c_add_7a177_58 rfl rfl ?_
    refine tm_iconst hC dJx4a65c_add_7a177_59 ?_
    refine tm_iadd hC dJx4a65c_add_7a177_60 ?_
    refine tm_putf1 hC f_Jx4a65c_48 hw5_a (tt_0_2 _) (Nat.le_of_ble_eq_true rfl) dJx4a65c_add_7a177_61 ?_
    obtain ⟨w7, hw8⟩ : ∃ z, z = tm_up w5 a (.inr (0, [.int (I (m0 + 1)), .ref (q), .int (I ((n : Int) + 1))])) := ⟨_, rfl⟩
    show tm_V x (tm_G x (tm_up w5 a (.inr (0, [.int (I (m0 + 1)), .ref (q), .int (I ((n : Int) + 1))])))) 0 0 64 [(4, .ref (q)), (3, .int (I ((n : Int)))), (0, .ref (a)), (1, .int (I ((i : Int)))), (2, .ref (v0))] []
    rw [← hw8]
    have hw7_a : w7 a = some (.inr (0, [.int (I (m0 + 1)), .ref (q), .int (I ((n : Int) + 1))])) := by rw [hw8]; first | done | exact tm_up_s
    have hw7_q := (show w7 q = _ by rw [hw8]; exact tm_up_n (fun z => absurd (hw5_a.symm.trans (z ▸ hw5_q)) (by intro q; cases q))).trans hw5_q
    exact tm_vret hC hR dJx4a65c_add_7a177_64 (⟨rfl, q, cap', va_up (va_cpy g g ((i : Int)).toNat ((i : Int) + 1).toNat ((n : Int) - (i : Int)).toNat) ((i : Int)).toNat (some v0), Or.inl hqn, fun b hb1 hb2 => by rw [hw8, tm_up_n hb1, hw6, tm_up_n hb2, hw4, tm_up_n hb2, ← hw, tm_up_n hb1, tm_up_n hb2, hw2, tm_up_n hb1], by rw [hw8]; exact tm_up_s, (by rw [hw8, tm_up_n hqa, hw6]; exact tm_up_s), by omega, fun j hj => (if_neg (by omega)).trans ((pk_cpy_out (by omega)).trans (hg _ (by omega))), if_pos rfl, fun j h1 h2 => (if_neg (by omega)).trans ((pk_cpy_in (by omega) (by omega)).trans ((congrArg g (show _ = j by omega)).trans (hg _ (by omega))))⟩)

set_option maxHeartbeats 4000000 in
set_option maxRecDepth 100000 in
theorem c_addiB (γ : tmG) (hst : γ.1.stackTraces = false) (Ω : tmO) (a d n i v0 : Nat) (m0 : Int) (f : Nat → Option Nat) (ha : Ω a = some (.inr (0, [.int (I m0), .ref d, .int (I n)]))) (hv : tm_el Ω v0) (hin : i ≤ n) (hd : Ω d = some (tm_ao γ.2.2.1 n f)) (hn : 10 ≤ n ∧ n ≤ 250) (he : ∀ i : Nat, i < n → ∀ y : Nat, f i = some y → tm_el Ω y) : tm_Con γ (tm_hol γ.2.1) M_Jx4a65c_add_7a177 6 1 400 [.ref (a), .int (I ((i : Int))), .ref (v0)] Ω (fun v w' => v = none ∧ ∃ (d' cap' : Nat) (g : Nat → Option Nat), (Ω d' = none ∨ (d' = d ∧ Ω d ≠ none)) ∧ (∀ b, b ≠ a → b ≠ d' → w' b = Ω b) ∧ w' a = some (.inr (0, [.int (I (m0 + 1)), .ref d', .int (I ((n : Int) + 1))])) ∧ w' d' = some (tm_ao γ.2.2.1 cap' g) ∧ (n + 1 ≤ cap' ∧ cap' ≤ 400 ∧ 10 ≤ cap') ∧ (∀ j : Nat, j < i → g j = f j) ∧ g i = some v0 ∧ ∀ j : Nat, i ≤ j → j < n → g (j + 1) = f j) := by
  refine tm_con hst (by decide) (Nat.le_of_ble_eq_true rfl) (fun x hB hR => ?_)
  have hg := hB.1
  subst hg
  have hC : tm_C x cJx4a65c_add_7a177 RJx4a65c (none) := hB.2.2.2.1
  show tm_V x (tm_G x Ω) 1 400 0 [(0, .ref (a)), (1, .int (I ((i : Int)))), (2, .ref (v0))] []
  refine tm_aload_n 0 hC dJx4a65c_add_7a177_0 rfl rfl ?_
  refine tm_iload_n 1 hC dJx4a65c_add_7a177_1 rfl rfl ?_
  refine tm_callV (b := 1) (n := 400) (rest := []) hC (c_rca (tm_g x) hst Ω a _ n _ ha i (by omega)) k_Jx4a65c_135 (by rw [hB.2.2.1]; exact ⟨Nat.le_of_ble_eq_true rfl, Nat.le_of_ble_eq_true rfl⟩) rfl (tm_rec1 hC ha rfl) rfl (by decide) dJx4a65c_add_7a177_2 (fun v_2 w_2 hp_2 => ?_)
  obtain ⟨rfl, rfl⟩ := hp_2
  show tm_V x (tm_G x Ω) 1 400 5 [(0, .ref (a)), (1, .int (I ((i : Int)))), (2, .ref (v0))] []
  refine tm_aload_n 0 hC dJx4a65c_add_7a177_5 rfl rfl ?_
  refine tm_dup hC dJx4a65c_add_7a177_6 rfl ?_
  refine tm_getf1 hC f_Jx4a65c_63 ha rfl dJx4a65c_add_7a177_7 ?_
  refine tm_iconst hC dJx4a65c_add_7a177_10 ?_
  refine tm_iadd hC dJx4a65c_add_7a177_11 ?_
  refine tm_putf1 hC f_Jx4a65c_63 ha (tt_0_0 _) (Nat.le_of_ble_eq_true rfl) dJx4a65c_add_7a177_12 ?_
  obtain ⟨w1, hw2⟩ : ∃ z, z = tm_up Ω a (.inr (0, [.int (I (m0 + 1)), .ref (d), .int (I ((n : Int)))])) := ⟨_, rfl⟩
  show tm_V x (tm_G x (tm_up Ω a (.inr (0, [.int (I (m0 + 1)), .ref (d), .int (I ((n : Int)))])))) 1 400 15 [(0, .ref (a)), (1, .int (I ((i : Int)))), (2, .ref (v0))] []
  rw [← hw2]
  have hw1_a : w1 a = some (.inr (0, [.int (I (m0 + 1)), .ref (d), .int (I ((n : Int)))])) := by rw [hw2]; first | done | exact tm_up_s
  have hw1_d := (show w1 d = _ by rw [hw2]; exact tm_up_n (fun z => absurd (ha.symm.trans (z ▸ hd)) (by intro q; cases q))).trans hd
  refine tm_aload_n 0 hC dJx4a65c_add_7a177_15 rfl rfl ?_
  refine tm_getf1 hC f_Jx4a65c_48 hw1_a rfl dJx4a65c_add_7a177_16 ?_
  refine tm_dup hC dJx4a65c_add_7a177_19 rfl ?_
  refine tm_istore_n [(3, .int (I ((n : Int)))), (0, .ref (a)), (1, .int (I ((i : Int)))), (2, .ref (v0))] hC dJx4a65c_add_7a177_20 rfl (by rw [hB.2.1]; exact Nat.le_of_ble_eq_true rfl) rfl ?_
  refine tm_aload_n 1 hC dJx4a65c_add_7a177_21 rfl rfl ?_
  refine tm_getf1 hC f_Jx4a65c_9 hw1_a rfl dJx4a65c_add_7a177_22 ?_
  refine tm_dup hC dJx4a65c_add_7a177_25 rfl ?_
  refine tm_astore [(4, .ref (d)), (3, .int (I ((n : Int)))), (0, .ref (a)), (1, .int (I ((i : Int)))), (2, .ref (v0))] hC dJx4a65c_add_7a177_26 (by rw [hB.2.1]; exact Nat.le_of_ble_eq_true rfl) rfl ?_
  refine tm_alen1 (t0 := 3) (ty := .object "java/lang/Object") hC hw1_d rfl dJx4a65c_add_7a177_28 ?_
  refine tm_icmp_ne 38 hC dJx4a65c_add_7a177_29 (by decide) (by omega) (fun c_29 => ?_) (fun c_29 => ?_)
  · exact ((by omega) : False).elim
  · refine tm_aload_n 2 hC dJx4a65c_add_7a177_32 rfl rfl ?_
    refine tm_less (b' := 1 + 0) (n' := 400 + 0) ⟨by omega, by omega⟩ ?_
    refine tm_callV (b := 0) (n := 0) (rest := []) hC (c_grow0 (tm_g x) hst w1 a d n (I (m0 + 1)) f hw1_a (Or.inr ⟨by rw [hw2, tm_up_n (fun z => absurd (z ▸ hd) (by rw [ha]; intro q; cases q))]; exact hd, hn, fun i hi y hy => by rw [hw2]; exact tm_el_put (he i hi y hy) ha⟩)) k_Jx4a65c_129 (by rw [hB.2.2.1]; exact ⟨Nat.le_of_ble_eq_true rfl, Nat.le_of_ble_eq_true rfl⟩) rfl (tm_rec1 hC hw1_a rfl) rfl (by decide) dJx4a65c_add_7a177_33 (fun v_33 w_33 hp_33 => ?_)
    obtain ⟨q, cap', g, hq, hw, hc, hg, rfl⟩ := hp_33
    have hqa : q ≠ a := fun z => by subst z; rw [hw1_a] at hq; cases hq
    have hqn : Ω q = none := by rw [hw2, tm_up_n hqa] at hq; exact hq
    have hv2 : tm_el w_33 v0 := by rw [← hw]; exact tm_el_put (tm_el_up (by rw [hw2]; exact tm_el_put hv ha) hq) ((tm_up_n (Ne.symm hqa)).trans hw1_a)
    have he2 : ∀ j : Nat, j < n → ∀ y : Nat, f j = some y → tm_el w_33 y := fun j hj y hy => by rw [← hw]; exact tm_el_put (tm_el_up (by rw [hw2]; exact tm_el_put (he j hj y hy) ha) hq) ((tm_up_n (Ne.symm hqa)).trans hw1_a)
    have ha2 : w_33 a = some (.inr (0, [.int (I (m0 + 1)), .ref q, .int (I n)])) := by rw [← hw]; exact tm_up_s
    have hq2 : w_33 q = some (tm_ao (tm_T x) cap' g) := by rw [← hw, tm_up_n hqa]; exact tm_up_s
    show tm_V x (tm_G x w_33) 0 0 36 [(4, .ref (d)), (3, .int (I ((n : Int)))), (0, .ref (a)), (1, .int (I ((i : Int)))), (2, .ref (v0))] [.ref (q)]
    refine tm_astore [(4, .ref (q)), (3, .int (I ((n : Int)))), (0, .ref (a)), (1, .int (I ((i : Int)))), (2, .ref (v0))] hC dJx4a65c_add_7a177_36 (by rw [hB.2.1]; exact Nat.le_of_ble_eq_true rfl) rfl ?_
    refine tm_aload 0 hC dJx4a65c_add_7a177_38 rfl ?_
    refine tm_iload_n 3 hC dJx4a65c_add_7a177_40 rfl rfl ?_
    refine tm_aload 0 hC dJx4a65c_add_7a177_41 rfl ?_
    refine tm_iload_n 3 hC dJx4a65c_add_7a177_43 rfl rfl ?_
    refine tm_iconst hC dJx4a65c_add_7a177_44 ?_
    refine tm_iadd hC dJx4a65c_add_7a177_45 ?_
    refine tm_iload_n 1 hC dJx4a65c_add_7a177_46 rfl rfl ?_
    refine tm_iload_n 3 hC dJx4a65c_add_7a177_47 rfl rfl ?_
    refine tm_isub hC dJx4a65c_add_7a177_48 ?_
    refine tm_copy1 hC x_Jx4a65c_112 hq2 hq2 (by omega) (fun j hj y hy => he2 _ (by omega) y ((hg _ (by omega)).symm.trans hy)) (by rw [hB.2.2.1]; exact ⟨Nat.le_of_ble_eq_true rfl, Nat.le_of_ble_eq_true rfl⟩) (by decide) dJx4a65c_add_7a177_49 ?_
    obtain ⟨w3, hw4⟩ : ∃ z, z = tm_up w_33 q (tm_ao (tm_T x) cap' (va_cpy g g ((i : Int) : Int).toNat ((i : Int) + 1 : Int).toNat ((n : Int) - (i : Int) : Int).toNat)) := ⟨_, rfl⟩
    show tm_V x (tm_G x (tm_up w_33 q (tm_ao (tm_T x) cap' (va_cpy g g ((i : Int) : Int).toNat ((i : Int) + 1 : Int).toNat ((n : Int) - (i : Int) : Int).toNat)))) 0 0 52 [(4, .ref (q)), (3, .int (I ((n : Int)))), (0, .ref (a)), (1, .int (I ((i : Int)))), (2, .ref (v0))] []
    rw [← hw4]
    have hw3_q : w3 q = some (tm_ao (tm_T x) cap' (va_cpy g g ((i : Int) : Int).toNat ((i : Int) + 1 : Int).toNat ((n : Int) - (i : Int) : Int).toNat)) := by rw [hw4]; first | done | exact tm_up_s
    have hw3_a := (show w3 a = _ by rw [hw4]; exact tm_up_n (fun z => absurd (hq2.symm.trans (z ▸ ha2)) (by intro q; cases q))).trans ha2
    refine tm_aload 0 hC dJx4a65c_add_7a177_52 rfl ?_
    refine tm_iload_n 3 hC dJx4a65c_add_7a177_54 rfl rfl ?_
    refine tm_aload_n 4 hC dJx4a65c_add_7a177_55 rfl rfl ?_
    refine tm_aast1 hC hw3_q (by omega) (by rw [hw4]; exact tm_el_arr hv2 hq2) dJx4a65c_add_7a177_56 ?_
    obtain ⟨w5, hw6⟩ : ∃ z, z = tm_up w3 q (tm_ao (tm_T x) cap' (va_up (va_cpy g g ((i : Int) : Int).toNat ((i : Int) + 1 : Int).toNat ((n : Int) - (i : Int) : Int).toNat) ((i : Int) : Int).toNat (some v0))) := ⟨_, rfl⟩
    show tm_V x (tm_G x (tm_up w3 q (tm_ao (tm_T x) cap' (va_up (va_cpy g g ((i : Int) : Int).toNat ((i : Int) + 1 : Int).toNat ((n : Int) - (i : Int) : Int).toNat) ((i : Int) : Int).toNat (some v0))))) 0 0 57 [(4, .ref (q)), (3, .int (I ((n : Int)))), (0, .ref (a)), (1, .int (I ((i : Int)))), (2, .ref (v0))] []
    rw [← hw6]
    have hw5_q : w5 q = some (tm_ao (tm_T x) cap' (va_up (va_cpy g g ((i : Int) : Int).toNat ((i : Int) + 1 : Int).toNat ((n : Int) - (i : Int) : Int).toNat) ((i : Int) : Int).toNat (some v0))) := by rw [hw6]; first | done | exact tm_up_s
    have hw5_a := (show w5 a = _ by rw [hw6]; exact tm_up_n (fun z => absurd (hw3_q.symm.trans (z ▸ hw3_a)) (by intro q; cases q))).trans hw3_a
    refine tm_aload_n 2 hC dJx4a65c_add_7a177_57 rfl rfl ?_
    refine tm_iload_n 1 hC dJx4a65c_add_7a177_58 rfl rfl ?_
    refine tm_iconst hC dJx4a65c_add_7a177_59 ?_
    refine tm_iadd hC dJx4a65c_add_7a177_60 ?_
    refine tm_putf1 hC f_Jx4a65c_48 hw5_a (tt_0_2 _) (Nat.le_of_ble_eq_true rfl) dJx4a65c_add_7a177_61 ?_
    obtain ⟨w7, hw8⟩ : ∃ z, z = tm_up w5 a (.inr (0, [.int (I (m0 + 1)), .ref (q), .int (I ((n : Int) + 1))])) := ⟨_, rfl⟩
    show tm_V x (tm_G x (tm_up w5 a (.inr (0, [.int (I (m0 + 1)), .ref (q), .int (I ((n : Int) + 1))])))) 0 0 64 [(4, .ref (q)), (3, .int (I ((n : Int)))), (0, .ref (a)), (1, .int (I ((i : Int)))), (2, .ref (v0))] []
    rw [← hw8]
    have hw7_a : w7 a = some (.inr (0, [.int (I (m0 + 1)), .ref (q), .int (I ((n : Int) + 1))])) := by rw [hw8]; first | done | exact tm_up_s
    have hw7_q := (show w7 q = _ by rw [hw8]; exact tm_up_n (fun z => absurd (hw5_a.symm.trans (z ▸ hw5_q)) (by intro q; cases q))).trans hw5_q
    exact tm_vret hC hR dJx4a65c_add_7a177_64 (⟨rfl, q, cap', va_up (va_cpy g g ((i : Int)).toNat ((i : Int) + 1).toNat ((n : Int) - (i : Int)).toNat) ((i : Int)).toNat (some v0), Or.inl hqn, fun b hb1 hb2 => by rw [hw8, tm_up_n hb1, hw6, tm_up_n hb2, hw4, tm_up_n hb2, ← hw, tm_up_n hb1, tm_up_n hb2, hw2, tm_up_n hb1], by rw [hw8]; exact tm_up_s, (by rw [hw8, tm_up_n hqa, hw6]; exact tm_up_s), by omega, fun j hj => (if_neg (by omega)).trans ((pk_cpy_out (by omega)).trans (hg _ (by omega))), if_pos rfl, fun j h1 h2 => (if_neg (by omega)).trans ((pk_cpy_in (by omega) (by omega)).trans ((congrArg g (show _ = j by omega)).trans (hg _ (by omega))))⟩)

set_option maxHeartbeats 4000000 in
set_option maxRecDepth 100000 in
theorem c_addiC (γ : tmG) (hst : γ.1.stackTraces = false) (Ω : tmO) (a d n i v0 : Nat) (m0 : Int) (f : Nat → Option Nat) (ha : Ω a = some (.inr (0, [.int (I m0), .ref d, .int (I n)]))) (hv : tm_el Ω v0) (hin : i ≤ n) (cap : Nat) (hd : Ω d = some (tm_ao γ.2.2.1 cap f)) (hn : n < cap ∧ cap ≤ 400 ∧ 10 ≤ cap) (he : ∀ i : Nat, i < n → ∀ y : Nat, f i = some y → tm_el Ω y) : tm_Con γ (tm_hol γ.2.1) M_Jx4a65c_add_7a177 6 1 400 [.ref (a), .int (I ((i : Int))), .ref (v0)] Ω (fun v w' => v = none ∧ ∃ (d' cap' : Nat) (g : Nat → Option Nat), (Ω d' = none ∨ (d' = d ∧ Ω d ≠ none)) ∧ (∀ b, b ≠ a → b ≠ d' → w' b = Ω b) ∧ w' a = some (.inr (0, [.int (I (m0 + 1)), .ref d', .int (I ((n : Int) + 1))])) ∧ w' d' = some (tm_ao γ.2.2.1 cap' g) ∧ (n + 1 ≤ cap' ∧ cap' ≤ 400 ∧ 10 ≤ cap') ∧ (∀ j : Nat, j < i → g j = f j) ∧ g i = some v0 ∧ ∀ j : Nat, i ≤ j → j < n → g (j + 1) = f j) := by
  refine tm_con hst (by decide) (Nat.le_of_ble_eq_true rfl) (fun x hB hR => ?_)
  have hg := hB.1
  subst hg
  have hC : tm_C x cJx4a65c_add_7a177 RJx4a65c (none) := hB.2.2.2.1
  show tm_V x (tm_G x Ω) 1 400 0 [(0, .ref (a)), (1, .int (I ((i : Int)))), (2, .ref (v0))] []
  refine tm_aload_n 0 hC dJx4a65c_add_7a177_0 rfl rfl ?_
  refine tm_iload_n 1 hC dJx4a65c_add_7a177_1 rfl rfl ?_
  refine tm_callV (b := 1) (n := 400) (rest := []) hC (c_rca (tm_g x) hst Ω a _ n _ ha i (by omega)) k_Jx4a65c_135 (by rw [hB.2.2.1]; exact ⟨Nat.le_of_ble_eq_true rfl, Nat.le_of_ble_eq_true rfl⟩) rfl (tm_rec1 hC ha rfl) rfl (by decide) dJx4a65c_add_7a177_2 (fun v_2 w_2 hp_2 => ?_)
  obtain ⟨rfl, rfl⟩ := hp_2
  show tm_V x (tm_G x Ω) 1 400 5 [(0, .ref (a)), (1, .int (I ((i : Int)))), (2, .ref (v0))] []
  refine tm_aload_n 0 hC dJx4a65c_add_7a177_5 rfl rfl ?_
  refine tm_dup hC dJx4a65c_add_7a177_6 rfl ?_
  refine tm_getf1 hC f_Jx4a65c_63 ha rfl dJx4a65c_add_7a177_7 ?_
  refine tm_iconst hC dJx4a65c_add_7a177_10 ?_
  refine tm_iadd hC dJx4a65c_add_7a177_11 ?_
  refine tm_putf1 hC f_Jx4a65c_63 ha (tt_0_0 _) (Nat.le_of_ble_eq_true rfl) dJx4a65c_add_7a177_12 ?_
  obtain ⟨w1, hw2⟩ : ∃ z, z = tm_up Ω a (.inr (0, [.int (I (m0 + 1)), .ref (d), .int (I ((n : Int)))])) := ⟨_, rfl⟩
  show tm_V x (tm_G x (tm_up Ω a (.inr (0, [.int (I (m0 + 1)), .ref (d), .int (I ((n : Int)))])))) 1 400 15 [(0, .ref (a)), (1, .int (I ((i : Int)))), (2, .ref (v0))] []
  rw [← hw2]
  have hw1_a : w1 a = some (.inr (0, [.int (I (m0 + 1)), .ref (d), .int (I ((n : Int)))])) := by rw [hw2]; first | done | exact tm_up_s
  have hw1_d := (show w1 d = _ by rw [hw2]; exact tm_up_n (fun z => absurd (ha.symm.trans (z ▸ hd)) (by intro q; cases q))).trans hd
  refine tm_aload_n 0 hC dJx4a65c_add_7a177_15 rfl rfl ?_
  refine tm_getf1 hC f_Jx4a65c_48 hw1_a rfl dJx4a65c_add_7a177_16 ?_
  refine tm_dup hC dJx4a65c_add_7a177_19 rfl ?_
  refine tm_istore_n [(3, .int (I ((n : Int)))), (0, .ref (a)), (1, .int (I ((i : Int)))), (2, .ref (v0))] hC dJx4a65c_add_7a177_20 rfl (by rw [hB.2.1]; exact Nat.le_of_ble_eq_true rfl) rfl ?_
  refine tm_aload_n 1 hC dJx4a65c_add_7a177_21 rfl rfl ?_
  refine tm_getf1 hC f_Jx4a65c_9 hw1_a rfl dJx4a65c_add_7a177_22 ?_
  refine tm_dup hC dJx4a65c_add_7a177_25 rfl ?_
  refine tm_astore [(4, .ref (d)), (3, .int (I ((n : Int)))), (0, .ref (a)), (1, .int (I ((i : Int)))), (2, .ref (v0))] hC dJx4a65c_add_7a177_26 (by rw [hB.2.1]; exact Nat.le_of_ble_eq_true rfl) rfl ?_
  refine tm_alen1 (t0 := 3) (ty := .object "java/lang/Object") hC hw1_d rfl dJx4a65c_add_7a177_28 ?_
  refine tm_icmp_ne 38 hC dJx4a65c_add_7a177_29 (by decide) (by omega) (fun c_29 => ?_) (fun c_29 => ?_)
  · refine tm_aload 0 hC dJx4a65c_add_7a177_38 rfl ?_
    refine tm_iload_n 3 hC dJx4a65c_add_7a177_40 rfl rfl ?_
    refine tm_aload 0 hC dJx4a65c_add_7a177_41 rfl ?_
    refine tm_iload_n 3 hC dJx4a65c_add_7a177_43 rfl rfl ?_
    refine tm_iconst hC dJx4a65c_add_7a177_44 ?_
    refine tm_iadd hC dJx4a65c_add_7a177_45 ?_
    refine tm_iload_n 1 hC dJx4a65c_add_7a177_46 rfl rfl ?_
    refine tm_iload_n 3 hC dJx4a65c_add_7a177_47 rfl rfl ?_
    refine tm_isub hC dJx4a65c_add_7a177_48 ?_
    refine tm_copy1 hC x_Jx4a65c_112 hw1_d hw1_d (by omega) (fun j hj y hy => by rw [hw2]; exact tm_el_put (he _ (by omega) y hy) ha) (by rw [hB.2.2.1]; exact ⟨Nat.le_of_ble_eq_true rfl, Nat.le_of_ble_eq_true rfl⟩) (by decide) dJx4a65c_add_7a177_49 ?_
    obtain ⟨w3, hw4⟩ : ∃ z, z = tm_up w1 d (tm_ao (tm_T x) cap (va_cpy f f ((i : Int) : Int).toNat ((i : Int) + 1 : Int).toNat ((n : Int) - (i : Int) : Int).toNat)) := ⟨_, rfl⟩
    show tm_V x (tm_G x (tm_up w1 d (tm_ao (tm_T x) cap (va_cpy f f ((i : Int) : Int).toNat ((i : Int) + 1 : Int).toNat ((n : Int) - (i : Int) : Int).toNat)))) 1 400 52 [(4, .ref (d)), (3, .int (I ((n : Int)))), (0, .ref (a)), (1, .int (I ((i : Int)))), (2, .ref (v0))] []
    rw [← hw4]
    have hw3_d : w3 d = some (tm_ao (tm_T x) cap (va_cpy f f ((i : Int) : Int).toNat ((i : Int) + 1 : Int).toNat ((n : Int) - (i : Int) : Int).toNat)) := by rw [hw4]; first | done | exact tm_up_s
    have hw3_a := (show w3 a = _ by rw [hw4]; exact tm_up_n (fun z => absurd (hw1_d.symm.trans (z ▸ hw1_a)) (by intro q; cases q))).trans hw1_a
    refine tm_aload 0 hC dJx4a65c_add_7a177_52 rfl ?_
    refine tm_iload_n 3 hC dJx4a65c_add_7a177_54 rfl rfl ?_
    refine tm_aload_n 4 hC dJx4a65c_add_7a177_55 rfl rfl ?_
    refine tm_aast1 hC hw3_d (by omega) (by rw [hw4]; exact tm_el_arr (by rw [hw2]; exact tm_el_put hv ha) ((by rw [hw2, tm_up_n (fun z => absurd (z ▸ hd) (by rw [ha]; intro q; cases q))]; exact hd))) dJx4a65c_add_7a177_56 ?_
    obtain ⟨w5, hw6⟩ : ∃ z, z = tm_up w3 d (tm_ao (tm_T x) cap (va_up (va_cpy f f ((i : Int) : Int).toNat ((i : Int) + 1 : Int).toNat ((n : Int) - (i : Int) : Int).toNat) ((i : Int) : Int).toNat (some v0))) := ⟨_, rfl⟩
    show tm_V x (tm_G x (tm_up w3 d (tm_ao (tm_T x) cap (va_up (va_cpy f f ((i : Int) : Int).toNat ((i : Int) + 1 : Int).toNat ((n : Int) - (i : Int) : Int).toNat) ((i : Int) : Int).toNat (some v0))))) 1 400 57 [(4, .ref (d)), (3, .int (I ((n : Int)))), (0, .ref (a)), (1, .int (I ((i : Int)))), (2, .ref (v0))] []
    rw [← hw6]
    have hw5_d : w5 d = some (tm_ao (tm_T x) cap (va_up (va_cpy f f ((i : Int) : Int).toNat ((i : Int) + 1 : Int).toNat ((n : Int) - (i : Int) : Int).toNat) ((i : Int) : Int).toNat (some v0))) := by rw [hw6]; first | done | exact tm_up_s
    have hw5_a := (show w5 a = _ by rw [hw6]; exact tm_up_n (fun z => absurd (hw3_d.symm.trans (z ▸ hw3_a)) (by intro q; cases q))).trans hw3_a
    refine tm_aload_n 2 hC dJx4a65c_add_7a177_57 rfl rfl ?_
    refine tm_iload_n 1 hC dJx4a65c_add_7a177_58 rfl rfl ?_
    refine tm_iconst hC dJx4a65c_add_7a177_59 ?_
    refine tm_iadd hC dJx4a65c_add_7a177_60 ?_
    refine tm_putf1 hC f_Jx4a65c_48 hw5_a (tt_0_2 _) (Nat.le_of_ble_eq_true rfl) dJx4a65c_add_7a177_61 ?_
    obtain ⟨w7, hw8⟩ : ∃ z, z = tm_up w5 a (.inr (0, [.int (I (m0 + 1)), .ref (d), .int (I ((n : Int) + 1))])) := ⟨_, rfl⟩
    show tm_V x (tm_G x (tm_up w5 a (.inr (0, [.int (I (m0 + 1)), .ref (d), .int (I ((n : Int) + 1))])))) 1 400 64 [(4, .ref (d)), (3, .int (I ((n : Int)))), (0, .ref (a)), (1, .int (I ((i : Int)))), (2, .ref (v0))] []
    rw [← hw8]
    have hw7_a : w7 a = some (.inr (0, [.int (I (m0 + 1)), .ref (d), .int (I ((n : Int) + 1))])) := by rw [hw8]; first | done | exact tm_up_s
    have hw7_d := (show w7 d = _ by rw [hw8]; exact tm_up_n (fun z => absurd (hw5_a.symm.trans (z ▸ hw5_d)) (by intro q; cases q))).trans hw5_d
    exact tm_vret hC hR dJx4a65c_add_7a177_64 (⟨rfl, d, cap, va_up (va_cpy f f ((i : Int)).toNat ((i : Int) + 1).toNat ((n : Int) - (i : Int)).toNat) ((i : Int)).toNat (some v0), Or.inr ⟨rfl, by rw [hd]; exact fun z => by cases z⟩, fun b hb1 hb2 => by rw [hw8, tm_up_n hb1, hw6, tm_up_n hb2, hw4, tm_up_n hb2, hw2, tm_up_n hb1], by rw [hw8]; exact tm_up_s, (by rw [hw8, tm_up_n (fun z => absurd (z ▸ hd) (by rw [ha]; intro q; cases q)), hw6]; exact tm_up_s), by omega, fun j hj => (if_neg (by omega)).trans ((pk_cpy_out (by omega)).trans rfl), if_pos rfl, fun j h1 h2 => (if_neg (by omega)).trans ((pk_cpy_in (by omega) (by omega)).trans ((congrArg f (show _ = j by omega)).trans rfl))⟩)
  · exact ((by omega) : False).elim

theorem c_addi (γ : tmG) (hst : γ.1.stackTraces = false) (Ω : tmO) (a d n i v0 : Nat) (m0 : Int) (f : Nat → Option Nat) (ha : Ω a = some (.inr (0, [.int (I m0), .ref d, .int (I n)]))) (hv : tm_el Ω v0) (hin : i ≤ n) (h : ((d = γ.2.2.2.1 ∧ n = 0) ∨ (∃ cap, Ω d = some (tm_ao γ.2.2.1 cap f) ∧ n ≤ cap ∧ cap ≤ 400 ∧ 10 ≤ cap ∧ n ≤ 250 ∧ ∀ i : Nat, i < n → ∀ y : Nat, f i = some y → tm_el Ω y))) : tm_Con γ (tm_hol γ.2.1) M_Jx4a65c_add_7a177 6 1 400 [.ref a, .int (I (i : Int)), .ref v0] Ω (fun v w' => v = none ∧ ∃ (d' cap' : Nat) (g : Nat → Option Nat), (Ω d' = none ∨ (d' = d ∧ Ω d ≠ none)) ∧ (∀ b, b ≠ a → b ≠ d' → w' b = Ω b) ∧ w' a = some (.inr (0, [.int (I (m0 + 1)), .ref d', .int (I ((n : Int) + 1))])) ∧ w' d' = some (tm_ao γ.2.2.1 cap' g) ∧ (n + 1 ≤ cap' ∧ cap' ≤ 400 ∧ 10 ≤ cap') ∧ (∀ j : Nat, j < i → g j = f j) ∧ g i = some v0 ∧ ∀ j : Nat, i ≤ j → j < n → g (j + 1) = f j) := by
  rcases h with ⟨h1, h2⟩ | ⟨cap, h1, h2, h3, h4, h5, h6⟩
  · subst h1; exact c_addiA γ hst Ω a γ.2.2.2.1 n i v0 m0 f ha hv hin h2
  · by_cases hc : n = cap
    · subst hc; exact c_addiB γ hst Ω a d n i v0 m0 f ha hv hin h1 ⟨h4, h5⟩ h6
    · exact c_addiC γ hst Ω a d n i v0 m0 f ha hv hin cap h1 (by omega) h6
