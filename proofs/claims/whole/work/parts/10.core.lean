/-! The abstract world: a map from addresses to cells; frozen addresses Fz are never written. -/
abbrev tmO : Type := Nat → Option va_E
/-- an int as the machine holds it -/
abbrev I (n : Int) : Int32 := Int32.ofInt n
def tm_rg (n : Int) : Prop := -2147483648 ≤ n ∧ n ≤ 2147483647
theorem I_toInt {n : Int} (h : -2147483648 ≤ n ∧ n ≤ 2147483647) : (I n).toInt = n := Int32.toInt_ofInt_of_le (by omega) (by omega)
theorem I_of (x : Int32) : x = I x.toInt := (Int32.ofInt_toInt x).symm
theorem I_rg (x : Int32) : -2147483648 ≤ x.toInt ∧ x.toInt ≤ 2147483647 := ⟨by have := x.le_toInt; omega, by have := x.toInt_lt; omega⟩
theorem I_lt {a b : Int} (h : (-2147483648 ≤ a ∧ a ≤ 2147483647) ∧ -2147483648 ≤ b ∧ b ≤ 2147483647) : I a < I b ↔ a < b := by rw [Int32.lt_iff_toInt_lt, I_toInt h.1, I_toInt h.2]
theorem I_le {a b : Int} (h : (-2147483648 ≤ a ∧ a ≤ 2147483647) ∧ -2147483648 ≤ b ∧ b ≤ 2147483647) : I a ≤ I b ↔ a ≤ b := by rw [Int32.le_iff_toInt_le, I_toInt h.1, I_toInt h.2]
theorem I_eq {a b : Int} (h : (-2147483648 ≤ a ∧ a ≤ 2147483647) ∧ -2147483648 ≤ b ∧ b ≤ 2147483647) : I a = I b ↔ a = b := by rw [← Int32.toInt_inj, I_toInt h.1, I_toInt h.2]
theorem I_nat {a : Int} (h : 0 ≤ a ∧ a ≤ 2147483647) : (I a).toNatClampNeg = a.toNat := Int32.toNatClampNeg_ofInt_of_le (by omega) (by omega)
theorem I_in {a : Int} {n : Nat} (h : 0 ≤ a ∧ a < n ∧ a ≤ 2147483647) : vp_in (I a) n := vp_in_iff.mpr (by rw [I_toInt (by omega)]; omega)
def tm_up (Ω : tmO) (a : Nat) (e : va_E) : tmO := fun b => if b = a then some e else Ω b
theorem tm_up_s {Ω : tmO} {a : Nat} {e : va_E} : tm_up Ω a e a = some e := if_pos rfl
theorem tm_up_n {Ω : tmO} {a b : Nat} {e : va_E} (h : b ≠ a) : tm_up Ω a e b = Ω b := if_neg h
def tm_wl (Ω : tmO) (L : List Nat) : va_W := L.map (fun a => (a, (Ω a).getD (.inr (0, []))))
theorem tm_wl_at {Ω : tmO} {L : List Nat} {k : Nat} {q : Nat × va_E} (h : (tm_wl Ω L)[k]? = some q) : L[k]? = some q.1 ∧ q.2 = (Ω q.1).getD (.inr (0, [])) := by
  unfold tm_wl at h
  rw [List.getElem?_map] at h
  cases hL : L[k]? with
  | none => rw [hL] at h; cases h
  | some a => rw [hL] at h; cases h; exact ⟨rfl, rfl⟩
theorem tm_wl_of {Ω : tmO} {L : List Nat} {k a : Nat} (h : L[k]? = some a) : (tm_wl Ω L)[k]? = some (a, (Ω a).getD (.inr (0, []))) := by
  unfold tm_wl; rw [List.getElem?_map, h]; rfl
/-- the heap holds the world, apart, at addresses that aren't frozen -/
def tm_hol (D : va_G) (Fz : Nat → Prop) (Ω : tmO) (H : Heap) : Prop := ∃ L : List Nat, (∀ a, a ∈ L ↔ Ω a ≠ none) ∧ va_P D classes (tm_wl Ω L) H ∧ va_D (fun q => ¬ Fz q) (tm_wl Ω L)
theorem tm_hol_get {Ω : tmO} {L : List Nat} {a : Nat} {e : va_E} (hL : ∀ a, a ∈ L ↔ Ω a ≠ none) (h : Ω a = some e) : ∃ k : Nat, (tm_wl Ω L)[k]? = some (a, e) := by
  have hm : a ∈ L := (hL a).mpr (by rw [h]; exact fun z => by cases z)
  obtain ⟨k, hk⟩ := List.getElem?_of_mem hm
  exact ⟨k, (tm_wl_of hk).trans (by rw [h]; rfl)⟩
theorem tm_hol_at {D : va_G} {Fz : Nat → Prop} {Ω : tmO} {H : Heap} {a : Nat} {e : va_E} (h : tm_hol D Fz Ω H) (ha : Ω a = some e) : va_at D classes (a, e) H ∧ ¬ Fz a ∧ a < H.size := by
  obtain ⟨L, hL, hP, hD⟩ := h
  obtain ⟨k, hk⟩ := tm_hol_get hL ha
  exact ⟨hP k _ hk, hD.2 k _ hk, (hP k _ hk).lt⟩
theorem tm_wl_set {A : Nat → Prop} {Ω : tmO} {L : List Nat} {a k : Nat} {e e' : va_E} (hD : va_D A (tm_wl Ω L)) (hk : (tm_wl Ω L)[k]? = some (a, e)) : (tm_wl Ω L).set k (a, e') = tm_wl (tm_up Ω a e') L := by
  refine List.ext_getElem? fun j => ?_
  have hLk := (tm_wl_at hk).1
  by_cases hj : j = k
  · subst hj
    rw [tm_wl_of (Ω := tm_up Ω a e') hLk, List.getElem?_set_self (List.getElem?_eq_some_iff.mp hk).1]
    show _ = some (a, (tm_up Ω a e' a).getD _)
    rw [tm_up_s]; rfl
  · rw [List.getElem?_set_ne (Ne.symm hj)]
    cases hq : L[j]? with
    | none => unfold tm_wl; rw [List.getElem?_map, List.getElem?_map, hq]; rfl
    | some b =>
      have hb : b ≠ a := by
        intro hb
        subst hb
        exact hj (hD.1 j k _ _ (tm_wl_of hq) hk rfl)
      rw [tm_wl_of hq, tm_wl_of hq, tm_up_n hb]
theorem tm_hol_set {D : va_G} {Fz : Nat → Prop} {Ω : tmO} {H1 : Heap} {L : List Nat} {a k : Nat} {e e' : va_E} (hL : ∀ a, a ∈ L ↔ Ω a ≠ none) (hD : va_D (fun q => ¬ Fz q) (tm_wl Ω L)) (hk : (tm_wl Ω L)[k]? = some (a, e)) (hP1 : va_P D classes ((tm_wl Ω L).set k (a, e')) H1) (hD1 : va_D (fun q => ¬ Fz q) ((tm_wl Ω L).set k (a, e'))) : tm_hol D Fz (tm_up Ω a e') H1 := by
  rw [tm_wl_set hD hk] at hP1 hD1
  refine ⟨L, fun b => ?_, hP1, hD1⟩
  by_cases hb : b = a
  · subst hb
    rw [tm_up_s]
    exact ⟨(fun _ z => by cases z), fun _ => List.mem_of_getElem? (tm_wl_at hk).1⟩
  · rw [tm_up_n hb]; exact hL b
theorem tm_wl_push {Ω : tmO} {L : List Nat} {a : Nat} {e : va_E} (h : a ∉ L) : tm_wl Ω L ++ [(a, e)] = tm_wl (tm_up Ω a e) (L ++ [a]) := by
  unfold tm_wl
  rw [List.map_append, List.map_singleton, tm_up_s]
  refine congrArg (· ++ _) (List.map_congr_left fun b hb => ?_)
  rw [tm_up_n (fun z => h (by rw [← z]; exact hb))]
theorem tm_hol_push {D : va_G} {Fz : Nat → Prop} {Ω : tmO} {H1 : Heap} {L : List Nat} {a : Nat} {e : va_E} (hL : ∀ a, a ∈ L ↔ Ω a ≠ none) (hP1 : va_P D classes (tm_wl Ω L ++ [(a, e)]) H1) (hD1 : va_D (fun q => ¬ Fz q) (tm_wl Ω L ++ [(a, e)])) : tm_hol D Fz (tm_up Ω a e) H1 ∧ Ω a = none := by
  have hn : a ∉ L := by
    intro hm
    obtain ⟨k, hk⟩ := List.getElem?_of_mem hm
    have hl : k < L.length := (List.getElem?_eq_some_iff.mp hk).1
    have hl2 : (tm_wl Ω L).length = L.length := by unfold tm_wl; rw [List.length_map]
    have h1 : (tm_wl Ω L ++ [(a, e)])[k]? = some (a, (Ω a).getD (.inr (0, []))) := by rw [List.getElem?_append_left (by omega)]; exact tm_wl_of hk
    have h2 : (tm_wl Ω L ++ [(a, e)])[L.length]? = some (a, e) := by rw [List.getElem?_append_right (by omega), hl2, Nat.sub_self]; rfl
    have := hD1.1 _ _ _ _ h1 h2 rfl
    omega
  rw [tm_wl_push hn] at hP1 hD1
  have hnone : Ω a = none := by
    cases h : Ω a with
    | none => rfl
    | some x => exact absurd ((hL a).mpr (by rw [h]; exact fun z => by cases z)) hn
  refine ⟨⟨L ++ [a], fun b => ?_, hP1, hD1⟩, hnone⟩
  rw [List.mem_append, List.mem_singleton, hL b]
  by_cases hb : b = a
  · subst hb; rw [tm_up_s]; exact ⟨(fun _ z => by cases z), fun _ => Or.inr rfl⟩
  · rw [tm_up_n hb]; exact ⟨fun h => h.elim id (fun z => absurd z hb), Or.inl⟩
/-- what a state's tables and statics give: the classes, nest links and casts, the empty array of lists, the statics that a throw reads, the texts -/
def tm_tys (T : ClassId × ClassId × ClassId × ClassId) : List (ClassId × FieldType) := [(T.1, .int), (T.2.1, .boolean), (T.2.2.1, .long), (T.2.2.2, .object "java/lang/Object")]
/-- of the tables alone -/
def tm_Et (D : va_G) (T : ClassId × ClassId × ClassId × ClassId) (mi : Nat) (U : State) : Prop :=
  va_K D classes (tm_tys T) U ∧ (∀ w ∈ NW, va_Nw w U) ∧ (∀ (own tx : String) (k : Nat), Cond.stringRef own k tx ∈ lw_tbl → ∃ sa, vk_R own k tx sa U) ∧ va_Mi "[Ljava/lang/Object;" mi U ∧ va_AO "java/lang/Object" U
/-- of the statics -/
def tm_Es (T : ClassId × ClassId × ClassId × ClassId) (e0 : Nat) (Fz : Nat → Prop) (U : State) (H : Heap) : Prop :=
  va_Z "java/util/ArrayList" "DEFAULTCAPACITY_EMPTY_ELEMENTDATA" "[Ljava/lang/Object;" (.ref e0) (fun q => ¬ Fz q) U H ∧ va_T (.object "java/lang/Object") e0 0 (fun _ => .null) (fun q => ¬ Fz q) U H ∧ Fz e0 ∧
  vx_Zq Bundle.tN "UNASSIGNED_STACK" Bundle.steD (fun q => ¬ Fz q) U H ∧ vx_Zq Bundle.tN "SUPPRESSED_SENTINEL" Bundle.listD (fun q => ¬ Fz q) U H ∧ ∀ q, Fz q → q < H.size
theorem tm_Et.warm {D : va_G} {T : ClassId × ClassId × ClassId × ClassId} {mi : Nat} {s U : State} (hW : s.WarmedH U.vm) (h : tm_Et D T mi s) : tm_Et D T mi U := by
  obtain ⟨h1, h2, h3, h4, h5⟩ := h
  refine ⟨va_K.moved hW.alike h1, fun w hw => ?_, fun own tx k hk => ?_, va_Mi.moved hW.alike h4, va_AO.moved hW.alike h5⟩
  · have h := h2 w hw
    have hg := (List.mem_filter.mp hw).2
    cases w <;> first
      | exact va_Nw.warmF hW h
      | exact va_Nw.warmM hW h
      | exact va_Nw.warmC hW h
      | exact va_Nw.warmD hW h
      | exact absurd hg (by decide)
      | (exfalso; revert hg; exact fun z => by cases z)
  · obtain ⟨sa, hsa⟩ := h3 own tx k hk
    exact ⟨sa, vk_R.warm hW hsa⟩
theorem tm_Es.moved {T : ClassId × ClassId × ClassId × ClassId} {e0 : Nat} {Fz : Nat → Prop} {s U : State} {H : Heap} (hvm : s.vm.Alike U.vm) (h : tm_Es T e0 Fz s H) : tm_Es T e0 Fz U H :=
  ⟨va_Z.moved hvm h.1, va_T.moved hvm h.2.1, h.2.2.1, vx_Zq.moved hvm h.2.2.2.1, vx_Zq.moved hvm h.2.2.2.2.1, h.2.2.2.2.2⟩
theorem tm_Es.kept {T : ClassId × ClassId × ClassId × ClassId} {e0 : Nat} {Fz : Nat → Prop} {s : State} {H H1 : Heap} (hz : H.size ≤ H1.size) (hq : ∀ a : Nat, a < H.size → Fz a → H1[a]? = H[a]?) (h : tm_Es T e0 Fz s H) : tm_Es T e0 Fz s H1 :=
  ⟨va_Z.kept h.1 (fun a h1 h2 => hq a h1 (Classical.byContradiction h2)), va_T.kept h.2.1 (fun a h1 h2 => hq a h1 (Classical.byContradiction h2)), h.2.2.1, vx_Zq.kept h.2.2.2.1 (fun a h1 h2 => hq a h1 (Classical.byContradiction h2)), vx_Zq.kept h.2.2.2.2.1 (fun a h1 h2 => hq a h1 (Classical.byContradiction h2)), fun q h9 => Nat.lt_of_lt_of_le (h.2.2.2.2.2 q h9) hz⟩
/-- the method's walk: everything that stays through it -/
abbrev tmX : Type := (Program × Launch × Env × Room × State × MethodId × Array Value × List Frame × Method × Code × (State → Prop)) × va_G × (ClassId × ClassId × ClassId × ClassId) × Nat × Nat × (Nat → Prop) × Nat
def tm_W (x : tmX) (H : Heap) (locs : List Loc) (cells slots : Nat) (g : JFrame) : Prop := W x.1.1 x.1.2.1 x.1.2.2.1 x.1.2.2.2.1 x.1.2.2.2.2.1 x.1.2.2.2.2.2.1 x.1.2.2.2.2.2.2.1 x.1.2.2.2.2.2.2.2.1 x.1.2.2.2.2.2.2.2.2.1 x.1.2.2.2.2.2.2.2.2.2.1 H locs cells slots x.1.2.2.2.2.2.2.2.2.2.2 g
abbrev tm_st (x : tmX) : State := x.1.2.2.2.2.1
abbrev tm_R (x : tmX) : Room := x.1.2.2.2.1
abbrev tm_m (x : tmX) : MethodId := x.1.2.2.2.2.2.1
abbrev tm_as (x : tmX) : Array Value := x.1.2.2.2.2.2.2.1
abbrev tm_c (x : tmX) : Code := x.1.2.2.2.2.2.2.2.2.2.1
abbrev tm_me (x : tmX) : Method := x.1.2.2.2.2.2.2.2.2.1
abbrev tm_D (x : tmX) : va_G := x.2.1
abbrev tm_T (x : tmX) : ClassId × ClassId × ClassId × ClassId := x.2.2.1
abbrev tm_e0 (x : tmX) : Nat := x.2.2.2.1
abbrev tm_mi (x : tmX) : Nat := x.2.2.2.2.1
abbrev tm_Fz (x : tmX) : Nat → Prop := x.2.2.2.2.2.1
abbrev tm_nL (x : tmX) : Nat := x.2.2.2.2.2.2
/-- what stays of the method: the machine, its code, its class, the words -/
def tm_C (x : tmX) (cc : ByteArray) (own : String) (ret : Option FieldType) : Prop :=
  x.1.1.tables.exec = Jvm.exec ∧ (tm_c x).code = cc ∧ (tm_c x).maxLocals = tm_nL x ∧ (tm_st x).vm.findClass own = some (tm_m x).cls ∧ (∀ w ∈ ALL, w.before (tm_as x) (tm_st x) = true) ∧ (tm_me x).locks = false ∧ (tm_me x).sig.returnType = ret ∧ x.1.2.1.stackTraces = false ∧ tm_Et (tm_D x) (tm_T x) (tm_mi x) (tm_st x) ∧ tm_Es (tm_T x) (tm_e0 x) (tm_Fz x) (tm_st x) (tm_st x).heap
theorem tm_CK {x : tmX} {cc : ByteArray} {own : String} {ret : Option FieldType} (hC : tm_C x cc own ret) : va_K (tm_D x) classes (tm_tys (tm_T x)) (tm_st x) := hC.2.2.2.2.2.2.2.2.1.1
theorem tm_CN {x : tmX} {cc : ByteArray} {own : String} {ret : Option FieldType} (hC : tm_C x cc own ret) {w : Cond} (h : w ∈ NW) : va_Nw w (tm_st x) := hC.2.2.2.2.2.2.2.2.1.2.1 w h
theorem tm_CW {x : tmX} {cc : ByteArray} {own : String} {ret : Option FieldType} (hC : tm_C x cc own ret) {w : Cond} (h : w ∈ ALL) : w.before (tm_as x) (tm_st x) = true := hC.2.2.2.2.1 w h
theorem tm_CE {x : tmX} {cc : ByteArray} {own : String} {ret : Option FieldType} (hC : tm_C x cc own ret) {H : Heap} {locs : List Loc} (hS : va_S (fun q => ¬ tm_Fz x q) (tm_st x).heap H locs) : tm_Es (tm_T x) (tm_e0 x) (tm_Fz x) (tm_st x) H := tm_Es.kept hS.1 (fun a h1 h2 => hS.2.1 a h1 (fun z => z h2)) hC.2.2.2.2.2.2.2.2.2
/-- the walk at a place: from every heap of that kind, with b cells and n slots left -/
def tm_V (x : tmX) (G : Heap → Prop) (b n : Nat) (pc : Nat) (L : List (Nat × Value)) (st : List Value) : Prop :=
  ∀ (H : Heap) (locs : List Loc) (ls : Array Slot) (cells slots : Nat), cells + b ≤ (tm_R x).cells → slots + n ≤ (tm_R x).slots → va_S (fun q => ¬ tm_Fz x q) (tm_st x).heap H locs → G H → lv_has ls (tm_nL x) L → tm_W x H locs cells slots (F0 (tm_m x) pc ls st)
section TMV
variable {x : tmX} {cc : ByteArray} {own : String} {ret : Option FieldType} {G : Heap → Prop} {b n pc : Nat} {L L' : List (Nat × Value)} {st : List Value}
theorem tm_sub (ks : List Nat) (hl : lv_pick L ks = L') (k : tm_V x G b n pc L' st) : tm_V x G b n pc L st :=
  fun H locs ls cells slots h1 h2 hS hG h => k H locs ls cells slots h1 h2 hS hG (lv_sub h ks hl)
theorem tm_less {b' n' : Nat} (h : b' ≤ b ∧ n' ≤ n) (k : tm_V x G b' n' pc L st) : tm_V x G b n pc L st :=
  fun H locs ls cells slots h1 h2 hS hG hl => k H locs ls cells slots (by omega) (by omega) hS hG hl
theorem tm_goto {off : Int} (tgt : Nat) (hC : tm_C x cc own ret) (hd : decode cc pc = .ok (.goto off, 3)) (ht : (pc : Int) + off = (tgt : Int)) (k : tm_V x G b n tgt L st) : tm_V x G b n pc L st :=
  fun H locs ls cells slots h1 h2 hS hG hl => lv_goto hC.1 hC.2.1 hd ht (k H locs ls cells slots h1 h2 hS hG hl)
theorem tm_iconst {v : Int} (hC : tm_C x cc own ret) (hd : decode cc pc = .ok (.iconst v, 1)) (k : tm_V x G b n (pc + 1) L (.int (I v) :: st)) : tm_V x G b n pc L st :=
  fun H locs ls cells slots h1 h2 hS hG hl => lv_iconst hC.1 hC.2.1 hd rfl (k H locs ls cells slots h1 h2 hS hG hl)
theorem tm_bipush {v : Int} (hC : tm_C x cc own ret) (hd : decode cc pc = .ok (.bipush v, 2)) (hv : (Int8.ofInt v).toInt32 = I v) (k : tm_V x G b n (pc + 2) L (.int (I v) :: st)) : tm_V x G b n pc L st :=
  fun H locs ls cells slots h1 h2 hS hG hl => lv_bipush hC.1 hC.2.1 hd hv (k H locs ls cells slots h1 h2 hS hG hl)
theorem tm_sipush {v : Int} (hC : tm_C x cc own ret) (hd : decode cc pc = .ok (.sipush v, 3)) (hv : (Int16.ofInt v).toInt32 = I v) (k : tm_V x G b n (pc + 3) L (.int (I v) :: st)) : tm_V x G b n pc L st :=
  fun H locs ls cells slots h1 h2 hS hG hl => lv_sipush hC.1 hC.2.1 hd hv (k H locs ls cells slots h1 h2 hS hG hl)
theorem tm_lconst {v : Fin 2} {w : Int64} (hC : tm_C x cc own ret) (hd : decode cc pc = .ok (.lconst v, 1)) (hv : Int64.ofNat (v : Nat) = w) (k : tm_V x G b n (pc + 1) L (.long w :: st)) : tm_V x G b n pc L st :=
  fun H locs ls cells slots h1 h2 hS hG hl => lv_lconst hC.1 hC.2.1 hd hv (k H locs ls cells slots h1 h2 hS hG hl)
theorem tm_dconst0 (hC : tm_C x cc own ret) (hd : decode cc pc = .ok (.dconst 0, 1)) (k : tm_V x G b n (pc + 1) L (.double 0 :: st)) : tm_V x G b n pc L st :=
  fun H locs ls cells slots h1 h2 hS hG hl => lv_dconst0 hC.1 hC.2.1 hd (k H locs ls cells slots h1 h2 hS hG hl)
theorem tm_null (hC : tm_C x cc own ret) (hd : decode cc pc = .ok (.aconst_null, 1)) (k : tm_V x G b n (pc + 1) L (.null :: st)) : tm_V x G b n pc L st :=
  fun H locs ls cells slots h1 h2 hS hG hl => lv_null hC.1 hC.2.1 hd (k H locs ls cells slots h1 h2 hS hG hl)
theorem tm_ldc2 {i : Nat} {v : Int64} (hC : tm_C x cc own ret) (hw : Cond.constantLong own i v ∈ ALL) (hd : decode cc pc = .ok (.ldc2_w i, 3)) (k : tm_V x G b n (pc + 3) L (.long v :: st)) : tm_V x G b n pc L st :=
  fun H locs ls cells slots h1 h2 hS hG hl => lv_ldc2 hC.1 hC.2.1 hC.2.2.2.1 (hC.2.2.2.2.1 _ hw) hd (k H locs ls cells slots h1 h2 hS hG hl)
theorem tm_ldc {i : Nat} {v : Int32} (hC : tm_C x cc own ret) (hw : Cond.constant own i v ∈ ALL) (hd : decode cc pc = .ok (.ldc i, 2)) (k : tm_V x G b n (pc + 2) L (.int v :: st)) : tm_V x G b n pc L st :=
  fun H locs ls cells slots h1 h2 hS hG hl => lv_ldc hC.1 hC.2.1 hC.2.2.2.1 (hC.2.2.2.2.1 _ hw) hd (k H locs ls cells slots h1 h2 hS hG hl)
theorem tm_iload_n {j : Fin 4} {i : Nat} {v : Int32} (p : Nat) (hC : tm_C x cc own ret) (hd : decode cc pc = .ok (.iload_n j, 1)) (hi : (j : Nat) = i) (hl0 : L[p]? = some (i, .int v)) (k : tm_V x G b n (pc + 1) L (.int v :: st)) : tm_V x G b n pc L st :=
  fun H locs ls cells slots h1 h2 hS hG hl => lv_iload_n hC.1 hC.2.1 hd hi (lv_at hl p hl0) (k H locs ls cells slots h1 h2 hS hG hl)
theorem tm_iload {i : Nat} {v : Int32} (p : Nat) (hC : tm_C x cc own ret) (hd : decode cc pc = .ok (.iload i, 2)) (hl0 : L[p]? = some (i, .int v)) (k : tm_V x G b n (pc + 2) L (.int v :: st)) : tm_V x G b n pc L st :=
  fun H locs ls cells slots h1 h2 hS hG hl => lv_iload hC.1 hC.2.1 hd (lv_at hl p hl0) (k H locs ls cells slots h1 h2 hS hG hl)
theorem tm_aload_n {j : Fin 4} {i : Nat} {v : Nat} (p : Nat) (hC : tm_C x cc own ret) (hd : decode cc pc = .ok (.aload_n j, 1)) (hi : (j : Nat) = i) (hl0 : L[p]? = some (i, .ref v)) (k : tm_V x G b n (pc + 1) L (.ref v :: st)) : tm_V x G b n pc L st :=
  fun H locs ls cells slots h1 h2 hS hG hl => lv_aload_n hC.1 hC.2.1 hd hi (lv_at hl p hl0) (k H locs ls cells slots h1 h2 hS hG hl)
theorem tm_aload {i : Nat} {v : Nat} (p : Nat) (hC : tm_C x cc own ret) (hd : decode cc pc = .ok (.aload i, 2)) (hl0 : L[p]? = some (i, .ref v)) (k : tm_V x G b n (pc + 2) L (.ref v :: st)) : tm_V x G b n pc L st :=
  fun H locs ls cells slots h1 h2 hS hG hl => lv_aload hC.1 hC.2.1 hd (lv_at hl p hl0) (k H locs ls cells slots h1 h2 hS hG hl)
theorem tm_lload_n {j : Fin 4} {i : Nat} {v : Int64} (p : Nat) (hC : tm_C x cc own ret) (hd : decode cc pc = .ok (.lload_n j, 1)) (hi : (j : Nat) = i) (hl0 : L[p]? = some (i, .long v)) (k : tm_V x G b n (pc + 1) L (.long v :: st)) : tm_V x G b n pc L st :=
  fun H locs ls cells slots h1 h2 hS hG hl => lv_lload_n hC.1 hC.2.1 hd hi (lv_at hl p hl0) (k H locs ls cells slots h1 h2 hS hG hl)
theorem tm_lload {i : Nat} {v : Int64} (p : Nat) (hC : tm_C x cc own ret) (hd : decode cc pc = .ok (.lload i, 2)) (hl0 : L[p]? = some (i, .long v)) (k : tm_V x G b n (pc + 2) L (.long v :: st)) : tm_V x G b n pc L st :=
  fun H locs ls cells slots h1 h2 hS hG hl => lv_lload hC.1 hC.2.1 hd (lv_at hl p hl0) (k H locs ls cells slots h1 h2 hS hG hl)
theorem tm_dload_n {j : Fin 4} {i : Nat} {v : UInt64} (p : Nat) (hC : tm_C x cc own ret) (hd : decode cc pc = .ok (.dload_n j, 1)) (hi : (j : Nat) = i) (hl0 : L[p]? = some (i, .double v)) (k : tm_V x G b n (pc + 1) L (.double v :: st)) : tm_V x G b n pc L st :=
  fun H locs ls cells slots h1 h2 hS hG hl => lv_dload_n hC.1 hC.2.1 hd hi (lv_at hl p hl0) (k H locs ls cells slots h1 h2 hS hG hl)
theorem tm_dload {i : Nat} {v : UInt64} (p : Nat) (hC : tm_C x cc own ret) (hd : decode cc pc = .ok (.dload i, 2)) (hl0 : L[p]? = some (i, .double v)) (k : tm_V x G b n (pc + 2) L (.double v :: st)) : tm_V x G b n pc L st :=
  fun H locs ls cells slots h1 h2 hS hG hl => lv_dload hC.1 hC.2.1 hd (lv_at hl p hl0) (k H locs ls cells slots h1 h2 hS hG hl)
theorem tm_istore_n {j : Fin 4} {i : Nat} {v : Int32} (L' : List (Nat × Value)) (hC : tm_C x cc own ret) (hd : decode cc pc = .ok (.istore_n j, 1)) (hi : (j : Nat) = i) (hn : i < tm_nL x) (hl0 : (i, Value.int v) :: L.filter (fun q => !(q.1 == i) && !(q.1 + 1 == i && q.2.category == 2)) = L') (k : tm_V x G b n (pc + 1) L' st) : tm_V x G b n pc L (Value.int v :: st) :=
  fun H locs ls cells slots h1 h2 hS hG hl => lv_istore_n hC.1 hC.2.1 hd hi hl hn hl0 (fun ls' hl' => k H locs ls' cells slots h1 h2 hS hG hl')
theorem tm_istore {i : Nat} {v : Int32} (L' : List (Nat × Value)) (hC : tm_C x cc own ret) (hd : decode cc pc = .ok (.istore i, 2)) (hn : i < tm_nL x) (hl0 : (i, Value.int v) :: L.filter (fun q => !(q.1 == i) && !(q.1 + 1 == i && q.2.category == 2)) = L') (k : tm_V x G b n (pc + 2) L' st) : tm_V x G b n pc L (Value.int v :: st) :=
  fun H locs ls cells slots h1 h2 hS hG hl => lv_istore hC.1 hC.2.1 hd hl hn hl0 (fun ls' hl' => k H locs ls' cells slots h1 h2 hS hG hl')
theorem tm_astore_n {j : Fin 4} {i : Nat} {v : Nat} (L' : List (Nat × Value)) (hC : tm_C x cc own ret) (hd : decode cc pc = .ok (.astore_n j, 1)) (hi : (j : Nat) = i) (hn : i < tm_nL x) (hl0 : (i, Value.ref v) :: L.filter (fun q => !(q.1 == i) && !(q.1 + 1 == i && q.2.category == 2)) = L') (k : tm_V x G b n (pc + 1) L' st) : tm_V x G b n pc L (Value.ref v :: st) :=
  fun H locs ls cells slots h1 h2 hS hG hl => lv_astore_n hC.1 hC.2.1 hd hi hl hn hl0 (fun ls' hl' => k H locs ls' cells slots h1 h2 hS hG hl')
theorem tm_astore {i : Nat} {v : Nat} (L' : List (Nat × Value)) (hC : tm_C x cc own ret) (hd : decode cc pc = .ok (.astore i, 2)) (hn : i < tm_nL x) (hl0 : (i, Value.ref v) :: L.filter (fun q => !(q.1 == i) && !(q.1 + 1 == i && q.2.category == 2)) = L') (k : tm_V x G b n (pc + 2) L' st) : tm_V x G b n pc L (Value.ref v :: st) :=
  fun H locs ls cells slots h1 h2 hS hG hl => lv_astore hC.1 hC.2.1 hd hl hn hl0 (fun ls' hl' => k H locs ls' cells slots h1 h2 hS hG hl')
theorem tm_lstore_n {j : Fin 4} {i : Nat} {v : Int64} (L' : List (Nat × Value)) (hC : tm_C x cc own ret) (hd : decode cc pc = .ok (.lstore_n j, 1)) (hi : (j : Nat) = i) (hn : i + 1 < tm_nL x) (hl0 : (i, Value.long v) :: L.filter (fun q => !(q.1 == i) && (!(q.1 == i + 1) && !(q.1 + 1 == i && q.2.category == 2))) = L') (k : tm_V x G b n (pc + 1) L' st) : tm_V x G b n pc L (Value.long v :: st) :=
  fun H locs ls cells slots h1 h2 hS hG hl => lv_lstore_n hC.1 hC.2.1 hd hi hl hn hl0 (fun ls' hl' => k H locs ls' cells slots h1 h2 hS hG hl')
theorem tm_lstore {i : Nat} {v : Int64} (L' : List (Nat × Value)) (hC : tm_C x cc own ret) (hd : decode cc pc = .ok (.lstore i, 2)) (hn : i + 1 < tm_nL x) (hl0 : (i, Value.long v) :: L.filter (fun q => !(q.1 == i) && (!(q.1 == i + 1) && !(q.1 + 1 == i && q.2.category == 2))) = L') (k : tm_V x G b n (pc + 2) L' st) : tm_V x G b n pc L (Value.long v :: st) :=
  fun H locs ls cells slots h1 h2 hS hG hl => lv_lstore hC.1 hC.2.1 hd hl hn hl0 (fun ls' hl' => k H locs ls' cells slots h1 h2 hS hG hl')
theorem tm_dstore_n {j : Fin 4} {i : Nat} {v : UInt64} (L' : List (Nat × Value)) (hC : tm_C x cc own ret) (hd : decode cc pc = .ok (.dstore_n j, 1)) (hi : (j : Nat) = i) (hn : i + 1 < tm_nL x) (hl0 : (i, Value.double v) :: L.filter (fun q => !(q.1 == i) && (!(q.1 == i + 1) && !(q.1 + 1 == i && q.2.category == 2))) = L') (k : tm_V x G b n (pc + 1) L' st) : tm_V x G b n pc L (Value.double v :: st) :=
  fun H locs ls cells slots h1 h2 hS hG hl => lv_dstore_n hC.1 hC.2.1 hd hi hl hn hl0 (fun ls' hl' => k H locs ls' cells slots h1 h2 hS hG hl')
theorem tm_dstore {i : Nat} {v : UInt64} (L' : List (Nat × Value)) (hC : tm_C x cc own ret) (hd : decode cc pc = .ok (.dstore i, 2)) (hn : i + 1 < tm_nL x) (hl0 : (i, Value.double v) :: L.filter (fun q => !(q.1 == i) && (!(q.1 == i + 1) && !(q.1 + 1 == i && q.2.category == 2))) = L') (k : tm_V x G b n (pc + 2) L' st) : tm_V x G b n pc L (Value.double v :: st) :=
  fun H locs ls cells slots h1 h2 hS hG hl => lv_dstore hC.1 hC.2.1 hd hl hn hl0 (fun ls' hl' => k H locs ls' cells slots h1 h2 hS hG hl')
theorem tm_aload_nN {j : Fin 4} {i : Nat} (p : Nat) (hC : tm_C x cc own ret) (hd : decode cc pc = .ok (.aload_n j, 1)) (hi : (j : Nat) = i) (hl0 : L[p]? = some (i, .null)) (k : tm_V x G b n (pc + 1) L (.null :: st)) : tm_V x G b n pc L st :=
  fun H locs ls cells slots h1 h2 hS hG hl => lv_aload_nN hC.1 hC.2.1 hd hi (lv_at hl p hl0) (k H locs ls cells slots h1 h2 hS hG hl)
theorem tm_astore_nN {j : Fin 4} {i : Nat} (L' : List (Nat × Value)) (hC : tm_C x cc own ret) (hd : decode cc pc = .ok (.astore_n j, 1)) (hi : (j : Nat) = i) (hn : i < tm_nL x) (hl0 : (i, Value.null) :: L.filter (fun q => !(q.1 == i) && !(q.1 + 1 == i && q.2.category == 2)) = L') (k : tm_V x G b n (pc + 1) L' st) : tm_V x G b n pc L (.null :: st) :=
  fun H locs ls cells slots h1 h2 hS hG hl => lv_astore_nN hC.1 hC.2.1 hd hi hl hn hl0 (fun ls' hl' => k H locs ls' cells slots h1 h2 hS hG hl')
theorem tm_iinc {i : Nat} {d v : Int} (p : Nat) (L' : List (Nat × Value)) (hC : tm_C x cc own ret) (hd : decode cc pc = .ok (.iinc i d, 3)) (hl1 : L[p]? = some (i, .int (I v))) (hn : i < tm_nL x) (hl0 : (i, Value.int (I (v + d))) :: L.filter (fun q => !(q.1 == i) && !(q.1 + 1 == i && q.2.category == 2)) = L') (k : tm_V x G b n (pc + 3) L' st) : tm_V x G b n pc L st :=
  fun H locs ls cells slots h1 h2 hS hG hl => lv_iinc hC.1 hC.2.1 hd hl hl1 (v := I (v + d)) (Int32.ofInt_add v d).symm hn hl0 (fun ls' hl' => k H locs ls' cells slots h1 h2 hS hG hl')
theorem tm_iadd {u v : Int} (hC : tm_C x cc own ret) (hd : decode cc pc = .ok (.iadd, 1)) (k : tm_V x G b n (pc + 1) L (.int (I (u + v)) :: st)) : tm_V x G b n pc L (.int (I v) :: .int (I u) :: st) :=
  fun H locs ls cells slots h1 h2 hS hG hl => lv_iadd hC.1 hC.2.1 hd (by rw [← Int32.ofInt_add]; exact k H locs ls cells slots h1 h2 hS hG hl)
theorem tm_isub {u v : Int} (hC : tm_C x cc own ret) (hd : decode cc pc = .ok (.isub, 1)) (k : tm_V x G b n (pc + 1) L (.int (I (u - v)) :: st)) : tm_V x G b n pc L (.int (I v) :: .int (I u) :: st) :=
  fun H locs ls cells slots h1 h2 hS hG hl => lv_isub hC.1 hC.2.1 hd (by rw [← Int32.ofInt_sub]; exact k H locs ls cells slots h1 h2 hS hG hl)
theorem tm_imul {u v : Int} (hC : tm_C x cc own ret) (hd : decode cc pc = .ok (.imul, 1)) (k : tm_V x G b n (pc + 1) L (.int (I (u * v)) :: st)) : tm_V x G b n pc L (.int (I v) :: .int (I u) :: st) :=
  fun H locs ls cells slots h1 h2 hS hG hl => lv_imul hC.1 hC.2.1 hd (by rw [← Int32.ofInt_mul]; exact k H locs ls cells slots h1 h2 hS hG hl)
theorem tm_ladd {u v : Int64} (hC : tm_C x cc own ret) (hd : decode cc pc = .ok (.ladd, 1)) (k : tm_V x G b n (pc + 1) L (.long (u + v) :: st)) : tm_V x G b n pc L (.long v :: .long u :: st) :=
  fun H locs ls cells slots h1 h2 hS hG hl => lv_ladd hC.1 hC.2.1 hd (k H locs ls cells slots h1 h2 hS hG hl)
theorem tm_lmul {u v : Int64} (hC : tm_C x cc own ret) (hd : decode cc pc = .ok (.lmul, 1)) (k : tm_V x G b n (pc + 1) L (.long (u * v) :: st)) : tm_V x G b n pc L (.long v :: .long u :: st) :=
  fun H locs ls cells slots h1 h2 hS hG hl => lv_lmul hC.1 hC.2.1 hd (k H locs ls cells slots h1 h2 hS hG hl)
theorem tm_iand {u v : Int32} (hC : tm_C x cc own ret) (hd : decode cc pc = .ok (.iand, 1)) (k : tm_V x G b n (pc + 1) L (.int (u &&& v) :: st)) : tm_V x G b n pc L (.int v :: .int u :: st) :=
  fun H locs ls cells slots h1 h2 hS hG hl => lv_iand hC.1 hC.2.1 hd (k H locs ls cells slots h1 h2 hS hG hl)
theorem tm_i2l {u : Int32} (hC : tm_C x cc own ret) (hd : decode cc pc = .ok (.i2l, 1)) (k : tm_V x G b n (pc + 1) L (.long u.toInt64 :: st)) : tm_V x G b n pc L (.int u :: st) :=
  fun H locs ls cells slots h1 h2 hS hG hl => lv_i2l hC.1 hC.2.1 hd rfl (k H locs ls cells slots h1 h2 hS hG hl)
theorem tm_dup {v : Value} (hC : tm_C x cc own ret) (hd : decode cc pc = .ok (.dup, 1)) (hv : v.category = 1) (k : tm_V x G b n (pc + 1) L (v :: v :: st)) : tm_V x G b n pc L (v :: st) :=
  fun H locs ls cells slots h1 h2 hS hG hl => lv_dup hC.1 hC.2.1 hd hv (k H locs ls cells slots h1 h2 hS hG hl)
theorem tm_dup_x1 {v w : Value} (hC : tm_C x cc own ret) (hd : decode cc pc = .ok (.dup_x1, 1)) (hv : v.category = 1) (hw : w.category = 1) (k : tm_V x G b n (pc + 1) L (v :: w :: v :: st)) : tm_V x G b n pc L (v :: w :: st) :=
  fun H locs ls cells slots h1 h2 hS hG hl => lv_dup_x1 hC.1 hC.2.1 hd hv hw (k H locs ls cells slots h1 h2 hS hG hl)
theorem tm_dup2 {v w : Value} (hC : tm_C x cc own ret) (hd : decode cc pc = .ok (.dup2, 1)) (hv : v.category = 1) (hw : w.category = 1) (k : tm_V x G b n (pc + 1) L (v :: w :: v :: w :: st)) : tm_V x G b n pc L (v :: w :: st) :=
  fun H locs ls cells slots h1 h2 hS hG hl => lv_dup2_11 hC.1 hC.2.1 hd hv hw (k H locs ls cells slots h1 h2 hS hG hl)
theorem tm_pop {v : Value} (hC : tm_C x cc own ret) (hd : decode cc pc = .ok (.pop, 1)) (hv : v.category = 1) (k : tm_V x G b n (pc + 1) L st) : tm_V x G b n pc L (v :: st) :=
  fun H locs ls cells slots h1 h2 hS hG hl => lv_pop hC.1 hC.2.1 hd hv (k H locs ls cells slots h1 h2 hS hG hl)
theorem tm_ifnull {a : Nat} {off : Int} (hC : tm_C x cc own ret) (hd : decode cc pc = .ok (.ifnull off, 3)) (k : tm_V x G b n (pc + 3) L st) : tm_V x G b n pc L (.ref a :: st) :=
  fun H locs ls cells slots h1 h2 hS hG hl => lv_ifnull hC.1 hC.2.1 hd (k H locs ls cells slots h1 h2 hS hG hl)
theorem tm_ifnullN {off : Int} (tgt : Nat) (hC : tm_C x cc own ret) (hd : decode cc pc = .ok (.ifnull off, 3)) (ht : (pc : Int) + off = (tgt : Int)) (k : tm_V x G b n tgt L st) : tm_V x G b n pc L (.null :: st) :=
  fun H locs ls cells slots h1 h2 hS hG hl => lv_ifnullN hC.1 hC.2.1 hd ht (k H locs ls cells slots h1 h2 hS hG hl)
theorem tm_ifnonnull {a : Nat} {off : Int} (tgt : Nat) (hC : tm_C x cc own ret) (hd : decode cc pc = .ok (.ifnonnull off, 3)) (ht : (pc : Int) + off = (tgt : Int)) (k : tm_V x G b n tgt L st) : tm_V x G b n pc L (.ref a :: st) :=
  fun H locs ls cells slots h1 h2 hS hG hl => lv_ifnonnull hC.1 hC.2.1 hd ht (k H locs ls cells slots h1 h2 hS hG hl)
theorem tm_ifnonnullN {off : Int} (hC : tm_C x cc own ret) (hd : decode cc pc = .ok (.ifnonnull off, 3)) (k : tm_V x G b n (pc + 3) L st) : tm_V x G b n pc L (.null :: st) :=
  fun H locs ls cells slots h1 h2 hS hG hl => lv_ifnonnullN hC.1 hC.2.1 hd (k H locs ls cells slots h1 h2 hS hG hl)
theorem tm_acmp_ne {u v : Nat} {off : Int} (tgt : Nat) (hC : tm_C x cc own ret) (hd : decode cc pc = .ok (.if_acmp .ne off, 3)) (ht : (pc : Int) + off = (tgt : Int)) (kt : u ≠ v → tm_V x G b n tgt L st) (kf : u = v → tm_V x G b n (pc + 3) L st) : tm_V x G b n pc L (.ref v :: .ref u :: st) :=
  fun H locs ls cells slots h1 h2 hS hG hl => lv_acmp_ne (rx := some u) (ry := some v) hC.1 hC.2.1 hd ht (fun z => kt (fun e => z (congrArg some e)) H locs ls cells slots h1 h2 hS hG hl) (fun z => kf (Option.some.inj z) H locs ls cells slots h1 h2 hS hG hl)
theorem tm_acmp_eq {u v : Nat} {off : Int} (tgt : Nat) (hC : tm_C x cc own ret) (hd : decode cc pc = .ok (.if_acmp .eq off, 3)) (ht : (pc : Int) + off = (tgt : Int)) (kt : u = v → tm_V x G b n tgt L st) (kf : u ≠ v → tm_V x G b n (pc + 3) L st) : tm_V x G b n pc L (.ref v :: .ref u :: st) :=
  fun H locs ls cells slots h1 h2 hS hG hl => lv_acmp_eq (rx := some u) (ry := some v) hC.1 hC.2.1 hd ht (fun z => kt (Option.some.inj z) H locs ls cells slots h1 h2 hS hG hl) (fun z => kf (fun e => z (congrArg some e)) H locs ls cells slots h1 h2 hS hG hl)
theorem tm_icmp_lt {u v : Int} {off : Int} (tgt : Nat) (hC : tm_C x cc own ret) (hd : decode cc pc = .ok (.if_icmp .lt off, 3)) (ht : (pc : Int) + off = (tgt : Int)) (h : (-2147483648 ≤ u ∧ u ≤ 2147483647) ∧ -2147483648 ≤ v ∧ v ≤ 2147483647) (kt : u < v → tm_V x G b n tgt L st) (kf : ¬ (u < v) → tm_V x G b n (pc + 3) L st) : tm_V x G b n pc L (.int (I v) :: .int (I u) :: st) :=
  fun H locs ls cells slots h1 h2 hS hG hl => lv_icmp_lt hC.1 hC.2.1 hd ht (fun z => kt ((I_lt h).mp z) H locs ls cells slots h1 h2 hS hG hl) (fun z => kf (fun e => z ((I_lt h).mpr e)) H locs ls cells slots h1 h2 hS hG hl)
theorem tm_icmp_le {u v : Int} {off : Int} (tgt : Nat) (hC : tm_C x cc own ret) (hd : decode cc pc = .ok (.if_icmp .le off, 3)) (ht : (pc : Int) + off = (tgt : Int)) (h : (-2147483648 ≤ u ∧ u ≤ 2147483647) ∧ -2147483648 ≤ v ∧ v ≤ 2147483647) (kt : u ≤ v → tm_V x G b n tgt L st) (kf : ¬ (u ≤ v) → tm_V x G b n (pc + 3) L st) : tm_V x G b n pc L (.int (I v) :: .int (I u) :: st) :=
  fun H locs ls cells slots h1 h2 hS hG hl => lv_icmp_le hC.1 hC.2.1 hd ht (fun z => kt ((I_le h).mp z) H locs ls cells slots h1 h2 hS hG hl) (fun z => kf (fun e => z ((I_le h).mpr e)) H locs ls cells slots h1 h2 hS hG hl)
theorem tm_icmp_eq {u v : Int} {off : Int} (tgt : Nat) (hC : tm_C x cc own ret) (hd : decode cc pc = .ok (.if_icmp .eq off, 3)) (ht : (pc : Int) + off = (tgt : Int)) (h : (-2147483648 ≤ u ∧ u ≤ 2147483647) ∧ -2147483648 ≤ v ∧ v ≤ 2147483647) (kt : u = v → tm_V x G b n tgt L st) (kf : ¬ (u = v) → tm_V x G b n (pc + 3) L st) : tm_V x G b n pc L (.int (I v) :: .int (I u) :: st) :=
  fun H locs ls cells slots h1 h2 hS hG hl => lv_icmp_eq hC.1 hC.2.1 hd ht (fun z => kt ((I_eq h).mp z) H locs ls cells slots h1 h2 hS hG hl) (fun z => kf (fun e => z ((I_eq h).mpr e)) H locs ls cells slots h1 h2 hS hG hl)
theorem tm_icmp_gt {u v : Int} {off : Int} (tgt : Nat) (hC : tm_C x cc own ret) (hd : decode cc pc = .ok (.if_icmp .gt off, 3)) (ht : (pc : Int) + off = (tgt : Int)) (h : (-2147483648 ≤ u ∧ u ≤ 2147483647) ∧ -2147483648 ≤ v ∧ v ≤ 2147483647) (kt : v < u → tm_V x G b n tgt L st) (kf : ¬ (v < u) → tm_V x G b n (pc + 3) L st) : tm_V x G b n pc L (.int (I v) :: .int (I u) :: st) :=
  fun H locs ls cells slots h1 h2 hS hG hl => lv_icmp_gt hC.1 hC.2.1 hd ht (fun z => kt ((I_lt ⟨h.2, h.1⟩).mp z) H locs ls cells slots h1 h2 hS hG hl) (fun z => kf (fun e => z ((I_lt ⟨h.2, h.1⟩).mpr e)) H locs ls cells slots h1 h2 hS hG hl)
theorem tm_icmp_ge {u v : Int} {off : Int} (tgt : Nat) (hC : tm_C x cc own ret) (hd : decode cc pc = .ok (.if_icmp .ge off, 3)) (ht : (pc : Int) + off = (tgt : Int)) (h : (-2147483648 ≤ u ∧ u ≤ 2147483647) ∧ -2147483648 ≤ v ∧ v ≤ 2147483647) (kt : v ≤ u → tm_V x G b n tgt L st) (kf : ¬ (v ≤ u) → tm_V x G b n (pc + 3) L st) : tm_V x G b n pc L (.int (I v) :: .int (I u) :: st) :=
  fun H locs ls cells slots h1 h2 hS hG hl => lv_icmp_ge hC.1 hC.2.1 hd ht (fun z => kt ((I_le ⟨h.2, h.1⟩).mp z) H locs ls cells slots h1 h2 hS hG hl) (fun z => kf (fun e => z ((I_le ⟨h.2, h.1⟩).mpr e)) H locs ls cells slots h1 h2 hS hG hl)
theorem tm_icmp_ne {u v : Int} {off : Int} (tgt : Nat) (hC : tm_C x cc own ret) (hd : decode cc pc = .ok (.if_icmp .ne off, 3)) (ht : (pc : Int) + off = (tgt : Int)) (h : (-2147483648 ≤ u ∧ u ≤ 2147483647) ∧ -2147483648 ≤ v ∧ v ≤ 2147483647) (kt : ¬ u = v → tm_V x G b n tgt L st) (kf : u = v → tm_V x G b n (pc + 3) L st) : tm_V x G b n pc L (.int (I v) :: .int (I u) :: st) :=
  fun H locs ls cells slots h1 h2 hS hG hl => lv_icmp_ne hC.1 hC.2.1 hd ht (fun z => kt (fun e => z ((I_eq h).mpr e)) H locs ls cells slots h1 h2 hS hG hl) (fun z => kf ((I_eq h).mp z) H locs ls cells slots h1 h2 hS hG hl)
theorem tm_if_lt {u : Int} {off : Int} (tgt : Nat) (hC : tm_C x cc own ret) (hd : decode cc pc = .ok (.ifCond .lt off, 3)) (ht : (pc : Int) + off = (tgt : Int)) (h : -2147483648 ≤ u ∧ u ≤ 2147483647) (kt : u < 0 → tm_V x G b n tgt L st) (kf : ¬ (u < 0) → tm_V x G b n (pc + 3) L st) : tm_V x G b n pc L (.int (I u) :: st) :=
  fun H locs ls cells slots h1 h2 hS hG hl => lv_if_lt hC.1 hC.2.1 hd ht (fun z => kt ((I_lt (b := 0) ⟨h, by omega⟩).mp z) H locs ls cells slots h1 h2 hS hG hl) (fun z => kf (fun e => z ((I_lt (b := 0) ⟨h, by omega⟩).mpr e)) H locs ls cells slots h1 h2 hS hG hl)
theorem tm_if_le {u : Int} {off : Int} (tgt : Nat) (hC : tm_C x cc own ret) (hd : decode cc pc = .ok (.ifCond .le off, 3)) (ht : (pc : Int) + off = (tgt : Int)) (h : -2147483648 ≤ u ∧ u ≤ 2147483647) (kt : u ≤ 0 → tm_V x G b n tgt L st) (kf : ¬ (u ≤ 0) → tm_V x G b n (pc + 3) L st) : tm_V x G b n pc L (.int (I u) :: st) :=
  fun H locs ls cells slots h1 h2 hS hG hl => lv_if_le hC.1 hC.2.1 hd ht (fun z => kt ((I_le (b := 0) ⟨h, by omega⟩).mp z) H locs ls cells slots h1 h2 hS hG hl) (fun z => kf (fun e => z ((I_le (b := 0) ⟨h, by omega⟩).mpr e)) H locs ls cells slots h1 h2 hS hG hl)
theorem tm_if_eq {u : Int} {off : Int} (tgt : Nat) (hC : tm_C x cc own ret) (hd : decode cc pc = .ok (.ifCond .eq off, 3)) (ht : (pc : Int) + off = (tgt : Int)) (h : -2147483648 ≤ u ∧ u ≤ 2147483647) (kt : u = 0 → tm_V x G b n tgt L st) (kf : ¬ (u = 0) → tm_V x G b n (pc + 3) L st) : tm_V x G b n pc L (.int (I u) :: st) :=
  fun H locs ls cells slots h1 h2 hS hG hl => lv_if_eq hC.1 hC.2.1 hd ht (fun z => kt ((I_eq (b := 0) ⟨h, by omega⟩).mp z) H locs ls cells slots h1 h2 hS hG hl) (fun z => kf (fun e => z ((I_eq (b := 0) ⟨h, by omega⟩).mpr e)) H locs ls cells slots h1 h2 hS hG hl)
theorem tm_if_gt {u : Int} {off : Int} (tgt : Nat) (hC : tm_C x cc own ret) (hd : decode cc pc = .ok (.ifCond .gt off, 3)) (ht : (pc : Int) + off = (tgt : Int)) (h : -2147483648 ≤ u ∧ u ≤ 2147483647) (kt : 0 < u → tm_V x G b n tgt L st) (kf : ¬ (0 < u) → tm_V x G b n (pc + 3) L st) : tm_V x G b n pc L (.int (I u) :: st) :=
  fun H locs ls cells slots h1 h2 hS hG hl => lv_if_gt hC.1 hC.2.1 hd ht (fun z => kt ((I_lt (a := 0) ⟨by omega, h⟩).mp z) H locs ls cells slots h1 h2 hS hG hl) (fun z => kf (fun e => z ((I_lt (a := 0) ⟨by omega, h⟩).mpr e)) H locs ls cells slots h1 h2 hS hG hl)
theorem tm_if_ge {u : Int} {off : Int} (tgt : Nat) (hC : tm_C x cc own ret) (hd : decode cc pc = .ok (.ifCond .ge off, 3)) (ht : (pc : Int) + off = (tgt : Int)) (h : -2147483648 ≤ u ∧ u ≤ 2147483647) (kt : 0 ≤ u → tm_V x G b n tgt L st) (kf : ¬ (0 ≤ u) → tm_V x G b n (pc + 3) L st) : tm_V x G b n pc L (.int (I u) :: st) :=
  fun H locs ls cells slots h1 h2 hS hG hl => lv_if_ge hC.1 hC.2.1 hd ht (fun z => kt ((I_le (a := 0) ⟨by omega, h⟩).mp z) H locs ls cells slots h1 h2 hS hG hl) (fun z => kf (fun e => z ((I_le (a := 0) ⟨by omega, h⟩).mpr e)) H locs ls cells slots h1 h2 hS hG hl)
theorem tm_if_ne {u : Int} {off : Int} (tgt : Nat) (hC : tm_C x cc own ret) (hd : decode cc pc = .ok (.ifCond .ne off, 3)) (ht : (pc : Int) + off = (tgt : Int)) (h : -2147483648 ≤ u ∧ u ≤ 2147483647) (kt : ¬ u = 0 → tm_V x G b n tgt L st) (kf : u = 0 → tm_V x G b n (pc + 3) L st) : tm_V x G b n pc L (.int (I u) :: st) :=
  fun H locs ls cells slots h1 h2 hS hG hl => lv_if_ne hC.1 hC.2.1 hd ht (fun z => kt (fun e => z ((I_eq (b := 0) ⟨h, by omega⟩).mpr e)) H locs ls cells slots h1 h2 hS hG hl) (fun z => kf ((I_eq (b := 0) ⟨h, by omega⟩).mp z) H locs ls cells slots h1 h2 hS hG hl)
/-- a truth value as the machine holds it -/
noncomputable def bi (P : Prop) : Int := @ite Int P (Classical.propDecidable P) 1 0
theorem bi_t {P : Prop} (h : P) : bi P = 1 := if_pos h
theorem bi_f {P : Prop} (h : ¬ P) : bi P = 0 := if_neg h
theorem bi_01 (P : Prop) : bi P = 0 ∨ bi P = 1 := by by_cases h : P; exact Or.inr (bi_t h); exact Or.inl (bi_f h)
theorem bi_rg (P : Prop) : 0 ≤ bi P ∧ bi P ≤ 1 := by rcases bi_01 P with h | h <;> omega
theorem bi_iff {P Q : Prop} (h : P ↔ Q) : bi P = bi Q := by rw [propext h]
theorem bi_0 {P : Prop} : bi P = 0 ↔ ¬ P := ⟨fun h q => by rw [bi_t q] at h; omega, bi_f⟩
theorem tm_ifb_eq {P : Prop} {off : Int} (tgt : Nat) (hC : tm_C x cc own ret) (hd : decode cc pc = .ok (.ifCond .eq off, 3)) (ht : (pc : Int) + off = (tgt : Int)) (kt : ¬ P → tm_V x G b n tgt L st) (kf : P → tm_V x G b n (pc + 3) L st) : tm_V x G b n pc L (.int (I (bi P)) :: st) :=
  tm_if_eq tgt hC hd ht (by have := bi_rg P; omega) (fun z => kt (bi_0.mp z)) (fun z => kf (Classical.byContradiction fun q => z (bi_f q)))
theorem tm_ifb_ne {P : Prop} {off : Int} (tgt : Nat) (hC : tm_C x cc own ret) (hd : decode cc pc = .ok (.ifCond .ne off, 3)) (ht : (pc : Int) + off = (tgt : Int)) (kt : P → tm_V x G b n tgt L st) (kf : ¬ P → tm_V x G b n (pc + 3) L st) : tm_V x G b n pc L (.int (I (bi P)) :: st) :=
  tm_if_ne tgt hC hd ht (by have := bi_rg P; omega) (fun z => kt (Classical.byContradiction fun q => z (bi_f q))) (fun z => kf (bi_0.mp z))
end TMV
