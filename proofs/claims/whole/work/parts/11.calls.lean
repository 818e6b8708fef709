/-! Contracts, their ends, and calls: over any kind of world (h Fz w H: the heap H holds the world w, apart from the frozen Fz). -/
abbrev tmM : Type := MethodName × ByteArray × Nat × Option FieldType
abbrev tmG : Type := Launch × va_G × (ClassId × ClassId × ClassId × ClassId) × Nat × Nat
abbrev tm_g (x : tmX) : tmG := (x.1.2.1, tm_D x, tm_T x, tm_e0 x, tm_mi x)
def tm_rm (d mc ms : Nat) : Room := { frames := d, cells := mc, slots := ms, locals := 64 * d }
def tm_qc {Wd : Type} (h : (Nat → Prop) → Wd → Heap → Prop) (Fz : Nat → Prop) (post : Option Value → Wd → Prop) : Array Value → State → Outcome → State → Prop := fun _ st o t => ∃ (v : Option Value) (w' : Wd), o = .returned v ∧ post v w' ∧ h Fz w' t.heap ∧ va_F (fun q => ¬ Fz q) st t
def tm_xc {Wd : Type} (h : (Nat → Prop) → Wd → Heap → Prop) (Fz : Nat → Prop) (xp : String → Wd → Prop) : String → State → State → Prop := fun E st t => ∃ (w' : Wd), xp E w' ∧ h Fz w' t.heap ∧ va_F (fun q => ¬ Fz q) st t
def tm_pc {Wd : Type} (γ : tmG) (h : (Nat → Prop) → Wd → Heap → Prop) (Fz : Nat → Prop) (w : Wd) (As : List Value) : Array Value → State → Prop := va_Pc As (fun U => tm_Et γ.2.1 γ.2.2.1 γ.2.2.2.2 U ∧ tm_Es γ.2.2.1 γ.2.2.2.1 Fz U U.heap ∧ h Fz w U.heap)
/-- a contract of a method that throws nothing -/
def tm_Con {Wd : Type} (γ : tmG) (h : (Nat → Prop) → Wd → Heap → Prop) (M : tmM) (d mc ms : Nat) (As : List Value) (w : Wd) (post : Option Value → Wd → Prop) : Prop :=
  ∀ Fz : Nat → Prop, Met γ.1 M.1 (.code M.1 M.2.1 M.2.2.1 M.2.2.2 :: ALL) (tm_rm d mc ms) (tm_pc γ h Fz w As) (tm_qc h Fz post) mc ms (fun q => ¬ Fz q)
/-- .. of one that may throw -/
def tm_ConX {Wd : Type} (γ : tmG) (h : (Nat → Prop) → Wd → Heap → Prop) (M : tmM) (d mc ms : Nat) (As : List Value) (w : Wd) (post : Option Value → Wd → Prop) (xp : String → Wd → Prop) : Prop :=
  ∀ Fz : Nat → Prop, vx_Met γ.1 M.1 (.code M.1 M.2.1 M.2.2.1 M.2.2.2 :: ALL) (tm_rm d mc ms) (tm_pc γ h Fz w As) (tm_qc h Fz post) (tm_xc h Fz xp) mc ms (fun q => ¬ Fz q)
abbrev tm_Q (x : tmX) : State → Prop := x.1.2.2.2.2.2.2.2.2.2.2
abbrev tm_be (x : tmX) : List Frame := x.1.2.2.2.2.2.2.2.1
def tm_Rt {Wd : Type} (x : tmX) (h : (Nat → Prop) → Wd → Heap → Prop) (post : Option Value → Wd → Prop) : Prop :=
  tm_Q x = MQ (tm_be x) (tm_qc h (tm_Fz x) post) (tm_as x) (tm_st x) (tm_R x).cells (tm_R x).slots (fun q => ¬ tm_Fz x q)
def tm_RtX {Wd : Type} (x : tmX) (h : (Nat → Prop) → Wd → Heap → Prop) (post : Option Value → Wd → Prop) (xp : String → Wd → Prop) : Prop :=
  tm_Q x = vx_MQ (tm_be x) (tm_qc h (tm_Fz x) post) (tm_xc h (tm_Fz x) xp) (tm_as x) (tm_st x) (tm_R x).cells (tm_R x).slots (fun q => ¬ tm_Fz x q)
/-- what a body of a contract begins with -/
def tm_B (x : tmX) (γ : tmG) (M : tmM) (d mc ms : Nat) : Prop := tm_g x = γ ∧ tm_nL x = M.2.2.1 ∧ tm_R x = tm_rm d mc ms ∧ tm_C x M.2.1 M.1.cls M.2.2.2 ∧ (tm_me x).name = M.1.name
theorem tm_blind {Wd : Type} {γ : tmG} {h : (Nat → Prop) → Wd → Heap → Prop} {Fz : Nat → Prop} {w : Wd} {As : List Value} : FrameBlind (tm_pc γ h Fz w As) := by
  intro a U g mk hp
  obtain ⟨h1, h2, h3, h4⟩ := hp
  refine ⟨h1, ?_, ?_, h4⟩
  · exact tm_Et.warm (s := U) (U := U.calling g mk a) (State.WarmedH.refl U) h2
  · exact tm_Es.moved (s := U) (U := U.calling g mk a) (State.WarmedH.refl U).alike h3

theorem tm_con {Wd : Type} {γ : tmG} {h : (Nat → Prop) → Wd → Heap → Prop} {M : tmM} {d mc ms : Nat} {As : List Value} {w : Wd} {post : Option Value → Wd → Prop} (hst : γ.1.stackTraces = false) (hy : plainName M.1.cls = true) (hn : (lg_sl As).length ≤ M.2.2.1)
    (body : ∀ x : tmX, tm_B x γ M d mc ms → tm_Rt x h post → tm_V x (h (tm_Fz x) w) mc ms 0 (lv_args 0 As) []) : tm_Con γ h M d mc ms As w post := by
  intro Fz
  refine Met.ofW (cc := M.2.1) (maxL := M.2.2.1) (ret := M.2.2.2) hy rfl ?_
  intro p e s m args below meth c s₁ B hml hv
  obtain ⟨rfl, hEt, hEs, hG⟩ := hv
  have hts := atoms_spec (ws := .code M.1 M.2.1 M.2.2.1 M.2.2.2 :: ALL) B.pre
  have hown : s.vm.findClass M.1.cls = some m.cls := findClass_of_methodNamed B.named
  obtain ⟨l, D, T, e0, mi⟩ := γ
  have hb := body ((p, l, e, tm_rm d mc ms, s, m, As.toArray, below, meth, c, MQ below (tm_qc h Fz post) As.toArray s mc ms (fun q => ¬ Fz q)), D, T, e0, mi, Fz, M.2.2.1)
    ⟨rfl, rfl, rfl, ⟨B.exec, B.bytes, hml, hown, fun w hw => hts w (List.mem_cons_of_mem _ hw), B.notSynchronized, B.returns, hst, hEt, hEs⟩, (name_of_methodNamed B.named B.method).1⟩ rfl
  rw [lg_entry_eq]
  exact hb s.heap [] _ 0 0 (by show 0 + mc ≤ mc; omega) (by show 0 + ms ≤ ms; omega) va_S.rf hG (lv_entry As hn)
theorem tm_conX {Wd : Type} {γ : tmG} {h : (Nat → Prop) → Wd → Heap → Prop} {M : tmM} {d mc ms : Nat} {As : List Value} {w : Wd} {post : Option Value → Wd → Prop} {xp : String → Wd → Prop} (hst : γ.1.stackTraces = false) (hy : plainName M.1.cls = true) (hn : (lg_sl As).length ≤ M.2.2.1)
    (body : ∀ x : tmX, tm_B x γ M d mc ms → tm_RtX x h post xp → (∀ z ∈ (tm_c x).exceptionTable.toList, False) → tm_V x (h (tm_Fz x) w) mc ms 0 (lv_args 0 As) []) : tm_ConX γ h M d mc ms As w post xp := by
  intro Fz
  refine vx_ofW (cc := M.2.1) (maxL := M.2.2.1) (ret := M.2.2.2) hy rfl ?_
  intro p e s m args below meth c s₁ B hml hnt hv
  obtain ⟨rfl, hEt, hEs, hG⟩ := hv
  have hts := atoms_spec (ws := .code M.1 M.2.1 M.2.2.1 M.2.2.2 :: ALL) B.pre
  have hown : s.vm.findClass M.1.cls = some m.cls := findClass_of_methodNamed B.named
  obtain ⟨l, D, T, e0, mi⟩ := γ
  have hb := body ((p, l, e, tm_rm d mc ms, s, m, As.toArray, below, meth, c, vx_MQ below (tm_qc h Fz post) (tm_xc h Fz xp) As.toArray s mc ms (fun q => ¬ Fz q)), D, T, e0, mi, Fz, M.2.2.1)
    ⟨rfl, rfl, rfl, ⟨B.exec, B.bytes, hml, hown, fun w hw => hts w (List.mem_cons_of_mem _ hw), B.notSynchronized, B.returns, hst, hEt, hEs⟩, (name_of_methodNamed B.named B.method).1⟩ rfl hnt
  rw [lg_entry_eq]
  exact hb s.heap [] _ 0 0 (by show 0 + mc ≤ mc; omega) (by show 0 + ms ≤ ms; omega) va_S.rf hG (lv_entry As hn)
section TMR
variable {x : tmX} {cc : ByteArray} {own : String} {ret : Option FieldType} {b n pc : Nat} {L : List (Nat × Value)} {st : List Value} {Wd : Type} {h : (Nat → Prop) → Wd → Heap → Prop} {w : Wd} {post : Option Value → Wd → Prop} {xp : String → Wd → Prop}
theorem tm_end {v : Option Value} {vs : List Value} (hR : tm_Rt x h post) (hp : post v w)
    (k : ∀ (H : Heap) (locs : List Loc) (ls : Array Slot) (cells slots : Nat), (∀ t : State, t.heap = H → (tm_st x).WarmedH t.vm → tm_qc h (tm_Fz x) post (tm_as x) (tm_st x) (.returned v) t) → (∀ q ∈ locs, ¬ tm_Fz x q.base) → W x.1.1 x.1.2.1 x.1.2.2.1 (tm_R x) (tm_st x) (tm_m x) (tm_as x) (tm_be x) (tm_me x) (tm_c x) H locs cells slots (MQ (tm_be x) (tm_qc h (tm_Fz x) post) (tm_as x) (tm_st x) cells slots (fun q => ¬ tm_Fz x q)) (F0 (tm_m x) pc ls vs)) : tm_V x (h (tm_Fz x) w) b n pc L vs := by
  intro H locs ls cells slots h1 h2 hS hG hl
  show W _ _ _ _ _ _ _ _ _ _ H locs cells slots (tm_Q x) _
  rw [show tm_Q x = _ from hR]
  refine W.widen (k := (tm_R x).cells) (n := (tm_R x).slots) (by omega) (by omega) ?_
  exact k H locs ls _ _ (fun t ht hW => ⟨v, w, rfl, hp, by rw [ht]; exact hG, hS.F ht⟩) hS.2.2
theorem tm_endX {v : Option Value} {vs : List Value} (hR : tm_RtX x h post xp) (hp : post v w)
    (k : ∀ (H : Heap) (locs : List Loc) (ls : Array Slot) (cells slots : Nat), (∀ t : State, t.heap = H → (tm_st x).WarmedH t.vm → tm_qc h (tm_Fz x) post (tm_as x) (tm_st x) (.returned v) t) → (∀ q ∈ locs, ¬ tm_Fz x q.base) → W x.1.1 x.1.2.1 x.1.2.2.1 (tm_R x) (tm_st x) (tm_m x) (tm_as x) (tm_be x) (tm_me x) (tm_c x) H locs cells slots (MQ (tm_be x) (tm_qc h (tm_Fz x) post) (tm_as x) (tm_st x) cells slots (fun q => ¬ tm_Fz x q)) (F0 (tm_m x) pc ls vs)) : tm_V x (h (tm_Fz x) w) b n pc L vs := by
  intro H locs ls cells slots h1 h2 hS hG hl
  show W _ _ _ _ _ _ _ _ _ _ H locs cells slots (tm_Q x) _
  rw [show tm_Q x = _ from hR]
  refine W.widen (k := (tm_R x).cells) (n := (tm_R x).slots) (by omega) (by omega) ?_
  exact vx_ret (k H locs ls _ _ (fun t ht hW => ⟨v, w, rfl, hp, by rw [ht]; exact hG, hS.F ht⟩) hS.2.2)
theorem tm_iret {v : Int32} (hC : tm_C x cc own (some .int)) (hR : tm_Rt x h post) (hd : decode cc pc = .ok (.ireturn, 1)) (hp : post (some (.int v)) w) : tm_V x (h (tm_Fz x) w) b n pc L [.int v] :=
  tm_end hR hp (fun H locs ls cells slots hq hf => W.iret hC.1 hC.2.1 hC.2.2.2.2.2.2.1 hq hf hd hC.2.2.2.2.2.1)
theorem tm_zret {v : Int} (hC : tm_C x cc own (some .boolean)) (hR : tm_Rt x h post) (hd : decode cc pc = .ok (.ireturn, 1)) (hv : v = 0 ∨ v = 1) (hp : post (some (.int (I v))) w) : tm_V x (h (tm_Fz x) w) b n pc L [.int (I v)] :=
  tm_end hR hp (fun H locs ls cells slots hq hf => W.zret hC.1 hC.2.1 hC.2.2.2.2.2.2.1 (by rcases hv with rfl | rfl <;> rfl) hq hf hd hC.2.2.2.2.2.1)
theorem tm_lret {v : Int64} (hC : tm_C x cc own (some .long)) (hR : tm_Rt x h post) (hd : decode cc pc = .ok (.lreturn, 1)) (hp : post (some (.long v)) w) : tm_V x (h (tm_Fz x) w) b n pc L [.long v] :=
  tm_end hR hp (fun H locs ls cells slots hq hf => W.lret hC.1 hC.2.1 hC.2.2.2.2.2.2.1 hq hf hd hC.2.2.2.2.2.1)
theorem tm_dret {v : UInt64} (hC : tm_C x cc own (some .double)) (hR : tm_Rt x h post) (hd : decode cc pc = .ok (.dreturn, 1)) (hp : post (some (.double v)) w) : tm_V x (h (tm_Fz x) w) b n pc L [.double v] :=
  tm_end hR hp (fun H locs ls cells slots hq hf => W.dret hC.1 hC.2.1 hC.2.2.2.2.2.2.1 hq hf hd hC.2.2.2.2.2.1)
theorem tm_vret (hC : tm_C x cc own none) (hR : tm_Rt x h post) (hd : decode cc pc = .ok (.return_, 1)) (hp : post none w) : tm_V x (h (tm_Fz x) w) b n pc L [] :=
  tm_end hR hp (fun H locs ls cells slots hq hf => W.vret hC.1 hC.2.1 hC.2.2.2.2.2.2.1 hq hf hd hC.2.2.2.2.2.1)
theorem tm_aret {rt : FieldType} {a : Nat} (hC : tm_C x cc own (some rt)) (hR : tm_Rt x h post) (hrt : (∃ n, rt = .object n) ∨ ∃ t, rt = .array t) (hd : decode cc pc = .ok (.areturn, 1)) (hp : post (some (.ref a)) w) : tm_V x (h (tm_Fz x) w) b n pc L [.ref a] :=
  tm_end hR hp (fun H locs ls cells slots hq hf => W.aret hC.1 hC.2.1 hC.2.2.2.2.2.2.1 hrt (Or.inr ⟨a, rfl⟩) hq hf hd hC.2.2.2.2.2.1)
theorem tm_aretN {rt : FieldType} (hC : tm_C x cc own (some rt)) (hR : tm_Rt x h post) (hrt : (∃ n, rt = .object n) ∨ ∃ t, rt = .array t) (hd : decode cc pc = .ok (.areturn, 1)) (hp : post (some .null) w) : tm_V x (h (tm_Fz x) w) b n pc L [.null] :=
  tm_end hR hp (fun H locs ls cells slots hq hf => W.aret hC.1 hC.2.1 hC.2.2.2.2.2.2.1 hrt (Or.inl rfl) hq hf hd hC.2.2.2.2.2.1)
theorem tm_iretX {v : Int32} (hC : tm_C x cc own (some .int)) (hR : tm_RtX x h post xp) (hd : decode cc pc = .ok (.ireturn, 1)) (hp : post (some (.int v)) w) : tm_V x (h (tm_Fz x) w) b n pc L [.int v] :=
  tm_endX hR hp (fun H locs ls cells slots hq hf => W.iret hC.1 hC.2.1 hC.2.2.2.2.2.2.1 hq hf hd hC.2.2.2.2.2.1)
theorem tm_zretX {v : Int} (hC : tm_C x cc own (some .boolean)) (hR : tm_RtX x h post xp) (hd : decode cc pc = .ok (.ireturn, 1)) (hv : v = 0 ∨ v = 1) (hp : post (some (.int (I v))) w) : tm_V x (h (tm_Fz x) w) b n pc L [.int (I v)] :=
  tm_endX hR hp (fun H locs ls cells slots hq hf => W.zret hC.1 hC.2.1 hC.2.2.2.2.2.2.1 (by rcases hv with rfl | rfl <;> rfl) hq hf hd hC.2.2.2.2.2.1)
theorem tm_lretX {v : Int64} (hC : tm_C x cc own (some .long)) (hR : tm_RtX x h post xp) (hd : decode cc pc = .ok (.lreturn, 1)) (hp : post (some (.long v)) w) : tm_V x (h (tm_Fz x) w) b n pc L [.long v] :=
  tm_endX hR hp (fun H locs ls cells slots hq hf => W.lret hC.1 hC.2.1 hC.2.2.2.2.2.2.1 hq hf hd hC.2.2.2.2.2.1)
theorem tm_dretX {v : UInt64} (hC : tm_C x cc own (some .double)) (hR : tm_RtX x h post xp) (hd : decode cc pc = .ok (.dreturn, 1)) (hp : post (some (.double v)) w) : tm_V x (h (tm_Fz x) w) b n pc L [.double v] :=
  tm_endX hR hp (fun H locs ls cells slots hq hf => W.dret hC.1 hC.2.1 hC.2.2.2.2.2.2.1 hq hf hd hC.2.2.2.2.2.1)
theorem tm_vretX (hC : tm_C x cc own none) (hR : tm_RtX x h post xp) (hd : decode cc pc = .ok (.return_, 1)) (hp : post none w) : tm_V x (h (tm_Fz x) w) b n pc L [] :=
  tm_endX hR hp (fun H locs ls cells slots hq hf => W.vret hC.1 hC.2.1 hC.2.2.2.2.2.2.1 hq hf hd hC.2.2.2.2.2.1)
theorem tm_aretX {rt : FieldType} {a : Nat} (hC : tm_C x cc own (some rt)) (hR : tm_RtX x h post xp) (hrt : (∃ n, rt = .object n) ∨ ∃ t, rt = .array t) (hd : decode cc pc = .ok (.areturn, 1)) (hp : post (some (.ref a)) w) : tm_V x (h (tm_Fz x) w) b n pc L [.ref a] :=
  tm_endX hR hp (fun H locs ls cells slots hq hf => W.aret hC.1 hC.2.1 hC.2.2.2.2.2.2.1 hrt (Or.inr ⟨a, rfl⟩) hq hf hd hC.2.2.2.2.2.1)
theorem tm_aretNX {rt : FieldType} (hC : tm_C x cc own (some rt)) (hR : tm_RtX x h post xp) (hrt : (∃ n, rt = .object n) ∨ ∃ t, rt = .array t) (hd : decode cc pc = .ok (.areturn, 1)) (hp : post (some .null) w) : tm_V x (h (tm_Fz x) w) b n pc L [.null] :=
  tm_endX hR hp (fun H locs ls cells slots hq hf => W.aret hC.1 hC.2.1 hC.2.2.2.2.2.2.1 hrt (Or.inl rfl) hq hf hd hC.2.2.2.2.2.1)
/-- behind a call -/
theorem tm_run {mc ms : Nat} {a : Array Value} {rest st0 : List Value}
    (hr : ∀ (H : Heap) (locs : List Loc) (ls : Array Slot) (cells slots : Nat), cells + mc ≤ (tm_R x).cells → slots + ms ≤ (tm_R x).slots → va_S (fun q => ¬ tm_Fz x q) (tm_st x).heap H locs → h (tm_Fz x) w H → ls.size = tm_nL x → va_Run x.1.1 x.1.2.1 x.1.2.2.1 (tm_R x) (tm_st x) (tm_m x) (tm_as x) (tm_be x) (tm_me x) (tm_c x) H locs cells slots mc ms (F0 (tm_m x) pc ls st0) rest (tm_qc h (tm_Fz x) post a) (fun q => ¬ tm_Fz x q))
    (k : ∀ (v : Option Value) (w' : Wd), post v w' → tm_V x (h (tm_Fz x) w') b n (pc + 3) L (v.toList ++ rest)) : tm_V x (h (tm_Fz x) w) (mc + b) (ms + n) pc L st0 := by
  intro H locs ls cells slots h1 h2 hS hG hl T hT X
  obtain ⟨v, st₀, t, T', Lc, h0, X', hLc, e1, e2, ⟨v', w', hv, hp, hh, hF⟩, hgo⟩ := hr H locs ls cells slots (by omega) (by omega) hS hG hl.1 T hT X
  cases hv
  obtain ⟨hz, hk, hS'⟩ := vx_keep h0 e1 hS (fun q _ hq => hq) (fun q hq => hq) hLc hF
  obtain ⟨t2, a1, b1⟩ := k v w' hp T'.heap (locs ++ Lc) ls (cells + mc) (slots + ms) (by omega) (by omega) hS' (by rw [e1]; exact hh) hl T' rfl X'
  exact ⟨t2, hgo t2 a1, b1⟩
/-- what the tables say of a call -/
def tm_kv (own : String) (idx : Nat) (M : tmM) (n : Nat) : Prop := Cond.methodLink own idx M.1 ∈ ALL ∧ Cond.instanceMethod M.1 ∈ ALL ∧ Cond.selects M.1.cls M.1 M.1 ∈ ALL ∧ Cond.initialized M.1.cls ∈ ALL ∧ Cond.code M.1 M.2.1 M.2.2.1 M.2.2.2 ∈ ALL ∧ (M.1.cls ≠ "java/lang/invoke/MethodHandle" ∧ M.1.cls ≠ "java/lang/invoke/VarHandle") ∧ (parseMethodDescriptor M.1.desc).map (fun d => d.parameters.length) = some n
def tm_kn (own : String) (idx : Nat) (M : tmM) (n : Nat) : Prop := (∃ host, Cond.methodLinkNest own idx M.1 host ∈ NW) ∧ Cond.instanceMethod M.1 ∈ ALL ∧ Cond.selects M.1.cls M.1 M.1 ∈ ALL ∧ Cond.initialized M.1.cls ∈ ALL ∧ Cond.code M.1 M.2.1 M.2.2.1 M.2.2.2 ∈ ALL ∧ (M.1.cls ≠ "java/lang/invoke/MethodHandle" ∧ M.1.cls ≠ "java/lang/invoke/VarHandle") ∧ (parseMethodDescriptor M.1.desc).map (fun d => d.parameters.length) = some n
def tm_ks (own : String) (idx : Nat) (M : tmM) (n : Nat) : Prop := Cond.methodLink own idx M.1 ∈ ALL ∧ Cond.static M.1 ∈ ALL ∧ True ∧ Cond.initialized M.1.cls ∈ ALL ∧ Cond.code M.1 M.2.1 M.2.2.1 M.2.2.2 ∈ ALL ∧ (M.1.cls ≠ "java/lang/invoke/MethodHandle" ∧ M.1.cls ≠ "java/lang/invoke/VarHandle") ∧ (parseMethodDescriptor M.1.desc).map (fun d => d.parameters.length) = some n
def tm_ki (own : String) (idx : Nat) (M : tmM) (n : Nat) : Prop := Cond.methodLink own idx M.1 ∈ ALL ∧ Cond.instanceMethod M.1 ∈ ALL ∧ (M.1.name = "<init>" ∧ M.2.2.2 = none) ∧ Cond.initialized M.1.cls ∈ ALL ∧ Cond.code M.1 M.2.1 M.2.2.1 M.2.2.2 ∈ ALL ∧ (M.1.cls ≠ "java/lang/invoke/MethodHandle" ∧ M.1.cls ≠ "java/lang/invoke/VarHandle") ∧ (parseMethodDescriptor M.1.desc).map (fun d => d.parameters.length) = some n
def tm_kin (own : String) (idx : Nat) (M : tmM) (n : Nat) : Prop := (∃ host, Cond.methodLinkNest own idx M.1 host ∈ NW) ∧ Cond.instanceMethod M.1 ∈ ALL ∧ (M.1.name = "<init>" ∧ M.2.2.2 = none) ∧ Cond.initialized M.1.cls ∈ ALL ∧ Cond.code M.1 M.2.1 M.2.2.1 M.2.2.2 ∈ ALL ∧ (M.1.cls ≠ "java/lang/invoke/MethodHandle" ∧ M.1.cls ≠ "java/lang/invoke/VarHandle") ∧ (parseMethodDescriptor M.1.desc).map (fun d => d.parameters.length) = some n
theorem tm_good {w : Cond} {ws : List Cond} {s : State} {args : Array Value} (hts : ∀ w ∈ ALL, w.before args s = true) (hc : w ∈ ALL) (hw : ∀ z ∈ ws, z = w ∨ z ∈ ALL) : ∀ z ∈ ws, ∀ (a' : Array Value) (U : State), s.WarmedH U.vm → z.before a' U = true := by
  intro z hz a' U hW
  have hm : z ∈ ALL := by rcases hw z hz with h | h; rw [h]; exact hc; exact h
  exact word_at hW (good_of_word (List.mem_filter.mp hm).2) (hts z hm)
theorem tm_callB {idx nn mc ms d : Nat} {M : tmM} {y2 : Prop} (hC : tm_C x cc own ret) (hk : Cond.methodLink own idx M.1 ∈ ALL ∧ y2 ∧ Cond.initialized M.1.cls ∈ ALL ∧ Cond.code M.1 M.2.1 M.2.2.1 M.2.2.2 ∈ ALL ∧ (M.1.cls ≠ "java/lang/invoke/MethodHandle" ∧ M.1.cls ≠ "java/lang/invoke/VarHandle") ∧ (parseMethodDescriptor M.1.desc).map (fun d => d.parameters.length) = some nn) (hd : d + 1 ≤ (tm_R x).frames ∧ 19 + M.2.2.1 + 64 * d ≤ (tm_R x).locals) :
    CallB (tm_R x) (tm_st x) (tm_as x) own idx M.1 M.2.1 M.2.2.1 M.2.2.2 (.code M.1 M.2.1 M.2.2.1 M.2.2.2 :: ALL) (tm_rm d mc ms) mc ms nn := by
  obtain ⟨k1, k2, k3, k4, k5, k6⟩ := hk
  refine ⟨rfl, rfl, hd.1, by show 8 + (M.2.2.1 + 11) + 64 * d ≤ _; omega, tm_good hC.2.2.2.2.1 k4 (fun z hz => List.mem_cons.mp hz), List.mem_cons_self, hC.2.2.2.2.1 _ k4, hC.2.2.2.2.1 _ k3, k5, fun sig hs => ?_, hC.2.2.2.2.1 _ k1⟩
  rw [hs] at k6
  exact (Option.some.inj k6).symm
theorem tm_callN {idx nn mc ms d : Nat} {M : tmM} {y2 : Prop} {host : String} (hC : tm_C x cc own ret) (hk : Cond.methodLinkNest own idx M.1 host ∈ NW ∧ y2 ∧ Cond.initialized M.1.cls ∈ ALL ∧ Cond.code M.1 M.2.1 M.2.2.1 M.2.2.2 ∈ ALL ∧ (M.1.cls ≠ "java/lang/invoke/MethodHandle" ∧ M.1.cls ≠ "java/lang/invoke/VarHandle") ∧ (parseMethodDescriptor M.1.desc).map (fun d => d.parameters.length) = some nn) (hd : d + 1 ≤ (tm_R x).frames ∧ 19 + M.2.2.1 + 64 * d ≤ (tm_R x).locals) :
    va_CN (tm_R x) (tm_st x) (tm_as x) own idx M.1 host M.2.1 M.2.2.1 M.2.2.2 (.code M.1 M.2.1 M.2.2.1 M.2.2.2 :: ALL) (tm_rm d mc ms) mc ms nn := by
  obtain ⟨k1, k2, k3, k4, k5, k6⟩ := hk
  refine ⟨⟨rfl, rfl, hd.1, by show 8 + (M.2.2.1 + 11) + 64 * d ≤ _; omega, tm_good hC.2.2.2.2.1 k4 (fun z hz => List.mem_cons.mp hz), List.mem_cons_self⟩, hC.2.2.2.2.1 _ k4, hC.2.2.2.2.1 _ k3, k5, fun sig hs => ?_, va_Nw.use rfl (tm_CN hC k1)⟩
  rw [hs] at k6
  exact (Option.some.inj k6).symm
theorem tm_pre {As : List Value} {H : Heap} (hC : tm_C x cc own ret) {locs : List Loc} (hS : va_S (fun q => ¬ tm_Fz x q) (tm_st x).heap H locs) (hG : h (tm_Fz x) w H) : ∀ U : State, U.heap = H → (tm_st x).WarmedH U.vm → tm_pc (tm_g x) h (tm_Fz x) w As As.toArray U :=
  fun U hU hW => ⟨rfl, hC.2.2.2.2.2.2.2.2.1.warm hW, by rw [hU]; exact (tm_CE hC hS).moved hW.alike, by rw [hU]; exact hG⟩
theorem tm_fix (hC : tm_C x cc own ret) : CallFix x.1.1 (tm_m x) (tm_c x) cc (tm_nL x) (tm_st x) (tm_as x) ALL own := ⟨hC.1, hC.2.1, hC.2.2.1, hC.2.2.2.1, hC.2.2.2.2.1⟩
theorem tm_callV {idx nn d mc ms : Nat} {M : tmM} {a : Nat} {As rest st0 : List Value} (hC : tm_C x cc own ret) (hM : tm_Con (tm_g x) h M d mc ms (.ref a :: As) w post) (hk : tm_kv own idx M nn) (hd : d + 1 ≤ (tm_R x).frames ∧ 19 + M.2.2.1 + 64 * d ≤ (tm_R x).locals) (hn : As.length = nn) (hrec : ∀ H, h (tm_Fz x) w H → ∃ cell : Cell, H[a]? = some cell ∧ cell.vm.isStatics = false ∧ (tm_st x).vm.findClass M.1.cls = some cell.cls) (hs0 : st0 = As.reverse ++ .ref a :: rest) (hw8 : (rest.map fun v => v.category).sum ≤ 8) (hdg : decode cc pc = .ok (.invokevirtual idx, 3))
    (k : ∀ (v : Option Value) (w' : Wd), post v w' → tm_V x (h (tm_Fz x) w') b n (pc + 3) L (v.toList ++ rest)) : tm_V x (h (tm_Fz x) w) (mc + b) (ms + n) pc L st0 := by
  have cw := And.intro (tm_callB (mc := mc) (ms := ms) (d := d) (y2 := True) hC ⟨hk.1, trivial, hk.2.2.2⟩ hd) (And.intro (hC.2.2.2.2.1 _ hk.2.1) (hC.2.2.2.2.1 _ hk.2.2.1))
  refine tm_run (a := (.ref a :: As).toArray) (fun H locs ls cells slots h1 h2 hS hG hsz => ?_) k
  exact va_runV (tm_fix hC) (hM (tm_Fz x)) cw ⟨tm_blind, hrec H hG, fun U hU hW => tm_pre hC hS hG U hU hW⟩ rfl hn hsz hs0 (lv_room hw8) hdg ⟨h1, h2⟩
theorem tm_callVN {idx nn d mc ms : Nat} {M : tmM} {a : Nat} {As rest st0 : List Value} (hC : tm_C x cc own ret) (hM : tm_Con (tm_g x) h M d mc ms (.ref a :: As) w post) (hk : tm_kn own idx M nn) (hd : d + 1 ≤ (tm_R x).frames ∧ 19 + M.2.2.1 + 64 * d ≤ (tm_R x).locals) (hn : As.length = nn) (hrec : ∀ H, h (tm_Fz x) w H → ∃ cell : Cell, H[a]? = some cell ∧ cell.vm.isStatics = false ∧ (tm_st x).vm.findClass M.1.cls = some cell.cls) (hs0 : st0 = As.reverse ++ .ref a :: rest) (hw8 : (rest.map fun v => v.category).sum ≤ 8) (hdg : decode cc pc = .ok (.invokevirtual idx, 3))
    (k : ∀ (v : Option Value) (w' : Wd), post v w' → tm_V x (h (tm_Fz x) w') b n (pc + 3) L (v.toList ++ rest)) : tm_V x (h (tm_Fz x) w) (mc + b) (ms + n) pc L st0 := by
  obtain ⟨host, hk1⟩ := hk.1
  have cw := And.intro (tm_callN (mc := mc) (ms := ms) (d := d) (y2 := True) hC ⟨hk1, trivial, hk.2.2.2⟩ hd) (And.intro (hC.2.2.2.2.1 _ hk.2.1) (hC.2.2.2.2.1 _ hk.2.2.1))
  refine tm_run (a := (.ref a :: As).toArray) (fun H locs ls cells slots h1 h2 hS hG hsz => ?_) k
  exact va_runVN (tm_fix hC) (hM (tm_Fz x)) cw ⟨tm_blind, hrec H hG, fun U hU hW => tm_pre hC hS hG U hU hW⟩ rfl hn hsz hs0 (lv_room hw8) hdg ⟨h1, h2⟩
theorem tm_callS {idx nn d mc ms : Nat} {M : tmM} {As rest st0 : List Value} (hC : tm_C x cc own ret) (hM : tm_Con (tm_g x) h M d mc ms (As) w post) (hk : tm_ks own idx M nn) (hd : d + 1 ≤ (tm_R x).frames ∧ 19 + M.2.2.1 + 64 * d ≤ (tm_R x).locals) (hn : As.length = nn) (hs0 : st0 = As.reverse ++ rest) (hw8 : (rest.map fun v => v.category).sum ≤ 8) (hdg : decode cc pc = .ok (.invokestatic idx, 3))
    (k : ∀ (v : Option Value) (w' : Wd), post v w' → tm_V x (h (tm_Fz x) w') b n (pc + 3) L (v.toList ++ rest)) : tm_V x (h (tm_Fz x) w) (mc + b) (ms + n) pc L st0 := by
  have cw := And.intro (tm_callB (mc := mc) (ms := ms) (d := d) (y2 := True) hC ⟨hk.1, trivial, hk.2.2.2⟩ hd) (hC.2.2.2.2.1 _ hk.2.1)
  refine tm_run (a := (As).toArray) (fun H locs ls cells slots h1 h2 hS hG hsz => ?_) k
  exact va_runS (tm_fix hC) (hM (tm_Fz x)) cw ⟨tm_blind, fun U hU hW => tm_pre hC hS hG U hU hW⟩ rfl hn hsz hs0 (lv_room hw8) hdg ⟨h1, h2⟩
theorem tm_callI {idx nn d mc ms : Nat} {M : tmM} {a : Nat} {As rest st0 : List Value} (hC : tm_C x cc own ret) (hM : tm_Con (tm_g x) h M d mc ms (.ref a :: As) w post) (hk : tm_ki own idx M nn) (hd : d + 1 ≤ (tm_R x).frames ∧ 19 + M.2.2.1 + 64 * d ≤ (tm_R x).locals) (hn : As.length = nn) (hs0 : st0 = As.reverse ++ .ref a :: rest) (hw8 : (rest.map fun v => v.category).sum ≤ 8) (hdg : decode cc pc = .ok (.invokespecial idx, 3))
    (k : ∀ (v : Option Value) (w' : Wd), post v w' → tm_V x (h (tm_Fz x) w') b n (pc + 3) L (v.toList ++ rest)) : tm_V x (h (tm_Fz x) w) (mc + b) (ms + n) pc L st0 := by
  obtain ⟨y, bytes, maxL, rt⟩ := M
  obtain ⟨k1, k2, ⟨k3, k4⟩, k5⟩ := hk
  dsimp only at k4
  subst k4
  have cw := And.intro (tm_callB (mc := mc) (ms := ms) (d := d) (y2 := True) (M := (y, bytes, maxL, none)) hC ⟨k1, trivial, k5⟩ hd) (And.intro k3 (hC.2.2.2.2.1 _ k2))
  refine tm_run (a := (.ref a :: As).toArray) (fun H locs ls cells slots h1 h2 hS hG hsz => ?_) k
  exact va_runI (tm_fix hC) (hM (tm_Fz x)) cw ⟨tm_blind, fun U hU hW => tm_pre hC hS hG U hU hW⟩ rfl hn hsz hs0 (lv_room hw8) hdg ⟨h1, h2⟩
theorem tm_callIN {idx nn d mc ms : Nat} {M : tmM} {a : Nat} {As rest st0 : List Value} (hC : tm_C x cc own ret) (hM : tm_Con (tm_g x) h M d mc ms (.ref a :: As) w post) (hk : tm_kin own idx M nn) (hd : d + 1 ≤ (tm_R x).frames ∧ 19 + M.2.2.1 + 64 * d ≤ (tm_R x).locals) (hn : As.length = nn) (hs0 : st0 = As.reverse ++ .ref a :: rest) (hw8 : (rest.map fun v => v.category).sum ≤ 8) (hdg : decode cc pc = .ok (.invokespecial idx, 3))
    (k : ∀ (v : Option Value) (w' : Wd), post v w' → tm_V x (h (tm_Fz x) w') b n (pc + 3) L (v.toList ++ rest)) : tm_V x (h (tm_Fz x) w) (mc + b) (ms + n) pc L st0 := by
  obtain ⟨y, bytes, maxL, rt⟩ := M
  obtain ⟨⟨host, k1⟩, k2, ⟨k3, k4⟩, k5⟩ := hk
  dsimp only at k4
  subst k4
  have cw := And.intro (tm_callN (mc := mc) (ms := ms) (d := d) (y2 := True) (M := (y, bytes, maxL, none)) hC ⟨k1, trivial, k5⟩ hd) (And.intro k3 (hC.2.2.2.2.1 _ k2))
  refine tm_run (a := (.ref a :: As).toArray) (fun H locs ls cells slots h1 h2 hS hG hsz => ?_) k
  exact va_runIN (tm_fix hC) (hM (tm_Fz x)) cw ⟨tm_blind, fun U hU hW => tm_pre hC hS hG U hU hW⟩ rfl hn hsz hs0 (lv_room hw8) hdg ⟨h1, h2⟩
end TMR
