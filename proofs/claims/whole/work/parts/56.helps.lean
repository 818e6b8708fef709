/-! Methods with an exception table: their contracts, calls that are caught, calls of them. -/
def tm_ncs : List (String × String) := [("java/lang/IllegalArgumentException", "java/lang/IndexOutOfBoundsException"), ("java/lang/IllegalStateException", "java/lang/IndexOutOfBoundsException"), ("java/lang/IllegalStateException", "java/lang/IllegalArgumentException")]
def tm_Nc (U : State) : Prop := ∀ z ∈ tm_ncs, va_Nc z.1 z.2 U
theorem tm_Nc.moved {u U : State} (hvm : u.vm.Alike U.vm) (h : tm_Nc u) : tm_Nc U := fun z hz => va_Nc.moved hvm (h z hz)
def tm_pcN {Wd : Type} (γ : tmG) (h : (Nat → Prop) → Wd → Heap → Prop) (Fz : Nat → Prop) (w : Wd) (As : List Value) : Array Value → State → Prop := va_Pc As (fun U => tm_Nc U ∧ tm_Et γ.2.1 γ.2.2.1 γ.2.2.2.2 U ∧ tm_Es γ.2.2.1 γ.2.2.2.1 Fz U U.heap ∧ h Fz w U.heap)
def tm_ConH {Wd : Type} (γ : tmG) (h : (Nat → Prop) → Wd → Heap → Prop) (M : tmM) (hh : List (Nat × Nat × Nat × Nat)) (d mc ms : Nat) (As : List Value) (w : Wd) (post : Option Value → Wd → Prop) : Prop :=
  ∀ Fz : Nat → Prop, Met γ.1 M.1 (.codeWith M.1 M.2.1 M.2.2.1 M.2.2.2 hh :: ALL) (tm_rm d mc ms) (tm_pcN γ h Fz w As) (tm_qc h Fz post) mc ms (fun q => ¬ Fz q)
theorem tm_ofWH {l : Launch} {y : MethodName} {ws ws' : List Cond} {rm : Room} {Pc : Array Value → State → Prop} {Qc : Array Value → State → Outcome → State → Prop} {mc ms : Nat} {free : Addr → Prop} {cc : ByteArray} {maxL : Nat} {ret : Option FieldType} {hh : List (Nat × Nat × Nat × Nat)}
    (hy : plainName y.cls = true) (hw : ws = Cond.codeWith y cc maxL ret hh :: ws')
    (body : ∀ p e s m args below meth c s₁, BodyLoose p l y (headSpec ws rm) cc maxL ret e s m args below meth c s₁ → c.maxLocals = maxL → Pc args s →
      W p l e (headSpec ws rm).room s m args below meth c s.heap [] 0 0 (MQ below Qc args s mc ms free) (entryFrame m args maxL)) : Met l y ws rm Pc Qc mc ms free := by
  refine MetFree.of_bodyS (code := cc) (maxLocals := maxL) (ret := ret) hy ?_ ?_
  · intro args s m h hn
    obtain ⟨m9, meth, c, hn9, h1, h2, h3, h4, -, h5, h6, -⟩ := Cond.codeWith_spec (atoms_spec (ws := ws) h _ (by rw [hw]; exact List.mem_cons_self))
    cases hn.symm.trans hn9
    exact ⟨meth, c, h1, h2, h3, h4, h5, h6⟩
  · intro p e s m args below meth c s₁ B hml hP _
    have hh0 : s₁.heap = s.heap := by rw [B.state]; rfl
    obtain ⟨t, a1, o, b1, b2, b3⟩ := body p e s m args below meth c s₁ B hml hP s₁ hh0 (Stand.of_body B)
    exact ⟨t, o, a1, b1, b2, b3⟩
theorem tm_conH {Wd : Type} {γ : tmG} {h : (Nat → Prop) → Wd → Heap → Prop} {M : tmM} {hh : List (Nat × Nat × Nat × Nat)} {d mc ms : Nat} {As : List Value} {w : Wd} {post : Option Value → Wd → Prop} (hst : γ.1.stackTraces = false) (hy : plainName M.1.cls = true) (hn : (lg_sl As).length ≤ M.2.2.1)
    (body : ∀ x : tmX, tm_B x γ M d mc ms → tm_Rt x h post → (tm_c x).exceptionTable.toList = tableOf hh → tm_Nc (tm_st x) → tm_V x (h (tm_Fz x) w) mc ms 0 (lv_args 0 As) []) : tm_ConH γ h M hh d mc ms As w post := by
  intro Fz
  refine tm_ofWH (cc := M.2.1) (maxL := M.2.2.1) (ret := M.2.2.2) (hh := hh) hy rfl ?_
  intro p e s m args below meth c s₁ B hml hv
  obtain ⟨rfl, hNc, hEt, hEs, hG⟩ := hv
  have hts := atoms_spec (ws := .codeWith M.1 M.2.1 M.2.2.1 M.2.2.2 hh :: ALL) B.pre
  have hown : s.vm.findClass M.1.cls = some m.cls := findClass_of_methodNamed B.named
  have htab := vx_table (x := M.1) B (hts _ List.mem_cons_self)
  obtain ⟨l, D, T, e0, mi⟩ := γ
  have hb := body ((p, l, e, tm_rm d mc ms, s, m, As.toArray, below, meth, c, MQ below (tm_qc h Fz post) As.toArray s mc ms (fun q => ¬ Fz q)), D, T, e0, mi, Fz, M.2.2.1)
    ⟨rfl, rfl, rfl, ⟨B.exec, B.bytes, hml, hown, fun w hw => hts w (List.mem_cons_of_mem _ hw), B.notSynchronized, B.returns, hst, hEt, hEs⟩, (name_of_methodNamed B.named B.method).1⟩ rfl htab hNc
  rw [lg_entry_eq]
  exact hb s.heap [] _ 0 0 (by show 0 + mc ≤ mc; omega) (by show 0 + ms ≤ ms; omega) va_S.rf hG (lv_entry As hn)
theorem tm_blindN {Wd : Type} {γ : tmG} {h : (Nat → Prop) → Wd → Heap → Prop} {Fz : Nat → Prop} {w : Wd} {As : List Value} : FrameBlind (tm_pcN γ h Fz w As) := by
  intro a U g mk hp
  obtain ⟨h1, h0, h2, h3, h4⟩ := hp
  refine ⟨h1, ?_, ?_, ?_, h4⟩
  · exact tm_Nc.moved (u := U) (U := U.calling g mk a) (State.WarmedH.refl U).alike h0
  · exact tm_Et.warm (s := U) (U := U.calling g mk a) (State.WarmedH.refl U) h2
  · exact tm_Es.moved (s := U) (U := U.calling g mk a) (State.WarmedH.refl U).alike h3
def tm_ksW (own : String) (idx : Nat) (M : tmM) (hh : List (Nat × Nat × Nat × Nat)) (n : Nat) : Prop := Cond.methodLink own idx M.1 ∈ ALL ∧ Cond.static M.1 ∈ ALL ∧ Cond.initialized M.1.cls ∈ ALL ∧ Cond.codeWith M.1 M.2.1 M.2.2.1 M.2.2.2 hh ∈ ALL ∧ (M.1.cls ≠ "java/lang/invoke/MethodHandle" ∧ M.1.cls ≠ "java/lang/invoke/VarHandle") ∧ (parseMethodDescriptor M.1.desc).map (fun d => d.parameters.length) = some n
/-- the machine has thrown q at a place of this method -/
def tm_vxW (x : tmX) (G : Heap → Prop) (b n pc : Nat) (L : List (Nat × Value)) (rest : List Value) (E : String) (q : Nat) : Prop :=
  ∀ (H : Heap) (locs : List Loc) (ls : Array Slot) (cells slots : Nat) (ce : Cell), cells + b ≤ (tm_R x).cells → slots + n ≤ (tm_R x).slots → va_S (fun q => ¬ tm_Fz x q) (tm_st x).heap H locs → G H → lv_has ls (tm_nL x) L → H[q]? = some ce → ce.vm = .none → (tm_st x).vm.findClass E = some ce.cls → vx_W x.1.1 x.1.2.1 x.1.2.2.1 (tm_R x) (tm_st x) (tm_m x) (tm_as x) (tm_be x) (tm_me x) (tm_c x) H locs cells slots (tm_Q x) (F0 (tm_m x) pc ls rest) q
section TMH
variable {x : tmX} {cc : ByteArray} {own : String} {ret : Option FieldType} {G : Heap → Prop} {b n pc : Nat} {L : List (Nat × Value)} {st : List Value} {Wd : Type} {h : (Nat → Prop) → Wd → Heap → Prop} {w : Wd} {post : Option Value → Wd → Prop} {xp : String → Wd → Prop}
theorem tm_catch {E name : String} {rest : List Value} {q : Nat} (pre : List ExceptionTableEntry) (y9 : ExceptionTableEntry) (suf : List ExceptionTableEntry) (hC : tm_C x cc own ret) (hsp : (tm_c x).exceptionTable.toList = pre ++ y9 :: suf)
    (hpass : ∀ z ∈ pre, covers z pc = false ∨ (z.catchType ≠ 0 ∧ ∃ nm : String, Cond.classLink own z.catchType nm ∈ ALL ∧ va_Nc E nm (tm_st x))) (hx : covers y9 pc = true) (h0 : y9.catchType ≠ 0)
    (hlink : Cond.classLink own y9.catchType name ∈ ALL) (hcast : Cond.castable E name ∈ NW) (k : tm_V x G b n y9.handlerPc L [.ref q]) : tm_vxW x G b n pc L rest E q := by
  intro H locs ls cells slots ce h1 h2 hS hG hl hce hcv hcl
  refine vx_catch hC.2.2.2.1 pre y9 suf hsp (fun z hz => ?_) hx h0 (tm_CW hC hlink) (va_Nw.use rfl (tm_CN hC hcast)) hce hcv hcl (k H locs ls cells slots h1 h2 hS hG hl)
  rcases hpass z hz with g | ⟨g1, nm, g2, g3⟩
  · exact Or.inl g
  · exact Or.inr ⟨g1, nm, tm_CW hC g2, g3⟩
theorem tm_runC {mc ms : Nat} {a : Array Value} {rest st0 : List Value} (hC : tm_C x cc own ret)
    (hr : ∀ (H : Heap) (locs : List Loc) (ls : Array Slot) (cells slots : Nat), cells + mc ≤ (tm_R x).cells → slots + ms ≤ (tm_R x).slots → va_S (fun q => ¬ tm_Fz x q) (tm_st x).heap H locs → h (tm_Fz x) w H → ls.size = tm_nL x → vx_Run x.1.1 x.1.2.1 x.1.2.2.1 (tm_R x) (tm_st x) (tm_m x) (tm_as x) (tm_be x) (tm_me x) (tm_c x) H locs cells slots mc ms (F0 (tm_m x) pc ls st0) rest (tm_qc h (tm_Fz x) post a) (tm_xc h (tm_Fz x) xp) (fun q => ¬ tm_Fz x q))
    (kx : ∀ (E : String) (w' : Wd) (q : Nat), xp E w' → tm_vxW x (h (tm_Fz x) w') b n pc L rest E q)
    (k : ∀ (v : Option Value) (w' : Wd), post v w' → tm_V x (h (tm_Fz x) w') b n (pc + 3) L (v.toList ++ rest)) : tm_V x (h (tm_Fz x) w) (mc + b) (ms + n) pc L st0 := by
  intro H locs ls cells slots h1 h2 hS hG hl T hT X
  rcases hr H locs ls cells slots (by omega) (by omega) hS hG hl.1 T hT X with ⟨v, st₀, t, T', Lc, h0, X', hLc, e1, e2, ⟨v', w', hv, hp, hh, hF⟩, hgo⟩ | ⟨q, st₀, t, T', Lc, E, ce, h0, X', hLc, e1, e2, ⟨w', hxp, hh, hF⟩, hce, hcv, hcl, hst⟩
  · cases hv
    obtain ⟨hz, hk, hS'⟩ := vx_keep h0 e1 hS (fun q _ hq => hq) (fun q hq => hq) hLc hF
    obtain ⟨t2, a1, b1⟩ := k v w' hp T'.heap (locs ++ Lc) ls (cells + mc) (slots + ms) (by omega) (by omega) hS' (by rw [e1]; exact hh) hl T' rfl X'
    exact ⟨t2, hgo t2 a1, b1⟩
  · obtain ⟨hz, hk, hS'⟩ := vx_keep h0 e1 hS (fun q _ hq => hq) (fun q hq => hq) hLc hF
    obtain ⟨t2, a1, b1⟩ := kx E w' q hxp T'.heap (locs ++ Lc) ls (cells + mc) (slots + ms) ce (by omega) (by omega) hS' (by rw [e1]; exact hh) hl (by rw [e1]; exact hce) hcv hcl T' rfl X'
    exact ⟨t2, Steps.trans hst a1, b1⟩
theorem tm_callVC {idx nn d mc ms : Nat} {M : tmM} {a : Nat} {As rest st0 : List Value} (hC : tm_C x cc own ret) (hM : tm_ConX (tm_g x) h M d mc ms (.ref a :: As) w post xp) (hk : tm_kv own idx M nn) (hd : d + 1 ≤ (tm_R x).frames ∧ 19 + M.2.2.1 + 64 * d ≤ (tm_R x).locals) (hn : As.length = nn) (hrec : ∀ H, h (tm_Fz x) w H → ∃ cell : Cell, H[a]? = some cell ∧ cell.vm.isStatics = false ∧ (tm_st x).vm.findClass M.1.cls = some cell.cls) (hs0 : st0 = As.reverse ++ .ref a :: rest) (hw8 : (rest.map fun v => v.category).sum ≤ 8) (hdg : decode cc pc = .ok (.invokevirtual idx, 3))
    (kx : ∀ (E : String) (w' : Wd) (q : Nat), xp E w' → tm_vxW x (h (tm_Fz x) w') b n pc L rest E q) (k : ∀ (v : Option Value) (w' : Wd), post v w' → tm_V x (h (tm_Fz x) w') b n (pc + 3) L (v.toList ++ rest)) : tm_V x (h (tm_Fz x) w) (mc + b) (ms + n) pc L st0 := by
  have cw := And.intro (tm_callB (mc := mc) (ms := ms) (d := d) (y2 := True) hC ⟨hk.1, trivial, hk.2.2.2⟩ hd) (And.intro (hC.2.2.2.2.1 _ hk.2.1) (hC.2.2.2.2.1 _ hk.2.2.1))
  refine tm_runC (a := (.ref a :: As).toArray) hC (fun H locs ls cells slots h1 h2 hS hG hsz => ?_) kx k
  exact vx_runV (tm_fix hC) (hM (tm_Fz x)) cw ⟨tm_blind, hrec H hG, fun U hU hW => tm_pre hC hS hG U hU hW⟩ rfl hn hsz hs0 (lv_room hw8) hdg ⟨h1, h2⟩
theorem tm_callSW {idx nn d mc ms : Nat} {M : tmM} {hh : List (Nat × Nat × Nat × Nat)} {As rest st0 : List Value} (hC : tm_C x cc own ret) (hNc : tm_Nc (tm_st x)) (hM : tm_ConH (tm_g x) h M hh d mc ms As w post) (hk : tm_ksW own idx M hh nn) (hd : d + 1 ≤ (tm_R x).frames ∧ 19 + M.2.2.1 + 64 * d ≤ (tm_R x).locals) (hn : As.length = nn) (hs0 : st0 = As.reverse ++ rest) (hw8 : (rest.map fun v => v.category).sum ≤ 8) (hdg : decode cc pc = .ok (.invokestatic idx, 3))
    (k : ∀ (v : Option Value) (w' : Wd), post v w' → tm_V x (h (tm_Fz x) w') b n (pc + 3) L (v.toList ++ rest)) : tm_V x (h (tm_Fz x) w) (mc + b) (ms + n) pc L st0 := by
  have cw : vx_CSW (tm_R x) (tm_st x) (tm_as x) own idx M.1 M.2.1 M.2.2.1 M.2.2.2 hh (.codeWith M.1 M.2.1 M.2.2.1 M.2.2.2 hh :: ALL) (tm_rm d mc ms) mc ms nn := by
    obtain ⟨k1, k2, k3, k4, k5, k6⟩ := hk
    refine ⟨⟨rfl, rfl, hd.1, by show 8 + (M.2.2.1 + 11) + 64 * d ≤ _; omega, tm_good hC.2.2.2.2.1 k4 (fun z hz => List.mem_cons.mp hz), List.mem_cons_self⟩, hC.2.2.2.2.1 _ k4, hC.2.2.2.2.1 _ k3, k5, fun sig hs => ?_, hC.2.2.2.2.1 _ k1, hC.2.2.2.2.1 _ k2⟩
    rw [hs] at k6
    exact (Option.some.inj k6).symm
  refine tm_run (a := (As).toArray) (fun H locs ls cells slots h1 h2 hS hG hsz => ?_) k
  exact vx_runSW (tm_fix hC) (hM (tm_Fz x)) cw ⟨tm_blindN, fun U hU hW => ⟨rfl, hNc.moved hW.alike, hC.2.2.2.2.2.2.2.2.1.warm hW, by rw [hU]; exact (tm_CE hC hS).moved hW.alike, by rw [hU]; exact hG⟩⟩ rfl hn hsz hs0 (lv_room hw8) hdg ⟨h1, h2⟩
end TMH

theorem ct_iob : Cond.castable "java/lang/IndexOutOfBoundsException" "java/lang/IndexOutOfBoundsException" ∈ NW := tm_nn1 227 rfl rfl
theorem ct_iae : Cond.castable "java/lang/IllegalArgumentException" "java/lang/IllegalArgumentException" ∈ NW := tm_nn3 5 rfl rfl
theorem ct_ise : Cond.castable "java/lang/IllegalStateException" "java/lang/IllegalStateException" ∈ NW := tm_nn3 167 rfl rfl
theorem cl_L_13 : Cond.classLink RL 13 "java/lang/IllegalArgumentException" ∈ ALL := tm_in3 150 rfl rfl
theorem cl_L_15 : Cond.classLink RL 15 "java/lang/IllegalStateException" ∈ ALL := tm_in3 151 rfl rfl
theorem cl_L_21 : Cond.classLink RL 21 "java/lang/IndexOutOfBoundsException" ∈ ALL := tm_in3 209 rfl rfl
theorem ks_L_85 : tm_ksW RL 85 M_L_addBoard [(0, 12, 15, 13), (0, 12, 19, 15)] 5 := ⟨tm_in3 147 rfl rfl, tm_in3 148 rfl rfl, tm_in1 0 rfl rfl, tm_in3 149 rfl rfl, ⟨by decide, by decide⟩, by decide +kernel⟩
theorem ks_L_94 : tm_ksW RL 94 M_L_addDefect [(0, 14, 17, 21), (0, 14, 21, 13), (0, 14, 25, 15)] 6 := ⟨tm_in3 206 rfl rfl, tm_in3 207 rfl rfl, tm_in1 0 rfl rfl, tm_in3 208 rfl rfl, ⟨by decide, by decide⟩, by decide +kernel⟩
theorem ks_L_98 : tm_ksW RL 98 M_L_addPart [(0, 16, 19, 13), (0, 16, 23, 15)] 7 := ⟨tm_in4 11 rfl rfl, tm_in4 12 rfl rfl, tm_in1 0 rfl rfl, tm_in4 13 rfl rfl, ⟨by decide, by decide⟩, by decide +kernel⟩
theorem ks_L_102 : tm_ksW RL 102 M_L_setSaw [(0, 9, 12, 13), (0, 9, 15, 15)] 3 := ⟨tm_in4 63 rfl rfl, tm_in4 64 rfl rfl, tm_in1 0 rfl rfl, tm_in4 65 rfl rfl, ⟨by decide, by decide⟩, by decide +kernel⟩
theorem ks_L_106 : tm_ksW RL 106 M_L_setJoint [(0, 9, 12, 13)] 3 := ⟨tm_in4 72 rfl rfl, tm_in4 73 rfl rfl, tm_in1 0 rfl rfl, tm_in4 74 rfl rfl, ⟨by decide, by decide⟩, by decide +kernel⟩
theorem ks_L_109 : tm_ksW RL 109 M_L_grade [(0, 10, 13, 21)] 4 := ⟨tm_in4 80 rfl rfl, tm_in4 81 rfl rfl, tm_in1 0 rfl rfl, tm_in4 82 rfl rfl, ⟨by decide, by decide⟩, by decide +kernel⟩
theorem ks_L_113 : tm_ksW RL 113 M_L_stretches [(0, 10, 13, 21), (0, 10, 17, 13)] 4 := ⟨tm_in4 92 rfl rfl, tm_in4 93 rfl rfl, tm_in1 0 rfl rfl, tm_in4 94 rfl rfl, ⟨by decide, by decide⟩, by decide +kernel⟩
theorem ks_L_116 : tm_ksW RL 116 M_L_stretch [(0, 14, 17, 21), (0, 14, 21, 13)] 6 := ⟨tm_in4 111 rfl rfl, tm_in4 112 rfl rfl, tm_in1 0 rfl rfl, tm_in4 113 rfl rfl, ⟨by decide, by decide⟩, by decide +kernel⟩
theorem ks_L_120 : tm_ksW RL 120 M_L_fits [(0, 19, 22, 21)] 5 := ⟨tm_in4 124 rfl rfl, tm_in4 125 rfl rfl, tm_in1 0 rfl rfl, tm_in4 126 rfl rfl, ⟨by decide, by decide⟩, by decide +kernel⟩
theorem ks_L_123 : tm_ksW RL 123 M_L_earliest [(0, 10, 13, 21)] 4 := ⟨tm_in4 148 rfl rfl, tm_in4 149 rfl rfl, tm_in1 0 rfl rfl, tm_in4 150 rfl rfl, ⟨by decide, by decide⟩, by decide +kernel⟩
theorem ks_L_126 : tm_ksW RL 126 M_L_cut [(0, 12, 15, 21), (0, 12, 19, 15)] 5 := ⟨tm_in4 155 rfl rfl, tm_in4 156 rfl rfl, tm_in1 0 rfl rfl, tm_in4 157 rfl rfl, ⟨by decide, by decide⟩, by decide +kernel⟩
theorem ks_L_129 : tm_ksW RL 129 M_L_join [(0, 18, 21, 21), (0, 18, 25, 13), (0, 18, 29, 15)] 8 := ⟨tm_in4 164 rfl rfl, tm_in4 165 rfl rfl, tm_in1 0 rfl rfl, tm_in4 166 rfl rfl, ⟨by decide, by decide⟩, by decide +kernel⟩
theorem ks_L_133 : tm_ksW RL 133 M_L_undo [(0, 8, 11, 15)] 2 := ⟨tm_in4 176 rfl rfl, tm_in4 177 rfl rfl, tm_in1 0 rfl rfl, tm_in4 178 rfl rfl, ⟨by decide, by decide⟩, by decide +kernel⟩
theorem ks_L_141 : tm_ksW RL 141 M_L_left [(0, 9, 12, 21)] 3 := ⟨tm_in4 197 rfl rfl, tm_in4 198 rfl rfl, tm_in1 0 rfl rfl, tm_in4 199 rfl rfl, ⟨by decide, by decide⟩, by decide +kernel⟩
theorem ks_L_144 : tm_ksW RL 144 M_L_pieces [(0, 9, 12, 21)] 3 := ⟨tm_in4 204 rfl rfl, tm_in4 205 rfl rfl, tm_in1 0 rfl rfl, tm_in4 206 rfl rfl, ⟨by decide, by decide⟩, by decide +kernel⟩
theorem ks_L_147 : tm_ksW RL 147 M_L_piece [(0, 12, 15, 21)] 5 := ⟨tm_in4 211 rfl rfl, tm_in4 212 rfl rfl, tm_in1 0 rfl rfl, tm_in4 213 rfl rfl, ⟨by decide, by decide⟩, by decide +kernel⟩
theorem ks_L_150 : tm_ksW RL 150 M_L_cuts [(0, 9, 12, 21)] 3 := ⟨tm_in4 220 rfl rfl, tm_in4 221 rfl rfl, tm_in1 0 rfl rfl, tm_in4 222 rfl rfl, ⟨by decide, by decide⟩, by decide +kernel⟩
theorem ks_L_153 : tm_ksW RL 153 M_L_longestRoom [(0, 9, 12, 21)] 3 := ⟨tm_in4 231 rfl rfl, tm_in4 232 rfl rfl, tm_in1 0 rfl rfl, tm_in4 233 rfl rfl, ⟨by decide, by decide⟩, by decide +kernel⟩
theorem ks_L_156 : tm_ksW RL 156 M_L_bestUse [(0, 12, 15, 21), (0, 12, 19, 13)] 5 := ⟨tm_in5 2 rfl rfl, tm_in5 3 rfl rfl, tm_in1 0 rfl rfl, tm_in5 4 rfl rfl, ⟨by decide, by decide⟩, by decide +kernel⟩
