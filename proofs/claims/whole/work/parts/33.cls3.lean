/-! Throws, and calls of what may throw. -/
/-- what the tables say of 'throw new E(text)' -/
def tm_th (own cls : String) (ik ic : Nat) : Prop := Bundle.fit cls = true ∧ (∀ z ∈ ["java/lang/RuntimeException", "java/lang/Exception"], Bundle.fit z = true) ∧ Cond.classLink own ik cls ∈ ALL ∧ Cond.initialized cls ∈ ALL ∧ (∀ w ∈ vx_atS own ic cls ["java/lang/RuntimeException", "java/lang/Exception"], w ∈ lw_tbl) ∧ (∀ w ∈ vx_atS own ic cls ["java/lang/RuntimeException", "java/lang/Exception"], (goodWord w || (tm_nw w && w.onTables)) = true) ∧ ∀ w ∈ Cond.classLink own ik cls :: Cond.initialized cls :: vx_atS own ic cls ["java/lang/RuntimeException", "java/lang/Exception"], vx_ot w = true
def tm_kp {Wd : Type} (h : (Nat → Prop) → Wd → Heap → Prop) : Prop := ∀ (Fz : Nat → Prop) (w : Wd) (H H1 : Heap), h Fz w H → H.size ≤ H1.size → (∀ q : Nat, q < H.size → H1[q]? = H[q]?) → h Fz w H1
theorem tm_kp2 {D : va_G} {T : ClassId × ClassId × ClassId × ClassId} {e0 : Nat} : tm_kp (tm_h2 D T e0) := by
  intro Fz Λ H H1 h hz hq
  obtain ⟨Ω, h1, L, h2, h3, h4⟩ := h
  exact ⟨Ω, h1, L, h2, h3.kept (fun k q hk => hq q.1 (vx_lt h3 hk)), h4⟩
section TMT
variable {x : tmX} {cc : ByteArray} {own : String} {ret : Option FieldType} {b n pc : Nat} {L : List (Nat × Value)} {st : List Value} {Wd : Type} {h : (Nat → Prop) → Wd → Heap → Prop} {w : Wd} {post post0 : Option Value → Wd → Prop} {xp xq : String → Wd → Prop}
theorem tm_atw {cls : String} {ik ic : Nat} (hC : tm_C x cc own ret) (ht : tm_th own cls ik ic) : ∀ w ∈ vx_atS own ic cls ["java/lang/RuntimeException", "java/lang/Exception"], w.before (tm_as x) (tm_st x) = true := by
  intro w hw
  have h1 := ht.2.2.2.2.1 w hw
  have h2 := ht.2.2.2.2.2.1 w hw
  by_cases hg : goodWord w = true
  · exact tm_CW hC (List.mem_filter.mpr ⟨h1, hg⟩)
  · have h3 : tm_nw w = true ∧ w.onTables = true := by
      rw [Bool.not_eq_true] at hg
      rw [hg, Bool.false_or, Bool.and_eq_true] at h2
      exact h2
    exact va_Nw.use h3.2 (tm_CN hC (List.mem_filter.mpr ⟨h1, h3.1⟩))
theorem tm_throwW {cls text : String} {ik is ic : Nat} (hC : tm_C x cc own ret) (hR : tm_RtX x h post xp) (hnt : ∀ z ∈ (tm_c x).exceptionTable.toList, False) (hkp : tm_kp h) (ht : tm_th own cls ik ic) (hs : Cond.stringRef own is text ∈ lw_tbl) (hfr : 6 ≤ (tm_R x).frames ∧ 100 ≤ (tm_R x).locals) (hw8 : (st.map fun v => v.category).sum ≤ 8)
    (d0 : decode cc pc = .ok (.new ik, 3)) (d3 : decode cc (pc + 3) = .ok (.dup, 1)) (d4 : decode cc (pc + 4) = .ok (.ldc_w is, 3)) (d7 : decode cc (pc + 7) = .ok (.invokespecial ic, 3)) (d10 : decode cc (pc + 10) = .ok (.athrow, 1)) (hp : xp cls w) : tm_V x (h (tm_Fz x) w) (1 + b) (6 + n) pc L st := by
  intro H locs ls cells slots h1 h2 hS hG hl
  show W _ _ _ _ _ _ _ _ _ _ H locs cells slots (tm_Q x) _
  rw [show tm_Q x = _ from hR]
  obtain ⟨sa, hsa⟩ := hC.2.2.2.2.2.2.2.2.1.2.2.1 own text is hs
  have hE := hC.2.2.2.2.2.2.2.2.2
  exact vx_throwSW (names := ["java/lang/RuntimeException", "java/lang/Exception"]) hC.1 hC.2.1 hC.2.2.2.2.2.2.2.1 hC.2.2.2.1 ht.1 ht.2.1 (tm_CW hC ht.2.2.1) (tm_CW hC ht.2.2.2.1) hsa (tm_atw hC ht) ht.2.2.2.2.2.2 hE.2.2.2.1 hE.2.2.2.2.1 hS (hl.1.trans hC.2.2.1.symm) d0 d3 d4 d7 d10
    (fun z hz => (hnt z hz).elim) (Nat.lt_of_lt_of_le (by decide) hfr.1) (show (st.map fun v => v.category).sum + (13 * 3 + 43) ≤ (tm_R x).locals by omega) (show cells + 1 ≤ (tm_R x).cells by omega) (show slots + 6 ≤ (tm_R x).slots by omega) hC.2.2.2.2.2.1
    (fun t _ hz hq => ⟨w, hp, hkp _ _ _ _ hG hz hq, Nat.le_trans hS.1 hz, fun q q1 q2 => (hq q (Nat.lt_of_lt_of_le q1 hS.1)).trans (hS.2.1 q q1 q2)⟩) hS.2.2 (by omega) (by omega)
theorem tm_throw {cls text : String} {ik is ic : Nat} (hC : tm_C x cc own ret) (hR : tm_RtX x h post xp) (hnt : ∀ z ∈ (tm_c x).exceptionTable.toList, False) (hkp : tm_kp h) (ht : tm_th own cls ik ic) (hs : Cond.stringRef own is text ∈ lw_tbl) (hfr : 6 ≤ (tm_R x).frames ∧ 100 ≤ (tm_R x).locals) (hw8 : (st.map fun v => v.category).sum ≤ 8)
    (d0 : decode cc pc = .ok (.new ik, 3)) (d3 : decode cc (pc + 3) = .ok (.dup, 1)) (d4 : decode cc (pc + 4) = .ok (.ldc is, 2)) (d7 : decode cc (pc + 6) = .ok (.invokespecial ic, 3)) (d10 : decode cc (pc + 9) = .ok (.athrow, 1)) (hp : xp cls w) : tm_V x (h (tm_Fz x) w) (1 + b) (6 + n) pc L st := by
  intro H locs ls cells slots h1 h2 hS hG hl
  show W _ _ _ _ _ _ _ _ _ _ H locs cells slots (tm_Q x) _
  rw [show tm_Q x = _ from hR]
  obtain ⟨sa, hsa⟩ := hC.2.2.2.2.2.2.2.2.1.2.2.1 own text is hs
  have hE := hC.2.2.2.2.2.2.2.2.2
  exact vx_throwS (names := ["java/lang/RuntimeException", "java/lang/Exception"]) hC.1 hC.2.1 hC.2.2.2.2.2.2.2.1 hC.2.2.2.1 ht.1 ht.2.1 (tm_CW hC ht.2.2.1) (tm_CW hC ht.2.2.2.1) hsa (tm_atw hC ht) ht.2.2.2.2.2.2 hE.2.2.2.1 hE.2.2.2.2.1 hS (hl.1.trans hC.2.2.1.symm) d0 d3 d4 d7 d10
    (fun z hz => (hnt z hz).elim) (Nat.lt_of_lt_of_le (by decide) hfr.1) (show (st.map fun v => v.category).sum + (13 * 3 + 43) ≤ (tm_R x).locals by omega) (show cells + 1 ≤ (tm_R x).cells by omega) (show slots + 6 ≤ (tm_R x).slots by omega) hC.2.2.2.2.2.1
    (fun t _ hz hq => ⟨w, hp, hkp _ _ _ _ hG hz hq, Nat.le_trans hS.1 hz, fun q q1 q2 => (hq q (Nat.lt_of_lt_of_le q1 hS.1)).trans (hS.2.1 q q1 q2)⟩) hS.2.2 (by omega) (by omega)
/-- behind a call of what may throw -/
theorem tm_runX {mc ms : Nat} {a : Array Value} {rest st0 : List Value} (hC : tm_C x cc own ret) (hR : tm_RtX x h post0 xq) (hnt : ∀ z ∈ (tm_c x).exceptionTable.toList, False)
    (hr : ∀ (H : Heap) (locs : List Loc) (ls : Array Slot) (cells slots : Nat), cells + mc ≤ (tm_R x).cells → slots + ms ≤ (tm_R x).slots → va_S (fun q => ¬ tm_Fz x q) (tm_st x).heap H locs → h (tm_Fz x) w H → ls.size = tm_nL x → vx_Run x.1.1 x.1.2.1 x.1.2.2.1 (tm_R x) (tm_st x) (tm_m x) (tm_as x) (tm_be x) (tm_me x) (tm_c x) H locs cells slots mc ms (F0 (tm_m x) pc ls st0) rest (tm_qc h (tm_Fz x) post a) (tm_xc h (tm_Fz x) xp) (fun q => ¬ tm_Fz x q))
    (kx : ∀ (E : String) (w' : Wd), xp E w' → xq E w')
    (k : ∀ (v : Option Value) (w' : Wd), post v w' → tm_V x (h (tm_Fz x) w') b n (pc + 3) L (v.toList ++ rest)) : tm_V x (h (tm_Fz x) w) (mc + b) (ms + n) pc L st0 := by
  intro H locs ls cells slots h1 h2 hS hG hl T hT X
  rcases hr H locs ls cells slots (by omega) (by omega) hS hG hl.1 T hT X with ⟨v, st₀, t, T', Lc, h0, X', hLc, e1, e2, ⟨v', w', hv, hp, hh, hF⟩, hgo⟩ | ⟨q, st₀, t, T', Lc, E, ce, h0, X', hLc, e1, e2, ⟨w', hxp, hh, hF⟩, hce, hcv, hcl, hst⟩
  · cases hv
    obtain ⟨hz, hk, hS'⟩ := vx_keep h0 e1 hS (fun q _ hq => hq) (fun q hq => hq) hLc hF
    obtain ⟨t2, a1, b1⟩ := k v w' hp T'.heap (locs ++ Lc) ls (cells + mc) (slots + ms) (by omega) (by omega) hS' (by rw [e1]; exact hh) hl T' rfl X'
    exact ⟨t2, hgo t2 a1, b1⟩
  · obtain ⟨hz, hk, hS'⟩ := vx_keep h0 e1 hS (fun q _ hq => hq) (fun q hq => hq) hLc hF
    have ho := vx_out (p := x.1.1) (l := x.1.2.1) (e := x.1.2.2.1) (R := tm_R x) (s := tm_st x) (m := tm_m x) (args := tm_as x) (below := tm_be x) (meth := tm_me x) (c := tm_c x) (H := T'.heap) (locs := locs ++ Lc) (cells := cells + mc) (slots := slots + ms) (ls := ls) (rest := rest) (pc := pc) (q := q) (E := E) (ce := ce) (mc := (tm_R x).cells) (ms := (tm_R x).slots) (free := fun q => ¬ tm_Fz x q) (Qc := tm_qc h (tm_Fz x) post0) (XC := tm_xc h (tm_Fz x) xq)
      (fun z hz => (hnt z hz).elim) hC.2.2.2.2.2.1 (by rw [e1]; exact hce) hcv hcl (fun t9 ht9 _ => ⟨w', kx E w' hxp, by rw [ht9, e1]; exact hh, hS'.F ht9⟩) hS'.2.2 (by omega) (by omega)
    obtain ⟨t2, a1, b1⟩ := ho T' rfl X'
    refine ⟨t2, Steps.trans hst a1, ?_⟩
    show tm_Q x t2
    rw [show tm_Q x = _ from hR]
    exact b1
theorem tm_callVX {idx nn d mc ms : Nat} {M : tmM} {a : Nat} {As rest st0 : List Value} (hC : tm_C x cc own ret) (hR : tm_RtX x h post0 xq) (hnt : ∀ z ∈ (tm_c x).exceptionTable.toList, False) (hM : tm_ConX (tm_g x) h M d mc ms (.ref a :: As) w post xp) (hk : tm_kv own idx M nn) (hd : d + 1 ≤ (tm_R x).frames ∧ 19 + M.2.2.1 + 64 * d ≤ (tm_R x).locals) (hn : As.length = nn) (hrec : ∀ H, h (tm_Fz x) w H → ∃ cell : Cell, H[a]? = some cell ∧ cell.vm.isStatics = false ∧ (tm_st x).vm.findClass M.1.cls = some cell.cls) (hs0 : st0 = As.reverse ++ .ref a :: rest) (hw8 : (rest.map fun v => v.category).sum ≤ 8) (hdg : decode cc pc = .ok (.invokevirtual idx, 3))
    (kx : ∀ (E : String) (w' : Wd), xp E w' → xq E w') (k : ∀ (v : Option Value) (w' : Wd), post v w' → tm_V x (h (tm_Fz x) w') b n (pc + 3) L (v.toList ++ rest)) : tm_V x (h (tm_Fz x) w) (mc + b) (ms + n) pc L st0 := by
  have cw := And.intro (tm_callB (mc := mc) (ms := ms) (d := d) (y2 := True) hC ⟨hk.1, trivial, hk.2.2.2⟩ hd) (And.intro (hC.2.2.2.2.1 _ hk.2.1) (hC.2.2.2.2.1 _ hk.2.2.1))
  refine tm_runX (a := (.ref a :: As).toArray) hC hR hnt (fun H locs ls cells slots h1 h2 hS hG hsz => ?_) kx k
  exact vx_runV (tm_fix hC) (hM (tm_Fz x)) cw ⟨tm_blind, hrec H hG, fun U hU hW => tm_pre hC hS hG U hU hW⟩ rfl hn hsz hs0 (lv_room hw8) hdg ⟨h1, h2⟩
theorem tm_callSX {idx nn d mc ms : Nat} {M : tmM} {As rest st0 : List Value} (hC : tm_C x cc own ret) (hR : tm_RtX x h post0 xq) (hnt : ∀ z ∈ (tm_c x).exceptionTable.toList, False) (hM : tm_ConX (tm_g x) h M d mc ms As w post xp) (hk : tm_ks own idx M nn) (hd : d + 1 ≤ (tm_R x).frames ∧ 19 + M.2.2.1 + 64 * d ≤ (tm_R x).locals) (hn : As.length = nn) (hs0 : st0 = As.reverse ++ rest) (hw8 : (rest.map fun v => v.category).sum ≤ 8) (hdg : decode cc pc = .ok (.invokestatic idx, 3))
    (kx : ∀ (E : String) (w' : Wd), xp E w' → xq E w') (k : ∀ (v : Option Value) (w' : Wd), post v w' → tm_V x (h (tm_Fz x) w') b n (pc + 3) L (v.toList ++ rest)) : tm_V x (h (tm_Fz x) w) (mc + b) (ms + n) pc L st0 := by
  have cw := And.intro (tm_callB (mc := mc) (ms := ms) (d := d) (y2 := True) hC ⟨hk.1, trivial, hk.2.2.2⟩ hd) (hC.2.2.2.2.1 _ hk.2.1)
  refine tm_runX (a := As.toArray) hC hR hnt (fun H locs ls cells slots h1 h2 hS hG hsz => ?_) kx k
  exact vx_runS (tm_fix hC) (hM (tm_Fz x)) cw ⟨tm_blind, fun U hU hW => tm_pre hC hS hG U hU hW⟩ rfl hn hsz hs0 (lv_room hw8) hdg ⟨h1, h2⟩
end TMT

theorem th_iob : tm_th RX5 "java/lang/IndexOutOfBoundsException" 121 125 := ⟨by decide +kernel, by decide +kernel, tm_in3 218 rfl rfl, tm_in1 16 rfl rfl, by decide +kernel, by decide +kernel, by decide +kernel⟩
theorem th_iae : tm_th RX5 "java/lang/IllegalArgumentException" 47 51 := ⟨by decide +kernel, by decide +kernel, tm_in3 162 rfl rfl, tm_in1 9 rfl rfl, by decide +kernel, by decide +kernel, by decide +kernel⟩
theorem th_ise : tm_th RX5 "java/lang/IllegalStateException" 58 62 := ⟨by decide +kernel, by decide +kernel, tm_in3 165 rfl rfl, tm_in1 10 rfl rfl, by decide +kernel, by decide +kernel, by decide +kernel⟩
theorem sr_111 : Cond.stringRef RX5 111 "the saw has a width of 0 to 10" ∈ lw_tbl := by decide +kernel
theorem sr_117 : Cond.stringRef RX5 117 "there is a piece" ∈ lw_tbl := by decide +kernel
theorem sr_119 : Cond.stringRef RX5 119 "a joint takes a length of 0 to 50" ∈ lw_tbl := by decide +kernel
theorem sr_123 : Cond.stringRef RX5 123 "there is no such place" ∈ lw_tbl := by decide +kernel
theorem sr_137 : Cond.stringRef RX5 137 "there is no such stretch" ∈ lw_tbl := by decide +kernel
theorem sr_162 : Cond.stringRef RX5 162 "the part is not left" ∈ lw_tbl := by decide +kernel
theorem sr_164 : Cond.stringRef RX5 164 "the piece is not possible" ∈ lw_tbl := by decide +kernel
theorem sr_170 : Cond.stringRef RX5 170 "each of the two lengths is at least 50" ∈ lw_tbl := by decide +kernel
theorem sr_176 : Cond.stringRef RX5 176 "the part is not left or may not be joined" ∈ lw_tbl := by decide +kernel
theorem sr_178 : Cond.stringRef RX5 178 "a piece is not possible" ∈ lw_tbl := by decide +kernel
theorem sr_194 : Cond.stringRef RX5 194 "the pieces are not possible beside each other" ∈ lw_tbl := by decide +kernel
theorem sr_205 : Cond.stringRef RX5 205 "there is no cut or joining" ∈ lw_tbl := by decide +kernel
theorem sr_240 : Cond.stringRef RX5 240 "there is no such piece" ∈ lw_tbl := by decide +kernel
theorem sr_242 : Cond.stringRef RX5 242 "what is 0 to 3" ∈ lw_tbl := by decide +kernel
theorem sr_253 : Cond.stringRef RX5 253 "a row has a length of 0 to 3000" ∈ lw_tbl := by decide +kernel
theorem sr_287 : Cond.stringRef RX5 287 "a grade is 0 to 3" ∈ lw_tbl := by decide +kernel
theorem sr_289 : Cond.stringRef RX5 289 "there is no such board" ∈ lw_tbl := by decide +kernel
theorem sr_291 : Cond.stringRef RX5 291 "there is no such part" ∈ lw_tbl := by decide +kernel
theorem sr_49 : Cond.stringRef RX5 49 "a board has a length of 100 to 3000, a width of 10 to 400, a grade of 0 to 3" ∈ lw_tbl := by decide +kernel
theorem sr_60 : Cond.stringRef RX5 60 "there are 10 boards" ∈ lw_tbl := by decide +kernel
theorem sr_79 : Cond.stringRef RX5 79 "a defect is a row of places of its board, with a grade of 1 to 3" ∈ lw_tbl := by decide +kernel
theorem sr_81 : Cond.stringRef RX5 81 "there are 24 defects" ∈ lw_tbl := by decide +kernel
theorem sr_86 : Cond.stringRef RX5 86 "a piece would not be possible with the defect" ∈ lw_tbl := by decide +kernel
theorem sr_95 : Cond.stringRef RX5 95 "a part has a length of 20 to 3000, a width of 10 to 400, a grade of 0 to 3, a count of 1 to 9" ∈ lw_tbl := by decide +kernel
theorem sr_97 : Cond.stringRef RX5 97 "there are 12 parts" ∈ lw_tbl := by decide +kernel
