/-! What the premises give of the start. -/
theorem tb1 {w : Cond} (i : Nat) (h : tables_1_1[i]? = some w) : w ∈ lw_tbl := List.mem_append_right _ (List.mem_append_left _ (List.mem_of_getElem? h))
theorem tb2 {w : Cond} (i : Nat) (h : tables_1_2[i]? = some w) : w ∈ lw_tbl := List.mem_append_right _ (List.mem_append_right _ (List.mem_append_left _ (List.mem_of_getElem? h)))
theorem tb3 {w : Cond} (i : Nat) (h : tables_1_3[i]? = some w) : w ∈ lw_tbl := List.mem_append_right _ (List.mem_append_right _ (List.mem_append_right _ (List.mem_append_left _ (List.mem_of_getElem? h))))
theorem arr_k {s : State} {args : Array Value} {ty : FieldType} (h : (Cond.arrayClass ty).before args s = true) : ∃ cA : ClassId, ArrOfT s cA ty ∧ s.vm.findClass ("[" ++ ty.toString) = some cA := by
  obtain ⟨c, k, comp, h1, h2, h3⟩ := Cond.arrayClass_spec h
  exact ⟨c, fun n z => ⟨(fun k h => by cases h), k, h2, comp, h3⟩, h1⟩
theorem obj_k {s : State} (h : va_AO "java/lang/Object" s) : ∃ cA : ClassId, ArrOfT s cA (.object "java/lang/Object") ∧ va_RA s cA (.object "java/lang/Object") := by
  obtain ⟨comp, c, k, h1, h2, h3, h4, h5⟩ := Cond.arrayOver_spec h
  exact ⟨c, fun n z => ⟨(fun k h => by cases h), k, h3, comp, h4⟩, k, comp, h3, h4, h1, h5⟩
theorem str_k {s : State} {args : Array Value} {own tx : String} {k : Nat} (h : (Cond.stringRef own k tx).before args s = true) : ∃ sa, vk_R own k tx sa s := by
  have h' : (Cond.stringRef own k tx).holds args s none s [] = true := h
  cases hc : s.vm.findClass own with
  | none => simp [Cond.holds, Cond.value, hc] at h'
  | some cur =>
    obtain ⟨k1, cf, i, a, h1, h2, h3, h4, h5, h6⟩ := Cond.stringRef_spec hc h'
    exact ⟨a, vk_R.of h h6⟩
theorem cls_k {s : State} {args : Array Value} {own : String} {idx ci : Nat} {fs : List Value} (hts : ∀ w ∈ ALL, w.before args s = true) (h : tm_nw9 own idx ci fs) : ∀ q : vw_C, classes[ci]? = some q → ∃ p : ClassId × (Nat → Nat), u_Kn s q.1 q.2.1 q.2.2 p.1 p.2 := by
  obtain ⟨C, T, N, ty, h1, h2, h3, h4, h5, -⟩ := h
  intro q hq
  rw [h1] at hq
  cases hq
  obtain ⟨cC, iS, hk⟩ := u_known (C := C) (T := T) (N := N) hts h2 (hts _ h5)
  exact ⟨(cC, iS), hk⟩
theorem cls_all {s : State} {args : Array Value} (hts : ∀ w ∈ ALL, w.before args s = true) : ∃ D : va_G, ∀ (c : Nat) (q : vw_C), classes[c]? = some q → u_Kn s q.1 q.2.1 q.2.2 (D.1 c) (D.2 c) := by
  have key : ∀ c : Nat, ∃ p : ClassId × (Nat → Nat), ∀ q : vw_C, classes[c]? = some q → u_Kn s q.1 q.2.1 q.2.2 p.1 p.2 := by
    intro c
    have one : ∀ {own : String} {idx : Nat} {fs : List Value}, tm_nw9 own idx c fs → ∃ p : ClassId × (Nat → Nat), ∀ q : vw_C, classes[c]? = some q → u_Kn s q.1 q.2.1 q.2.2 p.1 p.2 := by
      intro own idx fs h
      cases hc : classes[c]? with
      | none => exact ⟨((default : ClassId), fun _ => 0), fun q hq => by cases hq⟩
      | some q0 =>
        obtain ⟨p, hp⟩ := cls_k hts h q0 hc
        exact ⟨p, fun q hq => by cases hq; exact hp⟩
    match c with
    | 0 => exact one n_X5_7
    | 1 => exact one n_X5_63
    | 2 => exact one n_X5_196
    | 3 => exact one n_X5_88
    | 4 => exact one n_X5_99
    | 5 => exact one n_X5_180
    | 6 => exact one n_L_8
    | 7 => exact one n_L_82
    | c + 8 => exact ⟨((default : ClassId), fun _ => 0), fun q hq => by
        have h9 : classes[c + 8]? = none := rfl
        rw [h9] at hq
        cases hq⟩
  obtain ⟨f, hf⟩ := Classical.axiomOfChoice key
  exact ⟨(fun c => (f c).1, fun c => (f c).2), fun c q hq => hf c q hq⟩
theorem nw_k {s : State} {args : Array Value} (hts : ∀ w ∈ lw_tbl, w.before args s = true) : ∀ w ∈ NW, va_Nw w s := by
  intro w hw
  have hg := (List.mem_filter.mp hw).2
  have ho : w.onTables = true := by
    cases w <;> first
      | rfl
      | exact absurd hg (by decide)
      | (exfalso; revert hg; exact fun z => by cases z)
  exact va_Nw.of ho (hts w (List.mem_filter.mp hw).1)
theorem start_all {s : State} {sb : Nat} (hts : ∀ w ∈ lw_tbl, w.before #[Value.ref sb] s = true) (hgv : (Jvm.Cond.and given_1 narrow_1).before #[Value.ref sb] s = true) : ∃ (D : va_G) (T : ClassId × ClassId × ClassId × ClassId) (e0 mi : Nat), tm_Et D T mi s ∧ tm_Es T e0 (fun q => q < s.heap.size) s s.heap ∧ tm_Nc s := by
  have hs := flat_of_before _ hgv
  have htA : ∀ w ∈ ALL, w.before #[Value.ref sb] s = true := fun w hw => hts w (List.mem_filter.mp hw).1
  have hA : ∀ a : Nat, a < s.heap.size → ¬ ¬ (a < s.heap.size) := fun a h z => z h
  obtain ⟨D, hD⟩ := cls_all htA
  have hAO : va_AO "java/lang/Object" s := va_AO.of (A := #[Value.ref sb]) (hts _ (tb3 106 rfl))
  obtain ⟨c1, a1, b1⟩ := arr_k (htA _ w_arr_int)
  obtain ⟨c2, a2, b2⟩ := arr_k (htA _ w_arr_boolean)
  obtain ⟨c3, a3, b3⟩ := arr_k (htA _ w_arr_long)
  obtain ⟨c4, a4, b4⟩ := obj_k hAO
  have hMi0 : (Cond.isRef (.mirror "[Ljava/lang/Object;")).before #[Value.ref sb] s = true := hs _ (by decide +kernel)
  obtain ⟨mi, hMi⟩ := va_Mi.of hMi0
  have hE1 : (Cond.arrayOf (.static "java/util/ArrayList" "DEFAULTCAPACITY_EMPTY_ELEMENTDATA" "[Ljava/lang/Object;") (.object "java/lang/Object")).before #[Value.ref sb] s = true := hs _ (by decide +kernel)
  have hE2 : (Cond.eq (.length (.static "java/util/ArrayList" "DEFAULTCAPACITY_EMPTY_ELEMENTDATA" "[Ljava/lang/Object;")) (.int 0)).before #[Value.ref sb] s = true := hs _ (by decide +kernel)
  obtain ⟨e0, hev, hT⟩ := va_Tof (N := 0) (f := fun _ => .null) (A := fun q => ¬ (q < s.heap.size)) (by decide) hE1 (va_eqt hE2) (fun j hj => absurd hj (Nat.not_lt_zero j)) hA
  have hU : (Cond.isRef (.static "java/lang/Throwable" "UNASSIGNED_STACK" "[Ljava/lang/StackTraceElement;")).before #[Value.ref sb] s = true := hs _ (by decide +kernel)
  have hN : (Cond.isRef (.static "java/lang/Throwable" "SUPPRESSED_SENTINEL" "Ljava/util/List;")).before #[Value.ref sb] s = true := hs _ (by decide +kernel)
  have n1 : (Cond.not (.castable "java/lang/IllegalArgumentException" "java/lang/IndexOutOfBoundsException")).before #[Value.ref sb] s = true := hs _ (by decide +kernel)
  have n2 : (Cond.not (.castable "java/lang/IllegalStateException" "java/lang/IndexOutOfBoundsException")).before #[Value.ref sb] s = true := hs _ (by decide +kernel)
  have n3 : (Cond.not (.castable "java/lang/IllegalStateException" "java/lang/IllegalArgumentException")).before #[Value.ref sb] s = true := hs _ (by decide +kernel)
  have hTlt : e0 < s.heap.size := by
    obtain ⟨cell, g1, -⟩ := hT
    exact (Array.getElem?_eq_some_iff.mp g1).1
  refine ⟨D, (c1, c2, c3, c4), e0, mi, ⟨⟨hD, fun k q hq => ?_⟩, nw_k hts, fun own tx k hk => str_k (hts _ hk), hMi, hAO⟩, ⟨va_Zref (hts _ (tb1 51 rfl)) (hts _ (tb1 4 rfl)) hev hA, hT, hTlt, vx_Zqof (hts _ (tb2 12 rfl)) (hts _ (tb1 6 rfl)) hU hA, vx_Zqof (hts _ (tb2 14 rfl)) (hts _ (tb1 6 rfl)) hN hA, fun q hq => hq⟩, ?_⟩
  · match k, hq with
    | 0, hq => cases hq; exact ⟨a1, b1⟩
    | 1, hq => cases hq; exact ⟨a2, b2⟩
    | 2, hq => cases hq; exact ⟨a3, b3⟩
    | 3, hq => cases hq; exact ⟨a4, b4⟩
    | k + 4, hq => simp [tm_tys] at hq
  · intro z hz
    rcases List.mem_cons.mp hz with h | hz
    · rw [h]; exact va_Nc.of n1
    · rcases List.mem_cons.mp hz with h | hz
      · rw [h]; exact va_Nc.of n2
      · rcases List.mem_cons.mp hz with h | hz
        · rw [h]; exact va_Nc.of n3
        · cases hz
