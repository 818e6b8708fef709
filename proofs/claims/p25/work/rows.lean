section
/-! EVIDENCE, no proof of the claim: the printed statement asks of the law's own method that it has no exception table; its class file has one of two rows. So no launch meets the statement's premise, the witness that the claim owes beside it is refuted, and the two claims say nothing. -/
theorem ev_code : classFile.hasCode x code maxLocals ret = false := by decide +kernel
theorem ev_pin : ¬ PinnedClaimed := by
  unfold PinnedClaimed
  rw [ev_code]
  exact Bool.false_ne_true
theorem ev_mem : (x, code, maxLocals, ret) ∈ (headSpec (Jvm.Cond.code x code maxLocals ret :: tables_1) room_1).pre.codes ++ (headSpec (Jvm.Cond.code x code maxLocals ret :: tables_1) room_1).post.codes := by
  refine List.mem_append_left _ ?_
  show (x, code, maxLocals, ret) ∈ (Jvm.Cond.and (Jvm.Cond.code x code maxLocals ret) (allAtoms tables_1)).codes
  generalize allAtoms tables_1 = q9
  simp only [Jvm.Cond.codes]
  exact List.mem_append_left _ (List.mem_singleton.mpr rfl)
theorem ev_lists (l : Launch) : ¬ Lists l classFile x code maxLocals ret tables_1 room_1 := by
  rintro ⟨-, hf, hF, -⟩
  have h : ((l.file? x.cls).any fun f => f.hasCode x code maxLocals ret) = true := hF.1 _ ev_mem
  rw [hf, Option.any_some, ev_code] at h
  exact Bool.false_ne_true h
theorem ev_lists_1 : ¬ ListsClaimed_1 := ev_lists launch0
theorem ev_witness_1 : ¬ WitnessClaimed_1 := by
  rintro ⟨p, e, s, m, args, below, h⟩
  exact ev_lists _ h.1
/-- true of nothing: no launch meets the premise -/
theorem ev_empty : Claimed_1_1 ∧ Claimed_1_2 := ⟨fun l _ hL => absurd hL (ev_lists l), fun l _ hL => absurd hL (ev_lists l)⟩
end
