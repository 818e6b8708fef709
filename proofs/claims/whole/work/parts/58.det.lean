/-! What a call answers and leaves is one thing: class and reference agree. -/
theorem Eqv_s {σ τ : ST} (h : Eqv σ τ) : Eqv τ σ := by
  obtain ⟨⟨e1, e2, e3, e4, e5, e6⟩, f1, f2, f3, f4, f5, f6⟩ := h
  exact ⟨⟨e1.symm, e2.symm, e3.symm, e4.symm, e5.symm, e6.symm⟩, f1.symm, f2.symm, f3.symm, f4.symm, fun j hj => (f5 j (by omega)).symm, fun k hk => (f6 k (by omega)).symm⟩
theorem Eqv_t {σ τ υ : ST} (h : Eqv σ τ) (h' : Eqv τ υ) : Eqv σ υ := by
  obtain ⟨⟨e1, e2, e3, e4, e5, e6⟩, f1, f2, f3, f4, f5, f6⟩ := h
  obtain ⟨⟨d1, d2, d3, d4, d5, d6⟩, g1, g2, g3, g4, g5, g6⟩ := h'
  exact ⟨⟨e1.trans d1, e2.trans d2, e3.trans d3, e4.trans d4, e5.trans d5, e6.trans d6⟩, f1.trans g1, f2.trans g2, f3.trans g3, f4.trans g4, fun j hj => (f5 j hj).trans (g5 j (by omega)), fun k hk => (f6 k hk).trans (g6 k (by omega))⟩
theorem Eqv_WF {σ τ : ST} (h : Eqv σ τ) (hW : WF σ) : WF τ ∧ s_tl τ = s_tl σ := by
  have h0 := Eqv_wf h hW.1
  obtain ⟨-, cs, hg, hc⟩ := hW
  obtain ⟨⟨e1, e2, e3, e4, e5, e6⟩, f1, f2, f3, f4, f5, f6⟩ := h
  have ht : s_tl τ = s_tl σ := by
    show tsum (s_wa τ) (s_np τ).toNat = tsum (s_wa σ) (s_np σ).toNat
    rw [f3, e3]
  exact ⟨⟨h0, cs, by rw [← e6]; exact grp_congr _ _ _ (fun z z1 z2 => ⟨f6 z (by omega), f5 _ (by omega)⟩) hg, by rw [ht, ← e3]; exact hc⟩, ht⟩
/-- what holds the one state holds the other one -/
def TR (σ τ : ST) : Prop := ∀ (T : ClassId × ClassId × ClassId × ClassId) (Λ : tmL) (κ : KP), RC T Λ κ σ → grp (s_aj σ) (s_cu σ) (k_cs κ) 0 (s_nm σ) → RC T Λ κ τ ∧ grp (s_aj τ) (s_cu τ) (k_cs κ) 0 (s_nm τ)
theorem TR_r (σ : ST) : TR σ σ := fun _ _ _ h1 h2 => ⟨h1, h2⟩
theorem TR_e {σ τ : ST} (hw : WF0 σ) (h : Eqv σ τ) : TR σ τ := fun _ _ _ h1 h2 => ⟨(RC_eqv h1 hw h).1, (RC_eqv h1 hw h).2 h2⟩
/-- class and reference agree on a call: k, k' what is thrown, σ1, σ2 the states then, r, r' the answers -/
def Agr (σ : ST) (k k' : Int) (σ1 σ2 : ST) (r r' : Int) : Prop := k = k' ∧ TR σ1 σ2 ∧ (WF σ2 ∧ s_tl σ2 ≤ s_tl σ + 9) ∧ (k = 0 → r = r')
theorem Agr_o {σ σ1 : ST} {k k' r r' : Int} (hW : WF σ) (h : k = k' ∧ (k = 0 → r = r')) (e : σ1 = σ) : Agr σ k k' σ1 σ r r' := ⟨h.1, by rw [e]; exact TR_r σ, ⟨hW, by omega⟩, h.2⟩
theorem U_addBoard {σ σ1 σ2 : ST} {l w g k k' r r' : Int} (hW : WF σ) (h : Sp_addBoard σ l w g k σ1 r) (h' : Sp_addBoard σ l w g k' σ2 r') : Agr σ k k' σ1 σ2 r r' := by
  rcases h with ⟨a1, a2, a3⟩ | ⟨a1, a2, a3, a4⟩ | ⟨a1, a2, a3, a4, a5⟩ <;> rcases h' with ⟨b1, b2, b3⟩ | ⟨b1, b2, b3, b4⟩ | ⟨b1, b2, b3, b4, b5⟩
  · rw [b3]; exact Agr_o hW ⟨by omega, fun z => by omega⟩ a3
  · exact absurd b1 a1
  · exact absurd b1 a1
  · exact absurd a1 b1
  · rw [b4]; exact Agr_o hW ⟨by omega, fun z => by omega⟩ a4
  · exact absurd a2 b2
  · exact absurd a1 b1
  · exact absurd b2 a2
  · exact ⟨by omega, by rw [a4, b4]; exact TR_r _, ⟨by rw [b4]; exact addB_wf hW b1 b2, by rw [b4]; show s_tl σ ≤ _; omega⟩, fun _ => by omega⟩
theorem U_addPart {σ σ1 σ2 : ST} {l w g c j k k' r r' : Int} (hW : WF σ) (hj : j = 0 ∨ j = 1) (h : Sp_addPart σ l w g c j k σ1 r) (h' : Sp_addPart σ l w g c j k' σ2 r') : Agr σ k k' σ1 σ2 r r' := by
  rcases h with ⟨a1, a2, a3⟩ | ⟨a1, a2, a3, a4⟩ | ⟨a1, a2, a3, a4, a5⟩ <;> rcases h' with ⟨b1, b2, b3⟩ | ⟨b1, b2, b3, b4⟩ | ⟨b1, b2, b3, b4, b5⟩
  · rw [b3]; exact Agr_o hW ⟨by omega, fun z => by omega⟩ a3
  · exact absurd b1 a1
  · exact absurd b1 a1
  · exact absurd a1 b1
  · rw [b4]; exact Agr_o hW ⟨by omega, fun z => by omega⟩ a4
  · exact absurd a2 b2
  · exact absurd a1 b1
  · exact absurd b2 a2
  · have h9 := addP_wf hW b1 hj b2
    have h8 := okP_i.mp b1
    exact ⟨by omega, by rw [a4, b4]; exact TR_r _, ⟨by rw [b4]; exact h9.1, by rw [b4, h9.2]; omega⟩, fun _ => by omega⟩
theorem U_addDefect {σ σ1 σ2 : ST} {b f t g k k' r r' : Int} (hW : WF σ) (h : Sp_addDefect σ b f t g k σ1 r) (h' : Sp_addDefect σ b f t g k' σ2 r') : Agr σ k k' σ1 σ2 r r' := by
  rcases h with ⟨a1, a2, a3⟩ | ⟨a1, a2, a3, a4⟩ | ⟨a1, a2, a3, a4, a5⟩ | ⟨a1, a2, a3, a4, a5, a6, a7⟩ <;> rcases h' with ⟨b1, b2, b3⟩ | ⟨b1, b2, b3, b4⟩ | ⟨b1, b2, b3, b4, b5⟩ | ⟨b1, b2, b3, b4, b5, b6, b7⟩
  · rw [b3]; exact Agr_o hW ⟨by omega, fun z => by omega⟩ a3
  · exact absurd b1 a1
  · exact absurd b1 a1
  · exact absurd b1 a1
  · exact absurd a1 b1
  · rw [b4]; exact Agr_o hW ⟨by omega, fun z => by omega⟩ a4
  · exact absurd b2 a2
  · exact absurd b2 a2
  · exact absurd a1 b1
  · exact absurd a2 b2
  · rw [b5]; exact Agr_o hW ⟨by omega, fun z => by omega⟩ a5
  · exact (a3.elim b3 b4).elim
  · exact absurd a1 b1
  · exact absurd a2 b2
  · exact (b3.elim a3 a4).elim
  · exact ⟨by omega, by rw [a6, b6]; exact TR_r _, ⟨by rw [b6]; exact addD_wf hW b1 b2 b3, by rw [b6]; show s_tl σ ≤ _; omega⟩, fun _ => by omega⟩
theorem U_setSaw {σ σ1 σ2 : ST} {w k k' r r' : Int} (hW : WF σ) (h : Sp_setSaw σ w k σ1 r) (h' : Sp_setSaw σ w k' σ2 r') : Agr σ k k' σ1 σ2 r r' := by
  rcases h with ⟨a1, a2, a3⟩ | ⟨a1, a2, a3, a4⟩ | ⟨a1, a2, a3, a4, a5⟩ <;> rcases h' with ⟨b1, b2, b3⟩ | ⟨b1, b2, b3, b4⟩ | ⟨b1, b2, b3, b4, b5⟩
  · rw [b3]; exact Agr_o hW ⟨by omega, fun z => by omega⟩ a3
  · exact absurd b1 a1
  · exact absurd b1 a1
  · exact absurd a1 b1
  · rw [b4]; exact Agr_o hW ⟨by omega, fun z => by omega⟩ a4
  · exact absurd a2 b2
  · exact absurd a1 b1
  · exact absurd b2 a2
  · exact ⟨by omega, by rw [a4, b4]; exact TR_r _, ⟨by rw [b4]; exact setSw_wf hW b1 b2, by rw [b4]; show s_tl σ ≤ _; omega⟩, fun _ => by omega⟩
theorem U_setJoint {σ σ1 σ2 : ST} {w k k' r r' : Int} (hW : WF σ) (h : Sp_setJoint σ w k σ1 r) (h' : Sp_setJoint σ w k' σ2 r') : Agr σ k k' σ1 σ2 r r' := by
  rcases h with ⟨a1, a2, a3⟩ | ⟨a1, a2, a3, a4⟩ <;> rcases h' with ⟨b1, b2, b3⟩ | ⟨b1, b2, b3, b4⟩
  · rw [b3]; exact Agr_o hW ⟨by omega, fun z => by omega⟩ a3
  · exact absurd b1 a1
  · exact absurd a1 b1
  · exact ⟨by omega, by rw [a3, b3]; exact TR_r _, ⟨by rw [b3]; exact setJt_wf hW b1, by rw [b3]; show s_tl σ ≤ _; omega⟩, fun _ => by omega⟩
theorem U_cut {σ σ1 σ2 : ST} {p b pl k k' r r' : Int} (hW : WF σ) (h : Sp_cut σ p b pl k σ1 r) (h' : Sp_cut σ p b pl k' σ2 r') : Agr σ k k' σ1 σ2 r r' := by
  rcases h with ⟨a1, a2, a3⟩ | ⟨a1, a2, a3, a4⟩ | ⟨a1, a2, a3, a4, a5, a6⟩ <;> rcases h' with ⟨b1, b2, b3⟩ | ⟨b1, b2, b3, b4⟩ | ⟨b1, b2, b3, b4, b5, b6⟩
  · rw [b3]; exact Agr_o hW ⟨by omega, fun z => by omega⟩ a3
  · exact absurd b1 a1
  · exact absurd b1 a1
  · exact absurd a1 b1
  · rw [b4]; exact Agr_o hW ⟨by omega, fun z => by omega⟩ a4
  · exact (a2.elim (fun z => b2 z) (fun z => z b3)).elim
  · exact absurd a1 b1
  · exact (b2.elim (fun z => a2 z) (fun z => z a3)).elim
  · have h9 := okPB_i.mp b1
    have hp := wf_p hW.1 p h9.1
    have h8 := cutS_wf hW h9.1 h9.2 (by omega) b3
    exact ⟨by omega, by rw [a5, b5]; exact TR_r _, ⟨by rw [b5]; exact h8.1, by rw [b5, show s_tl (less (addC σ p b pl (s_wa σ (4 * p + 0)) 0) p) = s_tl σ - 1 from h8.2]; omega⟩, fun _ => by omega⟩
theorem U_join {σ σ1 σ2 : ST} {p a pa ln b pb k k' r r' : Int} (hW : WF σ) (h : Sp_join σ p a pa ln b pb k σ1 r) (h' : Sp_join σ p a pa ln b pb k' σ2 r') : Agr σ k k' σ1 σ2 r r' := by
  rcases h with ⟨a1, a2, a3⟩ | ⟨a1, a2, a3, a4⟩ | ⟨a1, a2, a3, a4, a5⟩ | ⟨a1, a2, a3, a4, a5, a6, a7, a8, a9⟩ <;> rcases h' with ⟨b1, b2, b3⟩ | ⟨b1, b2, b3, b4⟩ | ⟨b1, b2, b3, b4, b5⟩ | ⟨b1, b2, b3, b4, b5, b6, b7, b8, b9⟩
  · rw [b3]; exact Agr_o hW ⟨by omega, fun z => by omega⟩ a3
  · exact absurd b1 a1
  · exact absurd b1 a1
  · exact absurd b1 a1
  · exact absurd a1 b1
  · rw [b4]; exact Agr_o hW ⟨by omega, fun z => by omega⟩ a4
  · exact absurd b2 a2
  · exact absurd b2 a2
  · exact absurd a1 b1
  · exact absurd a2 b2
  · have h9 := Eqv_WF b5 hW
    exact ⟨by omega, TR_e (Eqv_wf a5 hW.1) (Eqv_t (Eqv_s a5) b5), ⟨h9.1, by omega⟩, fun _ => by omega⟩
  · rcases a3 with z | z | z | z
    · exact absurd z b3
    · exact absurd z b4
    · exact absurd b5 z
    · exact absurd b6 z
  · exact absurd a1 b1
  · exact absurd a2 b2
  · rcases b3 with z | z | z | z
    · exact absurd z a3
    · exact absurd z a4
    · exact absurd a5 z
    · exact absurd a6 z
  · have h9 := okJ_i.mp b1
    have hp := wf_p hW.1 p h9.1
    have h8 := join_wf hW h9.1 h9.2.1 h9.2.2 (by omega) (by omega) (show 1 ≤ oth σ p ln by omega) b5 b6
    exact ⟨by omega, by rw [a8, b8]; exact TR_r _, ⟨by rw [b8]; exact h8.1, by rw [b8, h8.2]; omega⟩, fun _ => by omega⟩
theorem U_undo {σ σ1 σ2 : ST} {k k' r r' : Int} (hW : WF σ) (h : Sp_undo σ k σ1 r) (h' : Sp_undo σ k' σ2 r') : Agr σ k k' σ1 σ2 r r' := by
  rcases h with ⟨a1, a2, a3⟩ | ⟨a1, a2, a3, a4⟩ <;> rcases h' with ⟨b1, b2, b3⟩ | ⟨b1, b2, b3, b4⟩
  · rw [b3]; exact Agr_o hW ⟨by omega, fun z => by omega⟩ a3
  · exact absurd a1 b1
  · exact absurd b1 a1
  · have h8 := undo_wf hW (σ' := σ2) (r := r') (Or.inr ⟨b1, rfl, b3, b4⟩)
    have e : r = r' := by omega
    exact ⟨by omega, by rw [a4, b4, e]; exact TR_r _, ⟨h8.1, by omega⟩, fun _ => e⟩
theorem U_grade {σ σ1 : ST} {b pl k k' r r' : Int} (hW : WF σ) (h : Sp_grade σ b pl k r ∧ σ1 = σ) (h' : Sp_grade σ b pl k' r') : Agr σ k k' σ1 σ r r' := by
  refine Agr_o hW ?_ h.2
  rcases h.1 with ⟨a1, a2⟩ | ⟨a1, a2, a3⟩ <;> rcases h' with ⟨b1, b2⟩ | ⟨b1, b2, b3⟩
  · exact ⟨by omega, fun z => by omega⟩
  · exact absurd b1 a1
  · exact absurd a1 b1
  · exact ⟨by omega, fun _ => isGr_u a3 b3⟩
theorem U_stretches {σ σ1 : ST} {b g k k' r r' : Int} (hW : WF σ) (h : Sp_stretches σ b g k r ∧ σ1 = σ) (h' : Sp_stretches σ b g k' r') : Agr σ k k' σ1 σ r r' := by
  refine Agr_o hW ?_ h.2
  rcases h.1 with ⟨a1, a2⟩ | ⟨a1, a2, a3⟩ | ⟨a1, a2, a3, ss, a4, a5⟩ <;> rcases h' with ⟨b1, b2⟩ | ⟨b1, b2, b3⟩ | ⟨b1, b2, b3, ss', b4, b5⟩
  · exact ⟨by omega, fun z => by omega⟩
  · exact absurd b1 a1
  · exact absurd b1 a1
  · exact absurd a1 b1
  · exact ⟨by omega, fun z => by omega⟩
  · exact absurd b2 a2
  · exact absurd a1 b1
  · exact absurd a2 b2
  · have e := StrP_u ss ss' 0 a4 b4
    subst e
    exact ⟨by omega, fun _ => by omega⟩
theorem U_stretch {σ σ1 : ST} {b g n e k k' r r' : Int} (hW : WF σ) (h : Sp_stretch σ b g n e k r ∧ σ1 = σ) (h' : Sp_stretch σ b g n e k' r') : Agr σ k k' σ1 σ r r' := by
  refine Agr_o hW ?_ h.2
  have key : ∀ ss ss' : List (Int × Int), ∀ u v, StrP σ b g ss 0 → (ss.length : Int) ≤ n → StrP σ b g ss' 0 → ss'[n.toNat]? = some (u, v) → False := by
    intro ss ss' u v h1 h2 h3 h4
    have e := StrP_u ss ss' 0 h1 h3
    subst e
    obtain ⟨h5, -⟩ := List.getElem?_eq_some_iff.mp h4
    omega
  rcases h.1 with ⟨a1, a2⟩ | ⟨a1, a2, a3⟩ | ⟨a1, a2, a3, a4, ss, u, v, a5, a6, a7⟩ <;> rcases h' with ⟨b1, b2⟩ | ⟨b1, b2, b3⟩ | ⟨b1, b2, b3, b4, ss', u', v', b5, b6, b7⟩
  · exact ⟨by omega, fun z => by omega⟩
  · exact absurd b1 a1
  · exact absurd b1 a1
  · exact absurd a1 b1
  · exact ⟨by omega, fun z => by omega⟩
  · rcases a3 with z | z | ⟨-, ss, z1, z2⟩
    · exact absurd b2 z
    · omega
    · exact (key ss ss' u' v' z1 z2 b5 b6).elim
  · exact absurd a1 b1
  · rcases b3 with z | z | ⟨-, ss', z1, z2⟩
    · exact absurd a2 z
    · omega
    · exact (key ss' ss u v z1 z2 a5 a6).elim
  · have e9 := StrP_u ss ss' 0 a5 b5
    subst e9
    rw [a6] at b6
    cases b6
    exact ⟨by omega, fun _ => by rw [a7, b7]⟩
theorem U_fits {σ σ1 : ST} {p b pl k k' r r' : Int} (hW : WF σ) (h : Sp_fits σ p b pl k r ∧ σ1 = σ) (h' : Sp_fits σ p b pl k' r') : Agr σ k k' σ1 σ r r' := by
  refine Agr_o hW ?_ h.2
  rcases h.1 with ⟨a1, a2⟩ | ⟨a1, a2, a3⟩ <;> rcases h' with ⟨b1, b2⟩ | ⟨b1, b2, b3⟩
  · exact ⟨by omega, fun z => by omega⟩
  · exact absurd b1 a1
  · exact absurd a1 b1
  · exact ⟨by omega, fun _ => by rw [a3, b3]⟩
theorem U_earliest {σ σ1 : ST} {p b k k' r r' : Int} (hW : WF σ) (h : Sp_earliest σ p b k r ∧ σ1 = σ) (h' : Sp_earliest σ p b k' r') : Agr σ k k' σ1 σ r r' := by
  refine Agr_o hW ?_ h.2
  rcases h.1 with ⟨a1, a2⟩ | ⟨a1, a2, a3⟩ <;> rcases h' with ⟨b1, b2⟩ | ⟨b1, b2, b3⟩
  · exact ⟨by omega, fun z => by omega⟩
  · exact absurd b1 a1
  · exact absurd a1 b1
  · exact ⟨by omega, fun _ => isEarl_u a3 b3⟩
theorem U_left {σ σ1 : ST} {p k k' r r' : Int} (hW : WF σ) (h : Sp_left σ p k r ∧ σ1 = σ) (h' : Sp_left σ p k' r') : Agr σ k k' σ1 σ r r' := by
  refine Agr_o hW ?_ h.2
  rcases h.1 with ⟨a1, a2⟩ | ⟨a1, a2, a3⟩ <;> rcases h' with ⟨b1, b2⟩ | ⟨b1, b2, b3⟩
  · exact ⟨by omega, fun z => by omega⟩
  · exact absurd b1 a1
  · exact absurd a1 b1
  · exact ⟨by omega, fun _ => by rw [a3, b3]⟩
theorem U_pieces {σ σ1 : ST} {b k k' r r' : Int} (hW : WF σ) (h : Sp_pieces σ b k r ∧ σ1 = σ) (h' : Sp_pieces σ b k' r') : Agr σ k k' σ1 σ r r' := by
  refine Agr_o hW ?_ h.2
  rcases h.1 with ⟨a1, a2⟩ | ⟨a1, a2, ks, a3, a4⟩ <;> rcases h' with ⟨b1, b2⟩ | ⟨b1, b2, ks', b3, b4⟩
  · exact ⟨by omega, fun z => by omega⟩
  · exact absurd b1 a1
  · exact absurd a1 b1
  · have e := Srt_u hW.1 ks ks' 0 a3 b3
    exact ⟨by omega, fun _ => by rw [a4, b4, e]⟩
theorem U_cuts {σ σ1 : ST} {b k k' r r' : Int} (hW : WF σ) (h : Sp_cuts σ b k r ∧ σ1 = σ) (h' : Sp_cuts σ b k' r') : Agr σ k k' σ1 σ r r' := by
  refine Agr_o hW ?_ h.2
  rcases h.1 with ⟨a1, a2⟩ | ⟨a1, a2, ks, a3, a4⟩ <;> rcases h' with ⟨b1, b2⟩ | ⟨b1, b2, ks', b3, b4⟩
  · exact ⟨by omega, fun z => by omega⟩
  · exact absurd b1 a1
  · exact absurd a1 b1
  · have e := Srt_u hW.1 ks ks' 0 a3 b3
    exact ⟨by omega, fun _ => by rw [a4, b4, e]⟩
theorem U_longestRoom {σ σ1 : ST} {b k k' r r' : Int} (hW : WF σ) (h : Sp_longest σ b k r ∧ σ1 = σ) (h' : Sp_longest σ b k' r') : Agr σ k k' σ1 σ r r' := by
  refine Agr_o hW ?_ h.2
  rcases h.1 with ⟨a1, a2⟩ | ⟨a1, a2, ks, a3, a4⟩ <;> rcases h' with ⟨b1, b2⟩ | ⟨b1, b2, ks', b3, b4⟩
  · exact ⟨by omega, fun z => by omega⟩
  · exact absurd b1 a1
  · exact absurd a1 b1
  · have e := Srt_u hW.1 ks ks' 0 a3 b3
    exact ⟨by omega, fun _ => by rw [a4, b4, e]⟩
theorem U_piece {σ σ1 : ST} {b i w k k' r r' : Int} (hW : WF σ) (h : Sp_piece σ b i w k r ∧ σ1 = σ) (h' : Sp_piece σ b i w k' r') : Agr σ k k' σ1 σ r r' := by
  refine Agr_o hW ?_ h.2
  rcases h.1 with ⟨a1, a2⟩ | ⟨a1, ks, a3, a4⟩ <;> rcases h' with ⟨b1, b2⟩ | ⟨b1, ks', b3, b4⟩
  · exact ⟨by omega, fun z => by omega⟩
  · exact absurd b1 a1
  · exact absurd a1 b1
  · have e := Srt_u hW.1 ks ks' 0 a3 b3
    subst e
    rcases a4 with ⟨c1, c2⟩ | ⟨c1, c2, f, c3, c4⟩ <;> rcases b4 with ⟨d1, d2⟩ | ⟨d1, d2, f', d3, d4⟩
    · exact ⟨by omega, fun z => by omega⟩
    · exact absurd d1 c1
    · exact absurd c1 d1
    · rw [c3] at d3
      cases d3
      exact ⟨by omega, fun _ => by rw [c4, d4]⟩
theorem U_bestUse {σ σ1 : ST} {b g l k k' r r' : Int} (hW : WF σ) (h : Sp_best σ b g l k r ∧ σ1 = σ) (h' : Sp_best σ b g l k' r') : Agr σ k k' σ1 σ r r' := by
  refine Agr_o hW ?_ h.2
  rcases h.1 with ⟨a1, a2⟩ | ⟨a1, a2, a3⟩ | ⟨a1, a2, a3, a4⟩ <;> rcases h' with ⟨b1, b2⟩ | ⟨b1, b2, b3⟩ | ⟨b1, b2, b3, b4⟩
  · exact ⟨by omega, fun z => by omega⟩
  · exact absurd b1 a1
  · exact absurd b1 a1
  · exact absurd a1 b1
  · exact ⟨by omega, fun z => by omega⟩
  · exact absurd b2 a2
  · exact absurd a1 b1
  · exact absurd a2 b2
  · exact ⟨by omega, fun _ => by rw [a4, b4]⟩
theorem U_used {σ : ST} {r r' : UInt64} (hW : WF σ) (h : Sp_used σ r) (h' : Sp_used σ r') : r = r' := by
  obtain ⟨a, p, h1, h2⟩ := h
  obtain ⟨a', p', h1', h2'⟩ := h'
  obtain ⟨e1, e2⟩ := usR_u hW.1 _ h1 h1'
  rw [h2, h2', e1, e2]
