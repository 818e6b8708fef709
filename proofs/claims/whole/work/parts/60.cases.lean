set_option maxHeartbeats 4000000 in
set_option maxRecDepth 100000 in
theorem L_addBoard {x : tmX} {sb l : Nat} {xs : Nat → Int32} (hL : LwC x sb l xs) {o ko : Nat} {ρ : Nat → Nat} {i : Int} (hi : 0 ≤ i ∧ i + 7 ≤ l) {w : tmL} {σ : ST} (hS : LwS x o ko ρ w σ) {c9 s9 : Nat} (kk : ∀ w' σ', LwS x o ko ρ w' σ' → s_tl σ' ≤ s_tl σ + 9 → tm_V x (tm_H x w') c9 s9 1641 [(0, .ref sb), (1, .ref ko), (2, .ref (ρ 0)), (3, .ref o), (4, .int (I i))] []) : tm_V x (tm_H x w) (4 + c9) (411 + s9) 144 [(0, .ref sb), (1, .ref ko), (2, .ref (ρ 0)), (3, .ref o), (4, .int (I i))] [] := by
  obtain ⟨⟨hC, hB⟩, hst, hNc, hX⟩ := hL
  have hl9 := hX.2.2.2
  obtain ⟨hW, Λ1, Λ2, f, κ, th, sf, se, hLW, ⟨hM, hG, hko⟩, hRM⟩ := hS
  have hw := hW.1
  refine tm_aload_n 1 hC dL_law_144 rfl rfl ?_
  refine tm_aload_n 0 hC dL_law_145 rfl rfl ?_
  refine tm_iload 4 hC dL_law_146 rfl ?_
  refine tm_iconst hC dL_law_148 ?_
  refine tm_iadd hC dL_law_149 ?_
  refine tm_sld hC hX (by omega) dL_law_150 ?_
  refine tm_aload_n 0 hC dL_law_151 rfl rfl ?_
  refine tm_iload 4 hC dL_law_152 rfl ?_
  refine tm_iconst hC dL_law_154 ?_
  refine tm_iadd hC dL_law_155 ?_
  refine tm_sld hC hX (by omega) dL_law_156 ?_
  refine tm_aload_n 0 hC dL_law_157 rfl rfl ?_
  refine tm_iload 4 hC dL_law_158 rfl ?_
  refine tm_iconst hC dL_law_160 ?_
  refine tm_iadd hC dL_law_161 ?_
  refine tm_sld hC hX (by omega) dL_law_162 ?_
  refine tm_aload_n 3 hC dL_law_163 rfl rfl ?_
  obtain ⟨hwE, hd1, ok1, ok2, ho1⟩ := LW_c hLW
  rw [hwE]
  refine tm_less (b' := 4 + c9) (n' := 411 + s9) ⟨by omega, by omega⟩ ?_
  have hcn9 := h_addBoard (tm_g x) hst Λ1 (un Λ2 (oW (tm_T x) o f)) hd1 ok1 ok2 κ σ hM hw hW hG o f ho1 (sx xs (i + 1)) (sx xs (i + 2)) (sx xs (i + 3)) ⟨sx_rg xs _, sx_rg xs _, sx_rg xs _⟩
  rw [hko] at hcn9
  refine tm_callSW (b := c9) (n := s9) (rest := []) hC hNc hcn9 ks_L_85 (by rw [hB.2.2.1]; exact ⟨Nat.le_of_ble_eq_true rfl, Nat.le_of_ble_eq_true rfl⟩) rfl rfl (by decide) dL_law_164 (fun v9 w9 z9 => ?_)
  obtain ⟨Λ3, κ9, σ9, k9, r9, g9, hd3, ok3, hwe3, hM9, hG9, hko9, rfl, hk9, hS9, hg9⟩ := z9
  have hLW3 := LW_ch hLW hd3 ok3 hwe3
  show tm_V x (tm_H x w9) c9 s9 167 [(0, .ref (sb)), (1, .ref (ko)), (2, .ref (ρ 0)), (3, .ref (o)), (4, .int (I (i)))] [.int (I (k9))]
  refine tm_istore [(5, .int (I (k9))), (0, .ref (sb)), (1, .ref (ko)), (2, .ref (ρ 0)), (3, .ref (o)), (4, .int (I (i)))] hC dL_law_167 (by rw [hB.2.1]; exact Nat.le_of_ble_eq_true rfl) rfl ?_
  refine tm_aload_n 3 hC dL_law_169 rfl rfl ?_
  refine tm_aload_n 1 hC dL_law_170 rfl rfl ?_
  refine tm_iload 5 hC dL_law_171 rfl ?_
  refine tm_iconst hC dL_law_173 ?_
  refine tm_iadd hC dL_law_174 ?_
  refine tm_sld hC hX (by omega) dL_law_175 ?_
  refine tm_aload_n 1 hC dL_law_176 rfl rfl ?_
  refine tm_iload 5 hC dL_law_177 rfl ?_
  refine tm_iconst hC dL_law_179 ?_
  refine tm_iadd hC dL_law_180 ?_
  refine tm_sld hC hX (by omega) dL_law_181 ?_
  refine tm_aload_n 1 hC dL_law_182 rfl rfl ?_
  refine tm_iload 5 hC dL_law_183 rfl ?_
  refine tm_iconst hC dL_law_185 ?_
  refine tm_iadd hC dL_law_186 ?_
  refine tm_sld hC hX (by omega) dL_law_187 ?_
  obtain ⟨hwE4, hd4, ok4, ok5⟩ := LW_m hLW3
  rw [hwE4]
  refine tm_less (b' := 0 + c9) (n' := 0 + s9) ⟨by omega, by omega⟩ ?_
  refine tm_callV (b := c9) (n := s9) (rest := []) hC (fr_con hd4 ok4 ok5 (c_M_addBoard (tm_g x) hst Λ2 ρ th sf se σ hRM hw (sx xs (i + 1)) (sx xs (i + 2)) (sx xs (i + 3)) ⟨sx_rg xs _, sx_rg xs _, sx_rg xs _⟩)) k_L_90 (by rw [hB.2.2.1]; exact ⟨Nat.le_of_ble_eq_true rfl, Nat.le_of_ble_eq_true rfl⟩) rfl (tm_rec2 hC (un_1 hRM.1) rfl) rfl (by decide) dL_law_188 (fun v8 w8 z8 => ?_)
  obtain ⟨Λ4, ⟨k8, sf8, se8, r8, σ8, hRM8, rfl, hS8⟩, hd8, ok8, hwe8⟩ := z8
  have hLW4 := LW_mm hLW3 hd8 ok8 hwe8
  obtain ⟨hkk9, hTR9, ⟨hW9, htl9⟩, hrr9⟩ : Agr σ k9 k8 σ9 σ8 r9 r8 := U_addBoard hW hS9 hS8
  subst hkk9
  obtain ⟨hMf, hGf⟩ := hTR9 _ _ _ hM9 hG9
  show tm_V x (tm_H x w8) c9 s9 191 [(5, .int (I (k9))), (0, .ref (sb)), (1, .ref (ko)), (2, .ref (ρ 0)), (3, .ref (o)), (4, .int (I (i)))] [.int (I (r8))]
  refine tm_istore [(6, .int (I (r8))), (5, .int (I (k9))), (0, .ref (sb)), (1, .ref (ko)), (2, .ref (ρ 0)), (3, .ref (o)), (4, .int (I (i)))] hC dL_law_191 (by rw [hB.2.1]; exact Nat.le_of_ble_eq_true rfl) rfl ?_
  refine tm_aload_n 4 hC dL_law_193 rfl rfl ?_
  obtain ⟨hwE5, hd5, ok6, ok7⟩ := LW_m hLW4
  rw [hwE5]
  refine tm_less (b' := 0 + c9) (n' := 0 + s9) ⟨by omega, by omega⟩ ?_
  refine tm_callV (b := c9) (n := s9) (rest := []) hC (fr_con hd5 ok6 ok7 (c_M_thrown (tm_g x) hst Λ4 ρ k9 sf8 se8 σ8 hRM8 hW9.1)) k_L_91 (by rw [hB.2.2.1]; exact ⟨Nat.le_of_ble_eq_true rfl, Nat.le_of_ble_eq_true rfl⟩) rfl (tm_rec2 hC (un_1 hRM8.1) rfl) rfl (by decide) dL_law_194 (fun v7 w7 z7 => ?_)
  obtain ⟨Λ5, ⟨rfl, rfl⟩, hd7, ok9, hwe7⟩ := z7
  have hLW5 := LW_mm hLW4 hd7 ok9 hwe7
  obtain ⟨hwE6, hd6, -, -, ho6⟩ := LW_c hLW5
  have hou6 : w7 o = some (.inl (tm_al (tm_T x) 1 g9)) := by rw [hwE6]; exact un_2 hd6 ho6
  show tm_V x (tm_H x w7) c9 s9 197 [(6, .int (I (r8))), (5, .int (I (k9))), (0, .ref (sb)), (1, .ref (ko)), (2, .ref (ρ 0)), (3, .ref (o)), (4, .int (I (i)))] [.int (I (k9))]
  refine tm_iload 1 hC dL_law_197 rfl ?_
  refine tm_icmp_eq 204 hC dL_law_199 (by decide) (by omega) (fun c_1 => ?_) (fun c_1 => ?_)
  · refine tm_iload 1 hC dL_law_204 rfl ?_
    refine tm_if_ne 221 hC dL_law_206 (by decide) (by omega) (fun c_2 => ?_) (fun c_2 => ?_)
    · refine tm_goto 1641 hC dL_law_221 (by decide) ?_
      refine tm_sub (L' := [(0, .ref (sb)), (1, .ref (ko)), (2, .ref (ρ 0)), (3, .ref (o)), (4, .int (I (i)))]) [2, 3, 4, 5, 6] rfl ?_
      exact kk _ σ8 ⟨hW9, Λ3, Λ4, g9, κ9, k9, sf8, se8, hLW5, ⟨hMf, hGf, hko9⟩, hRM8⟩ htl9
    · refine tm_aload_n 5 hC dL_law_209 rfl rfl ?_
      refine tm_iconst hC dL_law_210 ?_
      refine tm_lald2 hC hou6 (by omega) dL_law_211 ?_
      refine tm_iload 0 hC dL_law_212 rfl ?_
      refine tm_i2l hC dL_law_214 ?_
      refine tm_lcmpE (by rw [show r8 = r9 from (hrr9 (by omega)).symm]; exact hg9 (by omega)) hC dL_law_215 ?_
      refine tm_if_eq 221 hC dL_law_216 (by decide) (by omega) (fun _ => ?_) (fun c => absurd (by omega) c)
      refine tm_goto 1641 hC dL_law_221 (by decide) ?_
      refine tm_sub (L' := [(0, .ref (sb)), (1, .ref (ko)), (2, .ref (ρ 0)), (3, .ref (o)), (4, .int (I (i)))]) [2, 3, 4, 5, 6] rfl ?_
      exact kk _ σ8 ⟨hW9, Λ3, Λ4, g9, κ9, k9, sf8, se8, hLW5, ⟨hMf, hGf, hko9⟩, hRM8⟩ htl9
  · omega

set_option maxHeartbeats 4000000 in
set_option maxRecDepth 100000 in
theorem L_addDefect {x : tmX} {sb l : Nat} {xs : Nat → Int32} (hL : LwC x sb l xs) {o ko : Nat} {ρ : Nat → Nat} {i : Int} (hi : 0 ≤ i ∧ i + 7 ≤ l) {w : tmL} {σ : ST} (hS : LwS x o ko ρ w σ) {c9 s9 : Nat} (kk : ∀ w' σ', LwS x o ko ρ w' σ' → s_tl σ' ≤ s_tl σ + 9 → tm_V x (tm_H x w') c9 s9 1641 [(0, .ref sb), (1, .ref ko), (2, .ref (ρ 0)), (3, .ref o), (4, .int (I i))] []) : tm_V x (tm_H x w) (3 + c9) (409 + s9) 224 [(0, .ref sb), (1, .ref ko), (2, .ref (ρ 0)), (3, .ref o), (4, .int (I i))] [] := by
  obtain ⟨⟨hC, hB⟩, hst, hNc, hX⟩ := hL
  have hl9 := hX.2.2.2
  obtain ⟨hW, Λ1, Λ2, f, κ, th, sf, se, hLW, ⟨hM, hG, hko⟩, hRM⟩ := hS
  have hw := hW.1
  refine tm_aload_n 1 hC dL_law_224 rfl rfl ?_
  refine tm_aload_n 0 hC dL_law_225 rfl rfl ?_
  refine tm_iload 4 hC dL_law_226 rfl ?_
  refine tm_iconst hC dL_law_228 ?_
  refine tm_iadd hC dL_law_229 ?_
  refine tm_sld hC hX (by omega) dL_law_230 ?_
  refine tm_aload_n 0 hC dL_law_231 rfl rfl ?_
  refine tm_iload 4 hC dL_law_232 rfl ?_
  refine tm_iconst hC dL_law_234 ?_
  refine tm_iadd hC dL_law_235 ?_
  refine tm_sld hC hX (by omega) dL_law_236 ?_
  refine tm_aload_n 0 hC dL_law_237 rfl rfl ?_
  refine tm_iload 4 hC dL_law_238 rfl ?_
  refine tm_iconst hC dL_law_240 ?_
  refine tm_iadd hC dL_law_241 ?_
  refine tm_sld hC hX (by omega) dL_law_242 ?_
  refine tm_aload_n 0 hC dL_law_243 rfl rfl ?_
  refine tm_iload 4 hC dL_law_244 rfl ?_
  refine tm_iconst hC dL_law_246 ?_
  refine tm_iadd hC dL_law_247 ?_
  refine tm_sld hC hX (by omega) dL_law_248 ?_
  refine tm_aload_n 3 hC dL_law_249 rfl rfl ?_
  obtain ⟨hwE, hd1, ok1, ok2, ho1⟩ := LW_c hLW
  rw [hwE]
  refine tm_less (b' := 3 + c9) (n' := 409 + s9) ⟨by omega, by omega⟩ ?_
  have hcn9 := h_addDefect (tm_g x) hst Λ1 (un Λ2 (oW (tm_T x) o f)) hd1 ok1 ok2 κ σ hM hw hW hG o f ho1 (sx xs (i + 1)) (sx xs (i + 2)) (sx xs (i + 3)) (sx xs (i + 4)) ⟨sx_rg xs _, sx_rg xs _, sx_rg xs _, sx_rg xs _⟩
  rw [hko] at hcn9
  refine tm_callSW (b := c9) (n := s9) (rest := []) hC hNc hcn9 ks_L_94 (by rw [hB.2.2.1]; exact ⟨Nat.le_of_ble_eq_true rfl, Nat.le_of_ble_eq_true rfl⟩) rfl rfl (by decide) dL_law_250 (fun v9 w9 z9 => ?_)
  obtain ⟨Λ3, κ9, σ9, k9, r9, g9, hd3, ok3, hwe3, hM9, hG9, hko9, rfl, hk9, hS9, hg9⟩ := z9
  have hLW3 := LW_ch hLW hd3 ok3 hwe3
  show tm_V x (tm_H x w9) c9 s9 253 [(0, .ref (sb)), (1, .ref (ko)), (2, .ref (ρ 0)), (3, .ref (o)), (4, .int (I (i)))] [.int (I (k9))]
  refine tm_istore [(5, .int (I (k9))), (0, .ref (sb)), (1, .ref (ko)), (2, .ref (ρ 0)), (3, .ref (o)), (4, .int (I (i)))] hC dL_law_253 (by rw [hB.2.1]; exact Nat.le_of_ble_eq_true rfl) rfl ?_
  refine tm_aload_n 3 hC dL_law_255 rfl rfl ?_
  refine tm_aload_n 1 hC dL_law_256 rfl rfl ?_
  refine tm_iload 5 hC dL_law_257 rfl ?_
  refine tm_iconst hC dL_law_259 ?_
  refine tm_iadd hC dL_law_260 ?_
  refine tm_sld hC hX (by omega) dL_law_261 ?_
  refine tm_aload_n 1 hC dL_law_262 rfl rfl ?_
  refine tm_iload 5 hC dL_law_263 rfl ?_
  refine tm_iconst hC dL_law_265 ?_
  refine tm_iadd hC dL_law_266 ?_
  refine tm_sld hC hX (by omega) dL_law_267 ?_
  refine tm_aload_n 1 hC dL_law_268 rfl rfl ?_
  refine tm_iload 5 hC dL_law_269 rfl ?_
  refine tm_iconst hC dL_law_271 ?_
  refine tm_iadd hC dL_law_272 ?_
  refine tm_sld hC hX (by omega) dL_law_273 ?_
  refine tm_aload_n 1 hC dL_law_274 rfl rfl ?_
  refine tm_iload 5 hC dL_law_275 rfl ?_
  refine tm_iconst hC dL_law_277 ?_
  refine tm_iadd hC dL_law_278 ?_
  refine tm_sld hC hX (by omega) dL_law_279 ?_
  obtain ⟨hwE4, hd4, ok4, ok5⟩ := LW_m hLW3
  rw [hwE4]
  refine tm_less (b' := 0 + c9) (n' := 0 + s9) ⟨by omega, by omega⟩ ?_
  refine tm_callV (b := c9) (n := s9) (rest := []) hC (fr_con hd4 ok4 ok5 (c_M_addDefect (tm_g x) hst Λ2 ρ th sf se σ hRM hw (sx xs (i + 1)) (sx xs (i + 2)) (sx xs (i + 3)) (sx xs (i + 4)) ⟨sx_rg xs _, sx_rg xs _, sx_rg xs _, sx_rg xs _⟩)) k_L_97 (by rw [hB.2.2.1]; exact ⟨Nat.le_of_ble_eq_true rfl, Nat.le_of_ble_eq_true rfl⟩) rfl (tm_rec2 hC (un_1 hRM.1) rfl) rfl (by decide) dL_law_280 (fun v8 w8 z8 => ?_)
  obtain ⟨Λ4, ⟨k8, sf8, se8, r8, σ8, hRM8, rfl, hS8⟩, hd8, ok8, hwe8⟩ := z8
  have hLW4 := LW_mm hLW3 hd8 ok8 hwe8
  obtain ⟨hkk9, hTR9, ⟨hW9, htl9⟩, hrr9⟩ : Agr σ k9 k8 σ9 σ8 r9 r8 := U_addDefect hW hS9 hS8
  subst hkk9
  obtain ⟨hMf, hGf⟩ := hTR9 _ _ _ hM9 hG9
  show tm_V x (tm_H x w8) c9 s9 283 [(5, .int (I (k9))), (0, .ref (sb)), (1, .ref (ko)), (2, .ref (ρ 0)), (3, .ref (o)), (4, .int (I (i)))] [.int (I (r8))]
  refine tm_istore [(6, .int (I (r8))), (5, .int (I (k9))), (0, .ref (sb)), (1, .ref (ko)), (2, .ref (ρ 0)), (3, .ref (o)), (4, .int (I (i)))] hC dL_law_283 (by rw [hB.2.1]; exact Nat.le_of_ble_eq_true rfl) rfl ?_
  refine tm_aload_n 4 hC dL_law_285 rfl rfl ?_
  obtain ⟨hwE5, hd5, ok6, ok7⟩ := LW_m hLW4
  rw [hwE5]
  refine tm_less (b' := 0 + c9) (n' := 0 + s9) ⟨by omega, by omega⟩ ?_
  refine tm_callV (b := c9) (n := s9) (rest := []) hC (fr_con hd5 ok6 ok7 (c_M_thrown (tm_g x) hst Λ4 ρ k9 sf8 se8 σ8 hRM8 hW9.1)) k_L_91 (by rw [hB.2.2.1]; exact ⟨Nat.le_of_ble_eq_true rfl, Nat.le_of_ble_eq_true rfl⟩) rfl (tm_rec2 hC (un_1 hRM8.1) rfl) rfl (by decide) dL_law_286 (fun v7 w7 z7 => ?_)
  obtain ⟨Λ5, ⟨rfl, rfl⟩, hd7, ok9, hwe7⟩ := z7
  have hLW5 := LW_mm hLW4 hd7 ok9 hwe7
  obtain ⟨hwE6, hd6, -, -, ho6⟩ := LW_c hLW5
  have hou6 : w7 o = some (.inl (tm_al (tm_T x) 1 g9)) := by rw [hwE6]; exact un_2 hd6 ho6
  show tm_V x (tm_H x w7) c9 s9 289 [(6, .int (I (r8))), (5, .int (I (k9))), (0, .ref (sb)), (1, .ref (ko)), (2, .ref (ρ 0)), (3, .ref (o)), (4, .int (I (i)))] [.int (I (k9))]
  refine tm_iload 1 hC dL_law_289 rfl ?_
  refine tm_icmp_eq 296 hC dL_law_291 (by decide) (by omega) (fun c_1 => ?_) (fun c_1 => ?_)
  · refine tm_iload 1 hC dL_law_296 rfl ?_
    refine tm_if_ne 313 hC dL_law_298 (by decide) (by omega) (fun c_2 => ?_) (fun c_2 => ?_)
    · refine tm_goto 1641 hC dL_law_313 (by decide) ?_
      refine tm_sub (L' := [(0, .ref (sb)), (1, .ref (ko)), (2, .ref (ρ 0)), (3, .ref (o)), (4, .int (I (i)))]) [2, 3, 4, 5, 6] rfl ?_
      exact kk _ σ8 ⟨hW9, Λ3, Λ4, g9, κ9, k9, sf8, se8, hLW5, ⟨hMf, hGf, hko9⟩, hRM8⟩ htl9
    · refine tm_aload_n 5 hC dL_law_301 rfl rfl ?_
      refine tm_iconst hC dL_law_302 ?_
      refine tm_lald2 hC hou6 (by omega) dL_law_303 ?_
      refine tm_iload 0 hC dL_law_304 rfl ?_
      refine tm_i2l hC dL_law_306 ?_
      refine tm_lcmpE (by rw [show r8 = r9 from (hrr9 (by omega)).symm]; exact hg9 (by omega)) hC dL_law_307 ?_
      refine tm_if_eq 313 hC dL_law_308 (by decide) (by omega) (fun _ => ?_) (fun c => absurd (by omega) c)
      refine tm_goto 1641 hC dL_law_313 (by decide) ?_
      refine tm_sub (L' := [(0, .ref (sb)), (1, .ref (ko)), (2, .ref (ρ 0)), (3, .ref (o)), (4, .int (I (i)))]) [2, 3, 4, 5, 6] rfl ?_
      exact kk _ σ8 ⟨hW9, Λ3, Λ4, g9, κ9, k9, sf8, se8, hLW5, ⟨hMf, hGf, hko9⟩, hRM8⟩ htl9
  · omega

set_option maxHeartbeats 4000000 in
set_option maxRecDepth 100000 in
theorem L_addPart {x : tmX} {sb l : Nat} {xs : Nat → Int32} (hL : LwC x sb l xs) {o ko : Nat} {ρ : Nat → Nat} {i : Int} (hi : 0 ≤ i ∧ i + 7 ≤ l) {w : tmL} {σ : ST} (hS : LwS x o ko ρ w σ) {c9 s9 : Nat} (kk : ∀ w' σ', LwS x o ko ρ w' σ' → s_tl σ' ≤ s_tl σ + 9 → tm_V x (tm_H x w') c9 s9 1641 [(0, .ref sb), (1, .ref ko), (2, .ref (ρ 0)), (3, .ref o), (4, .int (I i))] []) : tm_V x (tm_H x w) (3 + c9) (806 + s9) 316 [(0, .ref sb), (1, .ref ko), (2, .ref (ρ 0)), (3, .ref o), (4, .int (I i))] [] := by
  obtain ⟨⟨hC, hB⟩, hst, hNc, hX⟩ := hL
  have hl9 := hX.2.2.2
  obtain ⟨hW, Λ1, Λ2, f, κ, th, sf, se, hLW, ⟨hM, hG, hko⟩, hRM⟩ := hS
  have hw := hW.1
  refine tm_aload_n 1 hC dL_law_316 rfl rfl ?_
  refine tm_aload_n 0 hC dL_law_317 rfl rfl ?_
  refine tm_iload 4 hC dL_law_318 rfl ?_
  refine tm_iconst hC dL_law_320 ?_
  refine tm_iadd hC dL_law_321 ?_
  refine tm_sld hC hX (by omega) dL_law_322 ?_
  refine tm_aload_n 0 hC dL_law_323 rfl rfl ?_
  refine tm_iload 4 hC dL_law_324 rfl ?_
  refine tm_iconst hC dL_law_326 ?_
  refine tm_iadd hC dL_law_327 ?_
  refine tm_sld hC hX (by omega) dL_law_328 ?_
  refine tm_aload_n 0 hC dL_law_329 rfl rfl ?_
  refine tm_iload 4 hC dL_law_330 rfl ?_
  refine tm_iconst hC dL_law_332 ?_
  refine tm_iadd hC dL_law_333 ?_
  refine tm_sld hC hX (by omega) dL_law_334 ?_
  refine tm_aload_n 0 hC dL_law_335 rfl rfl ?_
  refine tm_iload 4 hC dL_law_336 rfl ?_
  refine tm_iconst hC dL_law_338 ?_
  refine tm_iadd hC dL_law_339 ?_
  refine tm_sld hC hX (by omega) dL_law_340 ?_
  refine tm_aload_n 0 hC dL_law_341 rfl rfl ?_
  refine tm_iload 4 hC dL_law_342 rfl ?_
  refine tm_iconst hC dL_law_344 ?_
  refine tm_iadd hC dL_law_345 ?_
  refine tm_sld hC hX (by omega) dL_law_346 ?_
  refine tm_if_eq 354 hC dL_law_347 (by decide) (sx_rg xs _) (fun c_1 => ?_) (fun c_1 => ?_)
  · refine tm_iconst hC dL_law_354 ?_
    refine tm_aload_n 3 hC dL_law_355 rfl rfl ?_
    obtain ⟨hwE, hd1, ok1, ok2, ho1⟩ := LW_c hLW
    rw [hwE]
    refine tm_less (b' := 3 + c9) (n' := 806 + s9) ⟨by omega, by omega⟩ ?_
    have hcn9 := h_addPart (tm_g x) hst Λ1 (un Λ2 (oW (tm_T x) o f)) hd1 ok1 ok2 κ σ hM hw hW hG o f ho1 (sx xs (i + 1)) (sx xs (i + 2)) (sx xs (i + 3)) (sx xs (i + 4)) 0 ⟨⟨sx_rg xs _, sx_rg xs _, sx_rg xs _, sx_rg xs _⟩, Or.inl rfl⟩
    rw [hko] at hcn9
    refine tm_callSW (b := c9) (n := s9) (rest := []) hC hNc hcn9 ks_L_98 (by rw [hB.2.2.1]; exact ⟨Nat.le_of_ble_eq_true rfl, Nat.le_of_ble_eq_true rfl⟩) rfl rfl (by decide) dL_law_356 (fun v9 w9 z9 => ?_)
    obtain ⟨Λ3, κ9, σ9, k9, r9, g9, hd3, ok3, hwe3, hM9, hG9, hko9, rfl, hk9, hS9, hg9⟩ := z9
    have hLW3 := LW_ch hLW hd3 ok3 hwe3
    show tm_V x (tm_H x w9) c9 s9 359 [(0, .ref (sb)), (1, .ref (ko)), (2, .ref (ρ 0)), (3, .ref (o)), (4, .int (I (i)))] [.int (I (k9))]
    refine tm_istore [(5, .int (I (k9))), (0, .ref (sb)), (1, .ref (ko)), (2, .ref (ρ 0)), (3, .ref (o)), (4, .int (I (i)))] hC dL_law_359 (by rw [hB.2.1]; exact Nat.le_of_ble_eq_true rfl) rfl ?_
    refine tm_aload_n 3 hC dL_law_361 rfl rfl ?_
    refine tm_aload_n 1 hC dL_law_362 rfl rfl ?_
    refine tm_iload 5 hC dL_law_363 rfl ?_
    refine tm_iconst hC dL_law_365 ?_
    refine tm_iadd hC dL_law_366 ?_
    refine tm_sld hC hX (by omega) dL_law_367 ?_
    refine tm_aload_n 1 hC dL_law_368 rfl rfl ?_
    refine tm_iload 5 hC dL_law_369 rfl ?_
    refine tm_iconst hC dL_law_371 ?_
    refine tm_iadd hC dL_law_372 ?_
    refine tm_sld hC hX (by omega) dL_law_373 ?_
    refine tm_aload_n 1 hC dL_law_374 rfl rfl ?_
    refine tm_iload 5 hC dL_law_375 rfl ?_
    refine tm_iconst hC dL_law_377 ?_
    refine tm_iadd hC dL_law_378 ?_
    refine tm_sld hC hX (by omega) dL_law_379 ?_
    refine tm_aload_n 1 hC dL_law_380 rfl rfl ?_
    refine tm_iload 5 hC dL_law_381 rfl ?_
    refine tm_iconst hC dL_law_383 ?_
    refine tm_iadd hC dL_law_384 ?_
    refine tm_sld hC hX (by omega) dL_law_385 ?_
    refine tm_aload_n 1 hC dL_law_386 rfl rfl ?_
    refine tm_iload 5 hC dL_law_387 rfl ?_
    refine tm_iconst hC dL_law_389 ?_
    refine tm_iadd hC dL_law_390 ?_
    refine tm_sld hC hX (by omega) dL_law_391 ?_
    refine tm_if_eq 399 hC dL_law_392 (by decide) (sx_rg xs _) (fun c_2 => ?_) (fun c_2 => ?_)
    · refine tm_iconst hC dL_law_399 ?_
      obtain ⟨hwE4, hd4, ok4, ok5⟩ := LW_m hLW3
      rw [hwE4]
      refine tm_less (b' := 0 + c9) (n' := 0 + s9) ⟨by omega, by omega⟩ ?_
      refine tm_callV (b := c9) (n := s9) (rest := []) hC (fr_con hd4 ok4 ok5 (c_M_addPart (tm_g x) hst Λ2 ρ th sf se σ hRM hw (sx xs (i + 1)) (sx xs (i + 2)) (sx xs (i + 3)) (sx xs (i + 4)) 0 ⟨⟨sx_rg xs _, sx_rg xs _, sx_rg xs _, sx_rg xs _⟩, Or.inl rfl⟩)) k_L_101 (by rw [hB.2.2.1]; exact ⟨Nat.le_of_ble_eq_true rfl, Nat.le_of_ble_eq_true rfl⟩) rfl (tm_rec2 hC (un_1 hRM.1) rfl) rfl (by decide) dL_law_400 (fun v8 w8 z8 => ?_)
      obtain ⟨Λ4, ⟨k8, sf8, se8, r8, σ8, hRM8, rfl, hS8⟩, hd8, ok8, hwe8⟩ := z8
      have hLW4 := LW_mm hLW3 hd8 ok8 hwe8
      obtain ⟨hkk9, hTR9, ⟨hW9, htl9⟩, hrr9⟩ : Agr σ k9 k8 σ9 σ8 r9 r8 := U_addPart hW (Or.inl rfl) hS9 hS8
      subst hkk9
      obtain ⟨hMf, hGf⟩ := hTR9 _ _ _ hM9 hG9
      show tm_V x (tm_H x w8) c9 s9 403 [(5, .int (I (k9))), (0, .ref (sb)), (1, .ref (ko)), (2, .ref (ρ 0)), (3, .ref (o)), (4, .int (I (i)))] [.int (I (r8))]
      refine tm_istore [(6, .int (I (r8))), (5, .int (I (k9))), (0, .ref (sb)), (1, .ref (ko)), (2, .ref (ρ 0)), (3, .ref (o)), (4, .int (I (i)))] hC dL_law_403 (by rw [hB.2.1]; exact Nat.le_of_ble_eq_true rfl) rfl ?_
      refine tm_aload_n 4 hC dL_law_405 rfl rfl ?_
      obtain ⟨hwE5, hd5, ok6, ok7⟩ := LW_m hLW4
      rw [hwE5]
      refine tm_less (b' := 0 + c9) (n' := 0 + s9) ⟨by omega, by omega⟩ ?_
      refine tm_callV (b := c9) (n := s9) (rest := []) hC (fr_con hd5 ok6 ok7 (c_M_thrown (tm_g x) hst Λ4 ρ k9 sf8 se8 σ8 hRM8 hW9.1)) k_L_91 (by rw [hB.2.2.1]; exact ⟨Nat.le_of_ble_eq_true rfl, Nat.le_of_ble_eq_true rfl⟩) rfl (tm_rec2 hC (un_1 hRM8.1) rfl) rfl (by decide) dL_law_406 (fun v7 w7 z7 => ?_)
      obtain ⟨Λ5, ⟨rfl, rfl⟩, hd7, ok9, hwe7⟩ := z7
      have hLW5 := LW_mm hLW4 hd7 ok9 hwe7
      obtain ⟨hwE6, hd6, -, -, ho6⟩ := LW_c hLW5
      have hou6 : w7 o = some (.inl (tm_al (tm_T x) 1 g9)) := by rw [hwE6]; exact un_2 hd6 ho6
      show tm_V x (tm_H x w7) c9 s9 409 [(6, .int (I (r8))), (5, .int (I (k9))), (0, .ref (sb)), (1, .ref (ko)), (2, .ref (ρ 0)), (3, .ref (o)), (4, .int (I (i)))] [.int (I (k9))]
      refine tm_iload 1 hC dL_law_409 rfl ?_
      refine tm_icmp_eq 416 hC dL_law_411 (by decide) (by omega) (fun c_3 => ?_) (fun c_3 => ?_)
      · refine tm_iload 1 hC dL_law_416 rfl ?_
        refine tm_if_ne 433 hC dL_law_418 (by decide) (by omega) (fun c_4 => ?_) (fun c_4 => ?_)
        · refine tm_goto 1641 hC dL_law_433 (by decide) ?_
          refine tm_sub (L' := [(0, .ref (sb)), (1, .ref (ko)), (2, .ref (ρ 0)), (3, .ref (o)), (4, .int (I (i)))]) [2, 3, 4, 5, 6] rfl ?_
          exact kk _ σ8 ⟨hW9, Λ3, Λ4, g9, κ9, k9, sf8, se8, hLW5, ⟨hMf, hGf, hko9⟩, hRM8⟩ htl9
        · refine tm_aload_n 5 hC dL_law_421 rfl rfl ?_
          refine tm_iconst hC dL_law_422 ?_
          refine tm_lald2 hC hou6 (by omega) dL_law_423 ?_
          refine tm_iload 0 hC dL_law_424 rfl ?_
          refine tm_i2l hC dL_law_426 ?_
          refine tm_lcmpE (by rw [show r8 = r9 from (hrr9 (by omega)).symm]; exact hg9 (by omega)) hC dL_law_427 ?_
          refine tm_if_eq 433 hC dL_law_428 (by decide) (by omega) (fun _ => ?_) (fun c => absurd (by omega) c)
          refine tm_goto 1641 hC dL_law_433 (by decide) ?_
          refine tm_sub (L' := [(0, .ref (sb)), (1, .ref (ko)), (2, .ref (ρ 0)), (3, .ref (o)), (4, .int (I (i)))]) [2, 3, 4, 5, 6] rfl ?_
          exact kk _ σ8 ⟨hW9, Λ3, Λ4, g9, κ9, k9, sf8, se8, hLW5, ⟨hMf, hGf, hko9⟩, hRM8⟩ htl9
      · omega
    · omega
  · refine tm_iconst hC dL_law_350 ?_
    refine tm_goto 355 hC dL_law_351 (by decide) ?_
    refine tm_aload_n 3 hC dL_law_355 rfl rfl ?_
    obtain ⟨hwE, hd1, ok1, ok2, ho1⟩ := LW_c hLW
    rw [hwE]
    refine tm_less (b' := 3 + c9) (n' := 806 + s9) ⟨by omega, by omega⟩ ?_
    have hcn9 := h_addPart (tm_g x) hst Λ1 (un Λ2 (oW (tm_T x) o f)) hd1 ok1 ok2 κ σ hM hw hW hG o f ho1 (sx xs (i + 1)) (sx xs (i + 2)) (sx xs (i + 3)) (sx xs (i + 4)) 1 ⟨⟨sx_rg xs _, sx_rg xs _, sx_rg xs _, sx_rg xs _⟩, Or.inr rfl⟩
    rw [hko] at hcn9
    refine tm_callSW (b := c9) (n := s9) (rest := []) hC hNc hcn9 ks_L_98 (by rw [hB.2.2.1]; exact ⟨Nat.le_of_ble_eq_true rfl, Nat.le_of_ble_eq_true rfl⟩) rfl rfl (by decide) dL_law_356 (fun v9 w9 z9 => ?_)
    obtain ⟨Λ3, κ9, σ9, k9, r9, g9, hd3, ok3, hwe3, hM9, hG9, hko9, rfl, hk9, hS9, hg9⟩ := z9
    have hLW3 := LW_ch hLW hd3 ok3 hwe3
    show tm_V x (tm_H x w9) c9 s9 359 [(0, .ref (sb)), (1, .ref (ko)), (2, .ref (ρ 0)), (3, .ref (o)), (4, .int (I (i)))] [.int (I (k9))]
    refine tm_istore [(5, .int (I (k9))), (0, .ref (sb)), (1, .ref (ko)), (2, .ref (ρ 0)), (3, .ref (o)), (4, .int (I (i)))] hC dL_law_359 (by rw [hB.2.1]; exact Nat.le_of_ble_eq_true rfl) rfl ?_
    refine tm_aload_n 3 hC dL_law_361 rfl rfl ?_
    refine tm_aload_n 1 hC dL_law_362 rfl rfl ?_
    refine tm_iload 5 hC dL_law_363 rfl ?_
    refine tm_iconst hC dL_law_365 ?_
    refine tm_iadd hC dL_law_366 ?_
    refine tm_sld hC hX (by omega) dL_law_367 ?_
    refine tm_aload_n 1 hC dL_law_368 rfl rfl ?_
    refine tm_iload 5 hC dL_law_369 rfl ?_
    refine tm_iconst hC dL_law_371 ?_
    refine tm_iadd hC dL_law_372 ?_
    refine tm_sld hC hX (by omega) dL_law_373 ?_
    refine tm_aload_n 1 hC dL_law_374 rfl rfl ?_
    refine tm_iload 5 hC dL_law_375 rfl ?_
    refine tm_iconst hC dL_law_377 ?_
    refine tm_iadd hC dL_law_378 ?_
    refine tm_sld hC hX (by omega) dL_law_379 ?_
    refine tm_aload_n 1 hC dL_law_380 rfl rfl ?_
    refine tm_iload 5 hC dL_law_381 rfl ?_
    refine tm_iconst hC dL_law_383 ?_
    refine tm_iadd hC dL_law_384 ?_
    refine tm_sld hC hX (by omega) dL_law_385 ?_
    refine tm_aload_n 1 hC dL_law_386 rfl rfl ?_
    refine tm_iload 5 hC dL_law_387 rfl ?_
    refine tm_iconst hC dL_law_389 ?_
    refine tm_iadd hC dL_law_390 ?_
    refine tm_sld hC hX (by omega) dL_law_391 ?_
    refine tm_if_eq 399 hC dL_law_392 (by decide) (sx_rg xs _) (fun c_6 => ?_) (fun c_6 => ?_)
    · omega
    · refine tm_iconst hC dL_law_395 ?_
      refine tm_goto 400 hC dL_law_396 (by decide) ?_
      obtain ⟨hwE4, hd4, ok4, ok5⟩ := LW_m hLW3
      rw [hwE4]
      refine tm_less (b' := 0 + c9) (n' := 0 + s9) ⟨by omega, by omega⟩ ?_
      refine tm_callV (b := c9) (n := s9) (rest := []) hC (fr_con hd4 ok4 ok5 (c_M_addPart (tm_g x) hst Λ2 ρ th sf se σ hRM hw (sx xs (i + 1)) (sx xs (i + 2)) (sx xs (i + 3)) (sx xs (i + 4)) 1 ⟨⟨sx_rg xs _, sx_rg xs _, sx_rg xs _, sx_rg xs _⟩, Or.inr rfl⟩)) k_L_101 (by rw [hB.2.2.1]; exact ⟨Nat.le_of_ble_eq_true rfl, Nat.le_of_ble_eq_true rfl⟩) rfl (tm_rec2 hC (un_1 hRM.1) rfl) rfl (by decide) dL_law_400 (fun v8 w8 z8 => ?_)
      obtain ⟨Λ4, ⟨k8, sf8, se8, r8, σ8, hRM8, rfl, hS8⟩, hd8, ok8, hwe8⟩ := z8
      have hLW4 := LW_mm hLW3 hd8 ok8 hwe8
      obtain ⟨hkk9, hTR9, ⟨hW9, htl9⟩, hrr9⟩ : Agr σ k9 k8 σ9 σ8 r9 r8 := U_addPart hW (Or.inr rfl) hS9 hS8
      subst hkk9
      obtain ⟨hMf, hGf⟩ := hTR9 _ _ _ hM9 hG9
      show tm_V x (tm_H x w8) c9 s9 403 [(5, .int (I (k9))), (0, .ref (sb)), (1, .ref (ko)), (2, .ref (ρ 0)), (3, .ref (o)), (4, .int (I (i)))] [.int (I (r8))]
      refine tm_istore [(6, .int (I (r8))), (5, .int (I (k9))), (0, .ref (sb)), (1, .ref (ko)), (2, .ref (ρ 0)), (3, .ref (o)), (4, .int (I (i)))] hC dL_law_403 (by rw [hB.2.1]; exact Nat.le_of_ble_eq_true rfl) rfl ?_
      refine tm_aload_n 4 hC dL_law_405 rfl rfl ?_
      obtain ⟨hwE5, hd5, ok6, ok7⟩ := LW_m hLW4
      rw [hwE5]
      refine tm_less (b' := 0 + c9) (n' := 0 + s9) ⟨by omega, by omega⟩ ?_
      refine tm_callV (b := c9) (n := s9) (rest := []) hC (fr_con hd5 ok6 ok7 (c_M_thrown (tm_g x) hst Λ4 ρ k9 sf8 se8 σ8 hRM8 hW9.1)) k_L_91 (by rw [hB.2.2.1]; exact ⟨Nat.le_of_ble_eq_true rfl, Nat.le_of_ble_eq_true rfl⟩) rfl (tm_rec2 hC (un_1 hRM8.1) rfl) rfl (by decide) dL_law_406 (fun v7 w7 z7 => ?_)
      obtain ⟨Λ5, ⟨rfl, rfl⟩, hd7, ok9, hwe7⟩ := z7
      have hLW5 := LW_mm hLW4 hd7 ok9 hwe7
      obtain ⟨hwE6, hd6, -, -, ho6⟩ := LW_c hLW5
      have hou6 : w7 o = some (.inl (tm_al (tm_T x) 1 g9)) := by rw [hwE6]; exact un_2 hd6 ho6
      show tm_V x (tm_H x w7) c9 s9 409 [(6, .int (I (r8))), (5, .int (I (k9))), (0, .ref (sb)), (1, .ref (ko)), (2, .ref (ρ 0)), (3, .ref (o)), (4, .int (I (i)))] [.int (I (k9))]
      refine tm_iload 1 hC dL_law_409 rfl ?_
      refine tm_icmp_eq 416 hC dL_law_411 (by decide) (by omega) (fun c_7 => ?_) (fun c_7 => ?_)
      · refine tm_iload 1 hC dL_law_416 rfl ?_
        refine tm_if_ne 433 hC dL_law_418 (by decide) (by omega) (fun c_8 => ?_) (fun c_8 => ?_)
        · refine tm_goto 1641 hC dL_law_433 (by decide) ?_
          refine tm_sub (L' := [(0, .ref (sb)), (1, .ref (ko)), (2, .ref (ρ 0)), (3, .ref (o)), (4, .int (I (i)))]) [2, 3, 4, 5, 6] rfl ?_
          exact kk _ σ8 ⟨hW9, Λ3, Λ4, g9, κ9, k9, sf8, se8, hLW5, ⟨hMf, hGf, hko9⟩, hRM8⟩ htl9
        · refine tm_aload_n 5 hC dL_law_421 rfl rfl ?_
          refine tm_iconst hC dL_law_422 ?_
          refine tm_lald2 hC hou6 (by omega) dL_law_423 ?_
          refine tm_iload 0 hC dL_law_424 rfl ?_
          refine tm_i2l hC dL_law_426 ?_
          refine tm_lcmpE (by rw [show r8 = r9 from (hrr9 (by omega)).symm]; exact hg9 (by omega)) hC dL_law_427 ?_
          refine tm_if_eq 433 hC dL_law_428 (by decide) (by omega) (fun _ => ?_) (fun c => absurd (by omega) c)
          refine tm_goto 1641 hC dL_law_433 (by decide) ?_
          refine tm_sub (L' := [(0, .ref (sb)), (1, .ref (ko)), (2, .ref (ρ 0)), (3, .ref (o)), (4, .int (I (i)))]) [2, 3, 4, 5, 6] rfl ?_
          exact kk _ σ8 ⟨hW9, Λ3, Λ4, g9, κ9, k9, sf8, se8, hLW5, ⟨hMf, hGf, hko9⟩, hRM8⟩ htl9
      · omega

set_option maxHeartbeats 4000000 in
set_option maxRecDepth 100000 in
theorem L_setSaw {x : tmX} {sb l : Nat} {xs : Nat → Int32} (hL : LwC x sb l xs) {o ko : Nat} {ρ : Nat → Nat} {i : Int} (hi : 0 ≤ i ∧ i + 7 ≤ l) {w : tmL} {σ : ST} (hS : LwS x o ko ρ w σ) {c9 s9 : Nat} (kk : ∀ w' σ', LwS x o ko ρ w' σ' → s_tl σ' ≤ s_tl σ + 9 → tm_V x (tm_H x w') c9 s9 1641 [(0, .ref sb), (1, .ref ko), (2, .ref (ρ 0)), (3, .ref o), (4, .int (I i))] []) : tm_V x (tm_H x w) (2 + c9) (12 + s9) 436 [(0, .ref sb), (1, .ref ko), (2, .ref (ρ 0)), (3, .ref o), (4, .int (I i))] [] := by
  obtain ⟨⟨hC, hB⟩, hst, hNc, hX⟩ := hL
  have hl9 := hX.2.2.2
  obtain ⟨hW, Λ1, Λ2, f, κ, th, sf, se, hLW, ⟨hM, hG, hko⟩, hRM⟩ := hS
  have hw := hW.1
  refine tm_aload_n 1 hC dL_law_436 rfl rfl ?_
  refine tm_aload_n 0 hC dL_law_437 rfl rfl ?_
  refine tm_iload 4 hC dL_law_438 rfl ?_
  refine tm_iconst hC dL_law_440 ?_
  refine tm_iadd hC dL_law_441 ?_
  refine tm_sld hC hX (by omega) dL_law_442 ?_
  refine tm_aload_n 3 hC dL_law_443 rfl rfl ?_
  obtain ⟨hwE, hd1, ok1, ok2, ho1⟩ := LW_c hLW
  rw [hwE]
  refine tm_less (b' := 2 + c9) (n' := 12 + s9) ⟨by omega, by omega⟩ ?_
  have hcn9 := h_setSaw (tm_g x) hst Λ1 (un Λ2 (oW (tm_T x) o f)) hd1 ok1 ok2 κ σ hM hw hW hG o f ho1 (sx xs (i + 1)) (sx_rg xs _)
  rw [hko] at hcn9
  refine tm_callSW (b := c9) (n := s9) (rest := []) hC hNc hcn9 ks_L_102 (by rw [hB.2.2.1]; exact ⟨Nat.le_of_ble_eq_true rfl, Nat.le_of_ble_eq_true rfl⟩) rfl rfl (by decide) dL_law_444 (fun v9 w9 z9 => ?_)
  obtain ⟨Λ3, κ9, σ9, k9, r9, g9, hd3, ok3, hwe3, hM9, hG9, hko9, rfl, hk9, hS9, hg9⟩ := z9
  have hLW3 := LW_ch hLW hd3 ok3 hwe3
  show tm_V x (tm_H x w9) c9 s9 447 [(0, .ref (sb)), (1, .ref (ko)), (2, .ref (ρ 0)), (3, .ref (o)), (4, .int (I (i)))] [.int (I (k9))]
  refine tm_istore [(5, .int (I (k9))), (0, .ref (sb)), (1, .ref (ko)), (2, .ref (ρ 0)), (3, .ref (o)), (4, .int (I (i)))] hC dL_law_447 (by rw [hB.2.1]; exact Nat.le_of_ble_eq_true rfl) rfl ?_
  refine tm_aload_n 3 hC dL_law_449 rfl rfl ?_
  refine tm_aload_n 1 hC dL_law_450 rfl rfl ?_
  refine tm_iload 5 hC dL_law_451 rfl ?_
  refine tm_iconst hC dL_law_453 ?_
  refine tm_iadd hC dL_law_454 ?_
  refine tm_sld hC hX (by omega) dL_law_455 ?_
  obtain ⟨hwE4, hd4, ok4, ok5⟩ := LW_m hLW3
  rw [hwE4]
  refine tm_less (b' := 0 + c9) (n' := 0 + s9) ⟨by omega, by omega⟩ ?_
  refine tm_callV (b := c9) (n := s9) (rest := []) hC (fr_con hd4 ok4 ok5 (c_M_setSaw (tm_g x) hst Λ2 ρ th sf se σ hRM hw (sx xs (i + 1)) (sx_rg xs _))) k_L_105 (by rw [hB.2.2.1]; exact ⟨Nat.le_of_ble_eq_true rfl, Nat.le_of_ble_eq_true rfl⟩) rfl (tm_rec2 hC (un_1 hRM.1) rfl) rfl (by decide) dL_law_456 (fun v8 w8 z8 => ?_)
  obtain ⟨Λ4, ⟨k8, sf8, se8, r8, σ8, hRM8, rfl, hS8⟩, hd8, ok8, hwe8⟩ := z8
  have hLW4 := LW_mm hLW3 hd8 ok8 hwe8
  obtain ⟨hkk9, hTR9, ⟨hW9, htl9⟩, hrr9⟩ : Agr σ k9 k8 σ9 σ8 r9 r8 := U_setSaw hW hS9 hS8
  subst hkk9
  obtain ⟨hMf, hGf⟩ := hTR9 _ _ _ hM9 hG9
  show tm_V x (tm_H x w8) c9 s9 459 [(5, .int (I (k9))), (0, .ref (sb)), (1, .ref (ko)), (2, .ref (ρ 0)), (3, .ref (o)), (4, .int (I (i)))] [.int (I (r8))]
  refine tm_istore [(6, .int (I (r8))), (5, .int (I (k9))), (0, .ref (sb)), (1, .ref (ko)), (2, .ref (ρ 0)), (3, .ref (o)), (4, .int (I (i)))] hC dL_law_459 (by rw [hB.2.1]; exact Nat.le_of_ble_eq_true rfl) rfl ?_
  refine tm_aload_n 4 hC dL_law_461 rfl rfl ?_
  obtain ⟨hwE5, hd5, ok6, ok7⟩ := LW_m hLW4
  rw [hwE5]
  refine tm_less (b' := 0 + c9) (n' := 0 + s9) ⟨by omega, by omega⟩ ?_
  refine tm_callV (b := c9) (n := s9) (rest := []) hC (fr_con hd5 ok6 ok7 (c_M_thrown (tm_g x) hst Λ4 ρ k9 sf8 se8 σ8 hRM8 hW9.1)) k_L_91 (by rw [hB.2.2.1]; exact ⟨Nat.le_of_ble_eq_true rfl, Nat.le_of_ble_eq_true rfl⟩) rfl (tm_rec2 hC (un_1 hRM8.1) rfl) rfl (by decide) dL_law_462 (fun v7 w7 z7 => ?_)
  obtain ⟨Λ5, ⟨rfl, rfl⟩, hd7, ok9, hwe7⟩ := z7
  have hLW5 := LW_mm hLW4 hd7 ok9 hwe7
  obtain ⟨hwE6, hd6, -, -, ho6⟩ := LW_c hLW5
  have hou6 : w7 o = some (.inl (tm_al (tm_T x) 1 g9)) := by rw [hwE6]; exact un_2 hd6 ho6
  show tm_V x (tm_H x w7) c9 s9 465 [(6, .int (I (r8))), (5, .int (I (k9))), (0, .ref (sb)), (1, .ref (ko)), (2, .ref (ρ 0)), (3, .ref (o)), (4, .int (I (i)))] [.int (I (k9))]
  refine tm_iload 1 hC dL_law_465 rfl ?_
  refine tm_icmp_eq 472 hC dL_law_467 (by decide) (by omega) (fun c_1 => ?_) (fun c_1 => ?_)
  · refine tm_iload 1 hC dL_law_472 rfl ?_
    refine tm_if_ne 489 hC dL_law_474 (by decide) (by omega) (fun c_2 => ?_) (fun c_2 => ?_)
    · refine tm_goto 1641 hC dL_law_489 (by decide) ?_
      refine tm_sub (L' := [(0, .ref (sb)), (1, .ref (ko)), (2, .ref (ρ 0)), (3, .ref (o)), (4, .int (I (i)))]) [2, 3, 4, 5, 6] rfl ?_
      exact kk _ σ8 ⟨hW9, Λ3, Λ4, g9, κ9, k9, sf8, se8, hLW5, ⟨hMf, hGf, hko9⟩, hRM8⟩ htl9
    · refine tm_aload_n 5 hC dL_law_477 rfl rfl ?_
      refine tm_iconst hC dL_law_478 ?_
      refine tm_lald2 hC hou6 (by omega) dL_law_479 ?_
      refine tm_iload 0 hC dL_law_480 rfl ?_
      refine tm_i2l hC dL_law_482 ?_
      refine tm_lcmpE (by rw [show r8 = r9 from (hrr9 (by omega)).symm]; exact hg9 (by omega)) hC dL_law_483 ?_
      refine tm_if_eq 489 hC dL_law_484 (by decide) (by omega) (fun _ => ?_) (fun c => absurd (by omega) c)
      refine tm_goto 1641 hC dL_law_489 (by decide) ?_
      refine tm_sub (L' := [(0, .ref (sb)), (1, .ref (ko)), (2, .ref (ρ 0)), (3, .ref (o)), (4, .int (I (i)))]) [2, 3, 4, 5, 6] rfl ?_
      exact kk _ σ8 ⟨hW9, Λ3, Λ4, g9, κ9, k9, sf8, se8, hLW5, ⟨hMf, hGf, hko9⟩, hRM8⟩ htl9
  · omega

set_option maxHeartbeats 4000000 in
set_option maxRecDepth 100000 in
theorem L_setJoint {x : tmX} {sb l : Nat} {xs : Nat → Int32} (hL : LwC x sb l xs) {o ko : Nat} {ρ : Nat → Nat} {i : Int} (hi : 0 ≤ i ∧ i + 7 ≤ l) {w : tmL} {σ : ST} (hS : LwS x o ko ρ w σ) {c9 s9 : Nat} (kk : ∀ w' σ', LwS x o ko ρ w' σ' → s_tl σ' ≤ s_tl σ + 9 → tm_V x (tm_H x w') c9 s9 1641 [(0, .ref sb), (1, .ref ko), (2, .ref (ρ 0)), (3, .ref o), (4, .int (I i))] []) : tm_V x (tm_H x w) (1 + c9) (6 + s9) 492 [(0, .ref sb), (1, .ref ko), (2, .ref (ρ 0)), (3, .ref o), (4, .int (I i))] [] := by
  obtain ⟨⟨hC, hB⟩, hst, hNc, hX⟩ := hL
  have hl9 := hX.2.2.2
  obtain ⟨hW, Λ1, Λ2, f, κ, th, sf, se, hLW, ⟨hM, hG, hko⟩, hRM⟩ := hS
  have hw := hW.1
  refine tm_aload_n 1 hC dL_law_492 rfl rfl ?_
  refine tm_aload_n 0 hC dL_law_493 rfl rfl ?_
  refine tm_iload 4 hC dL_law_494 rfl ?_
  refine tm_iconst hC dL_law_496 ?_
  refine tm_iadd hC dL_law_497 ?_
  refine tm_sld hC hX (by omega) dL_law_498 ?_
  refine tm_aload_n 3 hC dL_law_499 rfl rfl ?_
  obtain ⟨hwE, hd1, ok1, ok2, ho1⟩ := LW_c hLW
  rw [hwE]
  refine tm_less (b' := 1 + c9) (n' := 6 + s9) ⟨by omega, by omega⟩ ?_
  have hcn9 := h_setJoint (tm_g x) hst Λ1 (un Λ2 (oW (tm_T x) o f)) hd1 ok1 ok2 κ σ hM hw hW hG o f ho1 (sx xs (i + 1)) (sx_rg xs _)
  rw [hko] at hcn9
  refine tm_callSW (b := c9) (n := s9) (rest := []) hC hNc hcn9 ks_L_106 (by rw [hB.2.2.1]; exact ⟨Nat.le_of_ble_eq_true rfl, Nat.le_of_ble_eq_true rfl⟩) rfl rfl (by decide) dL_law_500 (fun v9 w9 z9 => ?_)
  obtain ⟨Λ3, κ9, σ9, k9, r9, g9, hd3, ok3, hwe3, hM9, hG9, hko9, rfl, hk9, hS9, hg9⟩ := z9
  have hLW3 := LW_ch hLW hd3 ok3 hwe3
  show tm_V x (tm_H x w9) c9 s9 503 [(0, .ref (sb)), (1, .ref (ko)), (2, .ref (ρ 0)), (3, .ref (o)), (4, .int (I (i)))] [.int (I (k9))]
  refine tm_istore [(5, .int (I (k9))), (0, .ref (sb)), (1, .ref (ko)), (2, .ref (ρ 0)), (3, .ref (o)), (4, .int (I (i)))] hC dL_law_503 (by rw [hB.2.1]; exact Nat.le_of_ble_eq_true rfl) rfl ?_
  refine tm_aload_n 3 hC dL_law_505 rfl rfl ?_
  refine tm_aload_n 1 hC dL_law_506 rfl rfl ?_
  refine tm_iload 5 hC dL_law_507 rfl ?_
  refine tm_iconst hC dL_law_509 ?_
  refine tm_iadd hC dL_law_510 ?_
  refine tm_sld hC hX (by omega) dL_law_511 ?_
  obtain ⟨hwE4, hd4, ok4, ok5⟩ := LW_m hLW3
  rw [hwE4]
  refine tm_less (b' := 0 + c9) (n' := 0 + s9) ⟨by omega, by omega⟩ ?_
  refine tm_callV (b := c9) (n := s9) (rest := []) hC (fr_con hd4 ok4 ok5 (c_M_setJoint (tm_g x) hst Λ2 ρ th sf se σ hRM hw (sx xs (i + 1)) (sx_rg xs _))) k_L_108 (by rw [hB.2.2.1]; exact ⟨Nat.le_of_ble_eq_true rfl, Nat.le_of_ble_eq_true rfl⟩) rfl (tm_rec2 hC (un_1 hRM.1) rfl) rfl (by decide) dL_law_512 (fun v8 w8 z8 => ?_)
  obtain ⟨Λ4, ⟨k8, sf8, se8, r8, σ8, hRM8, rfl, hS8⟩, hd8, ok8, hwe8⟩ := z8
  have hLW4 := LW_mm hLW3 hd8 ok8 hwe8
  obtain ⟨hkk9, hTR9, ⟨hW9, htl9⟩, hrr9⟩ : Agr σ k9 k8 σ9 σ8 r9 r8 := U_setJoint hW hS9 hS8
  subst hkk9
  obtain ⟨hMf, hGf⟩ := hTR9 _ _ _ hM9 hG9
  show tm_V x (tm_H x w8) c9 s9 515 [(5, .int (I (k9))), (0, .ref (sb)), (1, .ref (ko)), (2, .ref (ρ 0)), (3, .ref (o)), (4, .int (I (i)))] [.int (I (r8))]
  refine tm_istore [(6, .int (I (r8))), (5, .int (I (k9))), (0, .ref (sb)), (1, .ref (ko)), (2, .ref (ρ 0)), (3, .ref (o)), (4, .int (I (i)))] hC dL_law_515 (by rw [hB.2.1]; exact Nat.le_of_ble_eq_true rfl) rfl ?_
  refine tm_aload_n 4 hC dL_law_517 rfl rfl ?_
  obtain ⟨hwE5, hd5, ok6, ok7⟩ := LW_m hLW4
  rw [hwE5]
  refine tm_less (b' := 0 + c9) (n' := 0 + s9) ⟨by omega, by omega⟩ ?_
  refine tm_callV (b := c9) (n := s9) (rest := []) hC (fr_con hd5 ok6 ok7 (c_M_thrown (tm_g x) hst Λ4 ρ k9 sf8 se8 σ8 hRM8 hW9.1)) k_L_91 (by rw [hB.2.2.1]; exact ⟨Nat.le_of_ble_eq_true rfl, Nat.le_of_ble_eq_true rfl⟩) rfl (tm_rec2 hC (un_1 hRM8.1) rfl) rfl (by decide) dL_law_518 (fun v7 w7 z7 => ?_)
  obtain ⟨Λ5, ⟨rfl, rfl⟩, hd7, ok9, hwe7⟩ := z7
  have hLW5 := LW_mm hLW4 hd7 ok9 hwe7
  obtain ⟨hwE6, hd6, -, -, ho6⟩ := LW_c hLW5
  have hou6 : w7 o = some (.inl (tm_al (tm_T x) 1 g9)) := by rw [hwE6]; exact un_2 hd6 ho6
  show tm_V x (tm_H x w7) c9 s9 521 [(6, .int (I (r8))), (5, .int (I (k9))), (0, .ref (sb)), (1, .ref (ko)), (2, .ref (ρ 0)), (3, .ref (o)), (4, .int (I (i)))] [.int (I (k9))]
  refine tm_iload 1 hC dL_law_521 rfl ?_
  refine tm_icmp_eq 528 hC dL_law_523 (by decide) (by omega) (fun c_1 => ?_) (fun c_1 => ?_)
  · refine tm_iload 1 hC dL_law_528 rfl ?_
    refine tm_if_ne 545 hC dL_law_530 (by decide) (by omega) (fun c_2 => ?_) (fun c_2 => ?_)
    · refine tm_goto 1641 hC dL_law_545 (by decide) ?_
      refine tm_sub (L' := [(0, .ref (sb)), (1, .ref (ko)), (2, .ref (ρ 0)), (3, .ref (o)), (4, .int (I (i)))]) [2, 3, 4, 5, 6] rfl ?_
      exact kk _ σ8 ⟨hW9, Λ3, Λ4, g9, κ9, k9, sf8, se8, hLW5, ⟨hMf, hGf, hko9⟩, hRM8⟩ htl9
    · refine tm_aload_n 5 hC dL_law_533 rfl rfl ?_
      refine tm_iconst hC dL_law_534 ?_
      refine tm_lald2 hC hou6 (by omega) dL_law_535 ?_
      refine tm_iload 0 hC dL_law_536 rfl ?_
      refine tm_i2l hC dL_law_538 ?_
      refine tm_lcmpE (by rw [show r8 = r9 from (hrr9 (by omega)).symm]; exact hg9 (by omega)) hC dL_law_539 ?_
      refine tm_if_eq 545 hC dL_law_540 (by decide) (by omega) (fun _ => ?_) (fun c => absurd (by omega) c)
      refine tm_goto 1641 hC dL_law_545 (by decide) ?_
      refine tm_sub (L' := [(0, .ref (sb)), (1, .ref (ko)), (2, .ref (ρ 0)), (3, .ref (o)), (4, .int (I (i)))]) [2, 3, 4, 5, 6] rfl ?_
      exact kk _ σ8 ⟨hW9, Λ3, Λ4, g9, κ9, k9, sf8, se8, hLW5, ⟨hMf, hGf, hko9⟩, hRM8⟩ htl9
  · omega

set_option maxHeartbeats 4000000 in
set_option maxRecDepth 100000 in
theorem L_grade {x : tmX} {sb l : Nat} {xs : Nat → Int32} (hL : LwC x sb l xs) {o ko : Nat} {ρ : Nat → Nat} {i : Int} (hi : 0 ≤ i ∧ i + 7 ≤ l) {w : tmL} {σ : ST} (hS : LwS x o ko ρ w σ) {c9 s9 : Nat} (kk : ∀ w' σ', LwS x o ko ρ w' σ' → s_tl σ' ≤ s_tl σ + 9 → tm_V x (tm_H x w') c9 s9 1641 [(0, .ref sb), (1, .ref ko), (2, .ref (ρ 0)), (3, .ref o), (4, .int (I i))] []) : tm_V x (tm_H x w) (2 + c9) (12 + s9) 548 [(0, .ref sb), (1, .ref ko), (2, .ref (ρ 0)), (3, .ref o), (4, .int (I i))] [] := by
  obtain ⟨⟨hC, hB⟩, hst, hNc, hX⟩ := hL
  have hl9 := hX.2.2.2
  obtain ⟨hW, Λ1, Λ2, f, κ, th, sf, se, hLW, ⟨hM, hG, hko⟩, hRM⟩ := hS
  have hw := hW.1
  refine tm_aload_n 1 hC dL_law_548 rfl rfl ?_
  refine tm_aload_n 0 hC dL_law_549 rfl rfl ?_
  refine tm_iload 4 hC dL_law_550 rfl ?_
  refine tm_iconst hC dL_law_552 ?_
  refine tm_iadd hC dL_law_553 ?_
  refine tm_sld hC hX (by omega) dL_law_554 ?_
  refine tm_aload_n 0 hC dL_law_555 rfl rfl ?_
  refine tm_iload 4 hC dL_law_556 rfl ?_
  refine tm_iconst hC dL_law_558 ?_
  refine tm_iadd hC dL_law_559 ?_
  refine tm_sld hC hX (by omega) dL_law_560 ?_
  refine tm_aload_n 3 hC dL_law_561 rfl rfl ?_
  obtain ⟨hwE, hd1, ok1, ok2, ho1⟩ := LW_c hLW
  rw [hwE]
  refine tm_less (b' := 2 + c9) (n' := 12 + s9) ⟨by omega, by omega⟩ ?_
  have hcn9 := h_grade (tm_g x) hst Λ1 (un Λ2 (oW (tm_T x) o f)) hd1 ok1 ok2 κ σ hM hw hW hG o f ho1 (sx xs (i + 1)) (sx xs (i + 2)) ⟨sx_rg xs _, sx_rg xs _⟩
  rw [hko] at hcn9
  refine tm_callSW (b := c9) (n := s9) (rest := []) hC hNc hcn9 ks_L_109 (by rw [hB.2.2.1]; exact ⟨Nat.le_of_ble_eq_true rfl, Nat.le_of_ble_eq_true rfl⟩) rfl rfl (by decide) dL_law_562 (fun v9 w9 z9 => ?_)
  obtain ⟨Λ3, κ9, σ9, k9, r9, g9, hd3, ok3, hwe3, hM9, hG9, hko9, rfl, hk9, hS9, hg9⟩ := z9
  have hLW3 := LW_ch hLW hd3 ok3 hwe3
  show tm_V x (tm_H x w9) c9 s9 565 [(0, .ref (sb)), (1, .ref (ko)), (2, .ref (ρ 0)), (3, .ref (o)), (4, .int (I (i)))] [.int (I (k9))]
  refine tm_istore [(5, .int (I (k9))), (0, .ref (sb)), (1, .ref (ko)), (2, .ref (ρ 0)), (3, .ref (o)), (4, .int (I (i)))] hC dL_law_565 (by rw [hB.2.1]; exact Nat.le_of_ble_eq_true rfl) rfl ?_
  refine tm_aload_n 3 hC dL_law_567 rfl rfl ?_
  refine tm_aload_n 1 hC dL_law_568 rfl rfl ?_
  refine tm_iload 5 hC dL_law_569 rfl ?_
  refine tm_iconst hC dL_law_571 ?_
  refine tm_iadd hC dL_law_572 ?_
  refine tm_sld hC hX (by omega) dL_law_573 ?_
  refine tm_aload_n 1 hC dL_law_574 rfl rfl ?_
  refine tm_iload 5 hC dL_law_575 rfl ?_
  refine tm_iconst hC dL_law_577 ?_
  refine tm_iadd hC dL_law_578 ?_
  refine tm_sld hC hX (by omega) dL_law_579 ?_
  obtain ⟨hwE4, hd4, ok4, ok5⟩ := LW_m hLW3
  rw [hwE4]
  refine tm_less (b' := 0 + c9) (n' := 0 + s9) ⟨by omega, by omega⟩ ?_
  refine tm_callV (b := c9) (n := s9) (rest := []) hC (fr_con hd4 ok4 ok5 (c_M_grade (tm_g x) hst Λ2 ρ th sf se σ hRM hw (sx xs (i + 1)) (sx xs (i + 2)) ⟨sx_rg xs _, sx_rg xs _⟩)) k_L_112 (by rw [hB.2.2.1]; exact ⟨Nat.le_of_ble_eq_true rfl, Nat.le_of_ble_eq_true rfl⟩) rfl (tm_rec2 hC (un_1 hRM.1) rfl) rfl (by decide) dL_law_580 (fun v8 w8 z8 => ?_)
  obtain ⟨Λ4, ⟨k8, sf8, se8, r8, hRM8, rfl, hS8⟩, hd8, ok8, hwe8⟩ := z8
  have hLW4 := LW_mm hLW3 hd8 ok8 hwe8
  obtain ⟨hkk9, hTR9, ⟨hW9, htl9⟩, hrr9⟩ : Agr σ k9 k8 σ9 σ r9 r8 := U_grade hW hS9 hS8
  subst hkk9
  obtain ⟨hMf, hGf⟩ := hTR9 _ _ _ hM9 hG9
  show tm_V x (tm_H x w8) c9 s9 583 [(5, .int (I (k9))), (0, .ref (sb)), (1, .ref (ko)), (2, .ref (ρ 0)), (3, .ref (o)), (4, .int (I (i)))] [.int (I (r8))]
  refine tm_istore [(6, .int (I (r8))), (5, .int (I (k9))), (0, .ref (sb)), (1, .ref (ko)), (2, .ref (ρ 0)), (3, .ref (o)), (4, .int (I (i)))] hC dL_law_583 (by rw [hB.2.1]; exact Nat.le_of_ble_eq_true rfl) rfl ?_
  refine tm_aload_n 4 hC dL_law_585 rfl rfl ?_
  obtain ⟨hwE5, hd5, ok6, ok7⟩ := LW_m hLW4
  rw [hwE5]
  refine tm_less (b' := 0 + c9) (n' := 0 + s9) ⟨by omega, by omega⟩ ?_
  refine tm_callV (b := c9) (n := s9) (rest := []) hC (fr_con hd5 ok6 ok7 (c_M_thrown (tm_g x) hst Λ4 ρ k9 sf8 se8 σ hRM8 hW9.1)) k_L_91 (by rw [hB.2.2.1]; exact ⟨Nat.le_of_ble_eq_true rfl, Nat.le_of_ble_eq_true rfl⟩) rfl (tm_rec2 hC (un_1 hRM8.1) rfl) rfl (by decide) dL_law_586 (fun v7 w7 z7 => ?_)
  obtain ⟨Λ5, ⟨rfl, rfl⟩, hd7, ok9, hwe7⟩ := z7
  have hLW5 := LW_mm hLW4 hd7 ok9 hwe7
  obtain ⟨hwE6, hd6, -, -, ho6⟩ := LW_c hLW5
  have hou6 : w7 o = some (.inl (tm_al (tm_T x) 1 g9)) := by rw [hwE6]; exact un_2 hd6 ho6
  show tm_V x (tm_H x w7) c9 s9 589 [(6, .int (I (r8))), (5, .int (I (k9))), (0, .ref (sb)), (1, .ref (ko)), (2, .ref (ρ 0)), (3, .ref (o)), (4, .int (I (i)))] [.int (I (k9))]
  refine tm_iload 1 hC dL_law_589 rfl ?_
  refine tm_icmp_eq 596 hC dL_law_591 (by decide) (by omega) (fun c_1 => ?_) (fun c_1 => ?_)
  · refine tm_iload 1 hC dL_law_596 rfl ?_
    refine tm_if_ne 613 hC dL_law_598 (by decide) (by omega) (fun c_2 => ?_) (fun c_2 => ?_)
    · refine tm_goto 1641 hC dL_law_613 (by decide) ?_
      refine tm_sub (L' := [(0, .ref (sb)), (1, .ref (ko)), (2, .ref (ρ 0)), (3, .ref (o)), (4, .int (I (i)))]) [2, 3, 4, 5, 6] rfl ?_
      exact kk _ σ ⟨hW9, Λ3, Λ4, g9, κ9, k9, sf8, se8, hLW5, ⟨hMf, hGf, hko9⟩, hRM8⟩ htl9
    · refine tm_aload_n 5 hC dL_law_601 rfl rfl ?_
      refine tm_iconst hC dL_law_602 ?_
      refine tm_lald2 hC hou6 (by omega) dL_law_603 ?_
      refine tm_iload 0 hC dL_law_604 rfl ?_
      refine tm_i2l hC dL_law_606 ?_
      refine tm_lcmpE (by rw [show r8 = r9 from (hrr9 (by omega)).symm]; exact hg9 (by omega)) hC dL_law_607 ?_
      refine tm_if_eq 613 hC dL_law_608 (by decide) (by omega) (fun _ => ?_) (fun c => absurd (by omega) c)
      refine tm_goto 1641 hC dL_law_613 (by decide) ?_
      refine tm_sub (L' := [(0, .ref (sb)), (1, .ref (ko)), (2, .ref (ρ 0)), (3, .ref (o)), (4, .int (I (i)))]) [2, 3, 4, 5, 6] rfl ?_
      exact kk _ σ ⟨hW9, Λ3, Λ4, g9, κ9, k9, sf8, se8, hLW5, ⟨hMf, hGf, hko9⟩, hRM8⟩ htl9
  · omega

set_option maxHeartbeats 4000000 in
set_option maxRecDepth 100000 in
theorem L_stretches {x : tmX} {sb l : Nat} {xs : Nat → Int32} (hL : LwC x sb l xs) {o ko : Nat} {ρ : Nat → Nat} {i : Int} (hi : 0 ≤ i ∧ i + 7 ≤ l) {w : tmL} {σ : ST} (hS : LwS x o ko ρ w σ) {c9 s9 : Nat} (kk : ∀ w' σ', LwS x o ko ρ w' σ' → s_tl σ' ≤ s_tl σ + 9 → tm_V x (tm_H x w') c9 s9 1641 [(0, .ref sb), (1, .ref ko), (2, .ref (ρ 0)), (3, .ref o), (4, .int (I i))] []) : tm_V x (tm_H x w) (2 + c9) (12 + s9) 616 [(0, .ref sb), (1, .ref ko), (2, .ref (ρ 0)), (3, .ref o), (4, .int (I i))] [] := by
  obtain ⟨⟨hC, hB⟩, hst, hNc, hX⟩ := hL
  have hl9 := hX.2.2.2
  obtain ⟨hW, Λ1, Λ2, f, κ, th, sf, se, hLW, ⟨hM, hG, hko⟩, hRM⟩ := hS
  have hw := hW.1
  refine tm_aload_n 1 hC dL_law_616 rfl rfl ?_
  refine tm_aload_n 0 hC dL_law_617 rfl rfl ?_
  refine tm_iload 4 hC dL_law_618 rfl ?_
  refine tm_iconst hC dL_law_620 ?_
  refine tm_iadd hC dL_law_621 ?_
  refine tm_sld hC hX (by omega) dL_law_622 ?_
  refine tm_aload_n 0 hC dL_law_623 rfl rfl ?_
  refine tm_iload 4 hC dL_law_624 rfl ?_
  refine tm_iconst hC dL_law_626 ?_
  refine tm_iadd hC dL_law_627 ?_
  refine tm_sld hC hX (by omega) dL_law_628 ?_
  refine tm_aload_n 3 hC dL_law_629 rfl rfl ?_
  obtain ⟨hwE, hd1, ok1, ok2, ho1⟩ := LW_c hLW
  rw [hwE]
  refine tm_less (b' := 2 + c9) (n' := 12 + s9) ⟨by omega, by omega⟩ ?_
  have hcn9 := h_stretches (tm_g x) hst Λ1 (un Λ2 (oW (tm_T x) o f)) hd1 ok1 ok2 κ σ hM hw hW hG o f ho1 (sx xs (i + 1)) (sx xs (i + 2)) ⟨sx_rg xs _, sx_rg xs _⟩
  rw [hko] at hcn9
  refine tm_callSW (b := c9) (n := s9) (rest := []) hC hNc hcn9 ks_L_113 (by rw [hB.2.2.1]; exact ⟨Nat.le_of_ble_eq_true rfl, Nat.le_of_ble_eq_true rfl⟩) rfl rfl (by decide) dL_law_630 (fun v9 w9 z9 => ?_)
  obtain ⟨Λ3, κ9, σ9, k9, r9, g9, hd3, ok3, hwe3, hM9, hG9, hko9, rfl, hk9, hS9, hg9⟩ := z9
  have hLW3 := LW_ch hLW hd3 ok3 hwe3
  show tm_V x (tm_H x w9) c9 s9 633 [(0, .ref (sb)), (1, .ref (ko)), (2, .ref (ρ 0)), (3, .ref (o)), (4, .int (I (i)))] [.int (I (k9))]
  refine tm_istore [(5, .int (I (k9))), (0, .ref (sb)), (1, .ref (ko)), (2, .ref (ρ 0)), (3, .ref (o)), (4, .int (I (i)))] hC dL_law_633 (by rw [hB.2.1]; exact Nat.le_of_ble_eq_true rfl) rfl ?_
  refine tm_aload_n 3 hC dL_law_635 rfl rfl ?_
  refine tm_aload_n 1 hC dL_law_636 rfl rfl ?_
  refine tm_iload 5 hC dL_law_637 rfl ?_
  refine tm_iconst hC dL_law_639 ?_
  refine tm_iadd hC dL_law_640 ?_
  refine tm_sld hC hX (by omega) dL_law_641 ?_
  refine tm_aload_n 1 hC dL_law_642 rfl rfl ?_
  refine tm_iload 5 hC dL_law_643 rfl ?_
  refine tm_iconst hC dL_law_645 ?_
  refine tm_iadd hC dL_law_646 ?_
  refine tm_sld hC hX (by omega) dL_law_647 ?_
  obtain ⟨hwE4, hd4, ok4, ok5⟩ := LW_m hLW3
  rw [hwE4]
  refine tm_less (b' := 0 + c9) (n' := 0 + s9) ⟨by omega, by omega⟩ ?_
  refine tm_callV (b := c9) (n := s9) (rest := []) hC (fr_con hd4 ok4 ok5 (c_M_stretches (tm_g x) hst Λ2 ρ th sf se σ hRM hw (sx xs (i + 1)) (sx xs (i + 2)) ⟨sx_rg xs _, sx_rg xs _⟩)) k_L_115 (by rw [hB.2.2.1]; exact ⟨Nat.le_of_ble_eq_true rfl, Nat.le_of_ble_eq_true rfl⟩) rfl (tm_rec2 hC (un_1 hRM.1) rfl) rfl (by decide) dL_law_648 (fun v8 w8 z8 => ?_)
  obtain ⟨Λ4, ⟨k8, sf8, se8, r8, hRM8, rfl, hS8⟩, hd8, ok8, hwe8⟩ := z8
  have hLW4 := LW_mm hLW3 hd8 ok8 hwe8
  obtain ⟨hkk9, hTR9, ⟨hW9, htl9⟩, hrr9⟩ : Agr σ k9 k8 σ9 σ r9 r8 := U_stretches hW hS9 hS8
  subst hkk9
  obtain ⟨hMf, hGf⟩ := hTR9 _ _ _ hM9 hG9
  show tm_V x (tm_H x w8) c9 s9 651 [(5, .int (I (k9))), (0, .ref (sb)), (1, .ref (ko)), (2, .ref (ρ 0)), (3, .ref (o)), (4, .int (I (i)))] [.int (I (r8))]
  refine tm_istore [(6, .int (I (r8))), (5, .int (I (k9))), (0, .ref (sb)), (1, .ref (ko)), (2, .ref (ρ 0)), (3, .ref (o)), (4, .int (I (i)))] hC dL_law_651 (by rw [hB.2.1]; exact Nat.le_of_ble_eq_true rfl) rfl ?_
  refine tm_aload_n 4 hC dL_law_653 rfl rfl ?_
  obtain ⟨hwE5, hd5, ok6, ok7⟩ := LW_m hLW4
  rw [hwE5]
  refine tm_less (b' := 0 + c9) (n' := 0 + s9) ⟨by omega, by omega⟩ ?_
  refine tm_callV (b := c9) (n := s9) (rest := []) hC (fr_con hd5 ok6 ok7 (c_M_thrown (tm_g x) hst Λ4 ρ k9 sf8 se8 σ hRM8 hW9.1)) k_L_91 (by rw [hB.2.2.1]; exact ⟨Nat.le_of_ble_eq_true rfl, Nat.le_of_ble_eq_true rfl⟩) rfl (tm_rec2 hC (un_1 hRM8.1) rfl) rfl (by decide) dL_law_654 (fun v7 w7 z7 => ?_)
  obtain ⟨Λ5, ⟨rfl, rfl⟩, hd7, ok9, hwe7⟩ := z7
  have hLW5 := LW_mm hLW4 hd7 ok9 hwe7
  obtain ⟨hwE6, hd6, -, -, ho6⟩ := LW_c hLW5
  have hou6 : w7 o = some (.inl (tm_al (tm_T x) 1 g9)) := by rw [hwE6]; exact un_2 hd6 ho6
  show tm_V x (tm_H x w7) c9 s9 657 [(6, .int (I (r8))), (5, .int (I (k9))), (0, .ref (sb)), (1, .ref (ko)), (2, .ref (ρ 0)), (3, .ref (o)), (4, .int (I (i)))] [.int (I (k9))]
  refine tm_iload 1 hC dL_law_657 rfl ?_
  refine tm_icmp_eq 664 hC dL_law_659 (by decide) (by omega) (fun c_1 => ?_) (fun c_1 => ?_)
  · refine tm_iload 1 hC dL_law_664 rfl ?_
    refine tm_if_ne 681 hC dL_law_666 (by decide) (by omega) (fun c_2 => ?_) (fun c_2 => ?_)
    · refine tm_goto 1641 hC dL_law_681 (by decide) ?_
      refine tm_sub (L' := [(0, .ref (sb)), (1, .ref (ko)), (2, .ref (ρ 0)), (3, .ref (o)), (4, .int (I (i)))]) [2, 3, 4, 5, 6] rfl ?_
      exact kk _ σ ⟨hW9, Λ3, Λ4, g9, κ9, k9, sf8, se8, hLW5, ⟨hMf, hGf, hko9⟩, hRM8⟩ htl9
    · refine tm_aload_n 5 hC dL_law_669 rfl rfl ?_
      refine tm_iconst hC dL_law_670 ?_
      refine tm_lald2 hC hou6 (by omega) dL_law_671 ?_
      refine tm_iload 0 hC dL_law_672 rfl ?_
      refine tm_i2l hC dL_law_674 ?_
      refine tm_lcmpE (by rw [show r8 = r9 from (hrr9 (by omega)).symm]; exact hg9 (by omega)) hC dL_law_675 ?_
      refine tm_if_eq 681 hC dL_law_676 (by decide) (by omega) (fun _ => ?_) (fun c => absurd (by omega) c)
      refine tm_goto 1641 hC dL_law_681 (by decide) ?_
      refine tm_sub (L' := [(0, .ref (sb)), (1, .ref (ko)), (2, .ref (ρ 0)), (3, .ref (o)), (4, .int (I (i)))]) [2, 3, 4, 5, 6] rfl ?_
      exact kk _ σ ⟨hW9, Λ3, Λ4, g9, κ9, k9, sf8, se8, hLW5, ⟨hMf, hGf, hko9⟩, hRM8⟩ htl9
  · omega

set_option maxHeartbeats 4000000 in
set_option maxRecDepth 100000 in
theorem L_stretch {x : tmX} {sb l : Nat} {xs : Nat → Int32} (hL : LwC x sb l xs) {o ko : Nat} {ρ : Nat → Nat} {i : Int} (hi : 0 ≤ i ∧ i + 7 ≤ l) {w : tmL} {σ : ST} (hS : LwS x o ko ρ w σ) {c9 s9 : Nat} (kk : ∀ w' σ', LwS x o ko ρ w' σ' → s_tl σ' ≤ s_tl σ + 9 → tm_V x (tm_H x w') c9 s9 1641 [(0, .ref sb), (1, .ref ko), (2, .ref (ρ 0)), (3, .ref o), (4, .int (I i))] []) : tm_V x (tm_H x w) (3 + c9) (18 + s9) 684 [(0, .ref sb), (1, .ref ko), (2, .ref (ρ 0)), (3, .ref o), (4, .int (I i))] [] := by
  obtain ⟨⟨hC, hB⟩, hst, hNc, hX⟩ := hL
  have hl9 := hX.2.2.2
  obtain ⟨hW, Λ1, Λ2, f, κ, th, sf, se, hLW, ⟨hM, hG, hko⟩, hRM⟩ := hS
  have hw := hW.1
  refine tm_aload_n 1 hC dL_law_684 rfl rfl ?_
  refine tm_aload_n 0 hC dL_law_685 rfl rfl ?_
  refine tm_iload 4 hC dL_law_686 rfl ?_
  refine tm_iconst hC dL_law_688 ?_
  refine tm_iadd hC dL_law_689 ?_
  refine tm_sld hC hX (by omega) dL_law_690 ?_
  refine tm_aload_n 0 hC dL_law_691 rfl rfl ?_
  refine tm_iload 4 hC dL_law_692 rfl ?_
  refine tm_iconst hC dL_law_694 ?_
  refine tm_iadd hC dL_law_695 ?_
  refine tm_sld hC hX (by omega) dL_law_696 ?_
  refine tm_aload_n 0 hC dL_law_697 rfl rfl ?_
  refine tm_iload 4 hC dL_law_698 rfl ?_
  refine tm_iconst hC dL_law_700 ?_
  refine tm_iadd hC dL_law_701 ?_
  refine tm_sld hC hX (by omega) dL_law_702 ?_
  refine tm_aload_n 0 hC dL_law_703 rfl rfl ?_
  refine tm_iload 4 hC dL_law_704 rfl ?_
  refine tm_iconst hC dL_law_706 ?_
  refine tm_iadd hC dL_law_707 ?_
  refine tm_sld hC hX (by omega) dL_law_708 ?_
  refine tm_if_eq 716 hC dL_law_709 (by decide) (sx_rg xs _) (fun c_1 => ?_) (fun c_1 => ?_)
  · refine tm_iconst hC dL_law_716 ?_
    refine tm_aload_n 3 hC dL_law_717 rfl rfl ?_
    obtain ⟨hwE, hd1, ok1, ok2, ho1⟩ := LW_c hLW
    rw [hwE]
    refine tm_less (b' := 3 + c9) (n' := 18 + s9) ⟨by omega, by omega⟩ ?_
    have hcn9 := h_stretch (tm_g x) hst Λ1 (un Λ2 (oW (tm_T x) o f)) hd1 ok1 ok2 κ σ hM hw hW hG o f ho1 (sx xs (i + 1)) (sx xs (i + 2)) (sx xs (i + 3)) 0 ⟨sx_rg xs _, sx_rg xs _, sx_rg xs _, Or.inl rfl⟩
    rw [hko] at hcn9
    refine tm_callSW (b := c9) (n := s9) (rest := []) hC hNc hcn9 ks_L_116 (by rw [hB.2.2.1]; exact ⟨Nat.le_of_ble_eq_true rfl, Nat.le_of_ble_eq_true rfl⟩) rfl rfl (by decide) dL_law_718 (fun v9 w9 z9 => ?_)
    obtain ⟨Λ3, κ9, σ9, k9, r9, g9, hd3, ok3, hwe3, hM9, hG9, hko9, rfl, hk9, hS9, hg9⟩ := z9
    have hLW3 := LW_ch hLW hd3 ok3 hwe3
    show tm_V x (tm_H x w9) c9 s9 721 [(0, .ref (sb)), (1, .ref (ko)), (2, .ref (ρ 0)), (3, .ref (o)), (4, .int (I (i)))] [.int (I (k9))]
    refine tm_istore [(5, .int (I (k9))), (0, .ref (sb)), (1, .ref (ko)), (2, .ref (ρ 0)), (3, .ref (o)), (4, .int (I (i)))] hC dL_law_721 (by rw [hB.2.1]; exact Nat.le_of_ble_eq_true rfl) rfl ?_
    refine tm_aload_n 3 hC dL_law_723 rfl rfl ?_
    refine tm_aload_n 1 hC dL_law_724 rfl rfl ?_
    refine tm_iload 5 hC dL_law_725 rfl ?_
    refine tm_iconst hC dL_law_727 ?_
    refine tm_iadd hC dL_law_728 ?_
    refine tm_sld hC hX (by omega) dL_law_729 ?_
    refine tm_aload_n 1 hC dL_law_730 rfl rfl ?_
    refine tm_iload 5 hC dL_law_731 rfl ?_
    refine tm_iconst hC dL_law_733 ?_
    refine tm_iadd hC dL_law_734 ?_
    refine tm_sld hC hX (by omega) dL_law_735 ?_
    refine tm_aload_n 1 hC dL_law_736 rfl rfl ?_
    refine tm_iload 5 hC dL_law_737 rfl ?_
    refine tm_iconst hC dL_law_739 ?_
    refine tm_iadd hC dL_law_740 ?_
    refine tm_sld hC hX (by omega) dL_law_741 ?_
    refine tm_aload_n 1 hC dL_law_742 rfl rfl ?_
    refine tm_iload 5 hC dL_law_743 rfl ?_
    refine tm_iconst hC dL_law_745 ?_
    refine tm_iadd hC dL_law_746 ?_
    refine tm_sld hC hX (by omega) dL_law_747 ?_
    refine tm_if_eq 755 hC dL_law_748 (by decide) (sx_rg xs _) (fun c_2 => ?_) (fun c_2 => ?_)
    · refine tm_iconst hC dL_law_755 ?_
      obtain ⟨hwE4, hd4, ok4, ok5⟩ := LW_m hLW3
      rw [hwE4]
      refine tm_less (b' := 0 + c9) (n' := 0 + s9) ⟨by omega, by omega⟩ ?_
      refine tm_callV (b := c9) (n := s9) (rest := []) hC (fr_con hd4 ok4 ok5 (c_M_stretch (tm_g x) hst Λ2 ρ th sf se σ hRM hw (sx xs (i + 1)) (sx xs (i + 2)) (sx xs (i + 3)) 0 ⟨sx_rg xs _, sx_rg xs _, sx_rg xs _, Or.inl rfl⟩)) k_L_119 (by rw [hB.2.2.1]; exact ⟨Nat.le_of_ble_eq_true rfl, Nat.le_of_ble_eq_true rfl⟩) rfl (tm_rec2 hC (un_1 hRM.1) rfl) rfl (by decide) dL_law_756 (fun v8 w8 z8 => ?_)
      obtain ⟨Λ4, ⟨k8, sf8, se8, r8, hRM8, rfl, hS8⟩, hd8, ok8, hwe8⟩ := z8
      have hLW4 := LW_mm hLW3 hd8 ok8 hwe8
      obtain ⟨hkk9, hTR9, ⟨hW9, htl9⟩, hrr9⟩ : Agr σ k9 k8 σ9 σ r9 r8 := U_stretch hW hS9 hS8
      subst hkk9
      obtain ⟨hMf, hGf⟩ := hTR9 _ _ _ hM9 hG9
      show tm_V x (tm_H x w8) c9 s9 759 [(5, .int (I (k9))), (0, .ref (sb)), (1, .ref (ko)), (2, .ref (ρ 0)), (3, .ref (o)), (4, .int (I (i)))] [.int (I (r8))]
      refine tm_istore [(6, .int (I (r8))), (5, .int (I (k9))), (0, .ref (sb)), (1, .ref (ko)), (2, .ref (ρ 0)), (3, .ref (o)), (4, .int (I (i)))] hC dL_law_759 (by rw [hB.2.1]; exact Nat.le_of_ble_eq_true rfl) rfl ?_
      refine tm_aload_n 4 hC dL_law_761 rfl rfl ?_
      obtain ⟨hwE5, hd5, ok6, ok7⟩ := LW_m hLW4
      rw [hwE5]
      refine tm_less (b' := 0 + c9) (n' := 0 + s9) ⟨by omega, by omega⟩ ?_
      refine tm_callV (b := c9) (n := s9) (rest := []) hC (fr_con hd5 ok6 ok7 (c_M_thrown (tm_g x) hst Λ4 ρ k9 sf8 se8 σ hRM8 hW9.1)) k_L_91 (by rw [hB.2.2.1]; exact ⟨Nat.le_of_ble_eq_true rfl, Nat.le_of_ble_eq_true rfl⟩) rfl (tm_rec2 hC (un_1 hRM8.1) rfl) rfl (by decide) dL_law_762 (fun v7 w7 z7 => ?_)
      obtain ⟨Λ5, ⟨rfl, rfl⟩, hd7, ok9, hwe7⟩ := z7
      have hLW5 := LW_mm hLW4 hd7 ok9 hwe7
      obtain ⟨hwE6, hd6, -, -, ho6⟩ := LW_c hLW5
      have hou6 : w7 o = some (.inl (tm_al (tm_T x) 1 g9)) := by rw [hwE6]; exact un_2 hd6 ho6
      show tm_V x (tm_H x w7) c9 s9 765 [(6, .int (I (r8))), (5, .int (I (k9))), (0, .ref (sb)), (1, .ref (ko)), (2, .ref (ρ 0)), (3, .ref (o)), (4, .int (I (i)))] [.int (I (k9))]
      refine tm_iload 1 hC dL_law_765 rfl ?_
      refine tm_icmp_eq 772 hC dL_law_767 (by decide) (by omega) (fun c_3 => ?_) (fun c_3 => ?_)
      · refine tm_iload 1 hC dL_law_772 rfl ?_
        refine tm_if_ne 789 hC dL_law_774 (by decide) (by omega) (fun c_4 => ?_) (fun c_4 => ?_)
        · refine tm_goto 1641 hC dL_law_789 (by decide) ?_
          refine tm_sub (L' := [(0, .ref (sb)), (1, .ref (ko)), (2, .ref (ρ 0)), (3, .ref (o)), (4, .int (I (i)))]) [2, 3, 4, 5, 6] rfl ?_
          exact kk _ σ ⟨hW9, Λ3, Λ4, g9, κ9, k9, sf8, se8, hLW5, ⟨hMf, hGf, hko9⟩, hRM8⟩ htl9
        · refine tm_aload_n 5 hC dL_law_777 rfl rfl ?_
          refine tm_iconst hC dL_law_778 ?_
          refine tm_lald2 hC hou6 (by omega) dL_law_779 ?_
          refine tm_iload 0 hC dL_law_780 rfl ?_
          refine tm_i2l hC dL_law_782 ?_
          refine tm_lcmpE (by rw [show r8 = r9 from (hrr9 (by omega)).symm]; exact hg9 (by omega)) hC dL_law_783 ?_
          refine tm_if_eq 789 hC dL_law_784 (by decide) (by omega) (fun _ => ?_) (fun c => absurd (by omega) c)
          refine tm_goto 1641 hC dL_law_789 (by decide) ?_
          refine tm_sub (L' := [(0, .ref (sb)), (1, .ref (ko)), (2, .ref (ρ 0)), (3, .ref (o)), (4, .int (I (i)))]) [2, 3, 4, 5, 6] rfl ?_
          exact kk _ σ ⟨hW9, Λ3, Λ4, g9, κ9, k9, sf8, se8, hLW5, ⟨hMf, hGf, hko9⟩, hRM8⟩ htl9
      · omega
    · omega
  · refine tm_iconst hC dL_law_712 ?_
    refine tm_goto 717 hC dL_law_713 (by decide) ?_
    refine tm_aload_n 3 hC dL_law_717 rfl rfl ?_
    obtain ⟨hwE, hd1, ok1, ok2, ho1⟩ := LW_c hLW
    rw [hwE]
    refine tm_less (b' := 3 + c9) (n' := 18 + s9) ⟨by omega, by omega⟩ ?_
    have hcn9 := h_stretch (tm_g x) hst Λ1 (un Λ2 (oW (tm_T x) o f)) hd1 ok1 ok2 κ σ hM hw hW hG o f ho1 (sx xs (i + 1)) (sx xs (i + 2)) (sx xs (i + 3)) 1 ⟨sx_rg xs _, sx_rg xs _, sx_rg xs _, Or.inr rfl⟩
    rw [hko] at hcn9
    refine tm_callSW (b := c9) (n := s9) (rest := []) hC hNc hcn9 ks_L_116 (by rw [hB.2.2.1]; exact ⟨Nat.le_of_ble_eq_true rfl, Nat.le_of_ble_eq_true rfl⟩) rfl rfl (by decide) dL_law_718 (fun v9 w9 z9 => ?_)
    obtain ⟨Λ3, κ9, σ9, k9, r9, g9, hd3, ok3, hwe3, hM9, hG9, hko9, rfl, hk9, hS9, hg9⟩ := z9
    have hLW3 := LW_ch hLW hd3 ok3 hwe3
    show tm_V x (tm_H x w9) c9 s9 721 [(0, .ref (sb)), (1, .ref (ko)), (2, .ref (ρ 0)), (3, .ref (o)), (4, .int (I (i)))] [.int (I (k9))]
    refine tm_istore [(5, .int (I (k9))), (0, .ref (sb)), (1, .ref (ko)), (2, .ref (ρ 0)), (3, .ref (o)), (4, .int (I (i)))] hC dL_law_721 (by rw [hB.2.1]; exact Nat.le_of_ble_eq_true rfl) rfl ?_
    refine tm_aload_n 3 hC dL_law_723 rfl rfl ?_
    refine tm_aload_n 1 hC dL_law_724 rfl rfl ?_
    refine tm_iload 5 hC dL_law_725 rfl ?_
    refine tm_iconst hC dL_law_727 ?_
    refine tm_iadd hC dL_law_728 ?_
    refine tm_sld hC hX (by omega) dL_law_729 ?_
    refine tm_aload_n 1 hC dL_law_730 rfl rfl ?_
    refine tm_iload 5 hC dL_law_731 rfl ?_
    refine tm_iconst hC dL_law_733 ?_
    refine tm_iadd hC dL_law_734 ?_
    refine tm_sld hC hX (by omega) dL_law_735 ?_
    refine tm_aload_n 1 hC dL_law_736 rfl rfl ?_
    refine tm_iload 5 hC dL_law_737 rfl ?_
    refine tm_iconst hC dL_law_739 ?_
    refine tm_iadd hC dL_law_740 ?_
    refine tm_sld hC hX (by omega) dL_law_741 ?_
    refine tm_aload_n 1 hC dL_law_742 rfl rfl ?_
    refine tm_iload 5 hC dL_law_743 rfl ?_
    refine tm_iconst hC dL_law_745 ?_
    refine tm_iadd hC dL_law_746 ?_
    refine tm_sld hC hX (by omega) dL_law_747 ?_
    refine tm_if_eq 755 hC dL_law_748 (by decide) (sx_rg xs _) (fun c_6 => ?_) (fun c_6 => ?_)
    · omega
    · refine tm_iconst hC dL_law_751 ?_
      refine tm_goto 756 hC dL_law_752 (by decide) ?_
      obtain ⟨hwE4, hd4, ok4, ok5⟩ := LW_m hLW3
      rw [hwE4]
      refine tm_less (b' := 0 + c9) (n' := 0 + s9) ⟨by omega, by omega⟩ ?_
      refine tm_callV (b := c9) (n := s9) (rest := []) hC (fr_con hd4 ok4 ok5 (c_M_stretch (tm_g x) hst Λ2 ρ th sf se σ hRM hw (sx xs (i + 1)) (sx xs (i + 2)) (sx xs (i + 3)) 1 ⟨sx_rg xs _, sx_rg xs _, sx_rg xs _, Or.inr rfl⟩)) k_L_119 (by rw [hB.2.2.1]; exact ⟨Nat.le_of_ble_eq_true rfl, Nat.le_of_ble_eq_true rfl⟩) rfl (tm_rec2 hC (un_1 hRM.1) rfl) rfl (by decide) dL_law_756 (fun v8 w8 z8 => ?_)
      obtain ⟨Λ4, ⟨k8, sf8, se8, r8, hRM8, rfl, hS8⟩, hd8, ok8, hwe8⟩ := z8
      have hLW4 := LW_mm hLW3 hd8 ok8 hwe8
      obtain ⟨hkk9, hTR9, ⟨hW9, htl9⟩, hrr9⟩ : Agr σ k9 k8 σ9 σ r9 r8 := U_stretch hW hS9 hS8
      subst hkk9
      obtain ⟨hMf, hGf⟩ := hTR9 _ _ _ hM9 hG9
      show tm_V x (tm_H x w8) c9 s9 759 [(5, .int (I (k9))), (0, .ref (sb)), (1, .ref (ko)), (2, .ref (ρ 0)), (3, .ref (o)), (4, .int (I (i)))] [.int (I (r8))]
      refine tm_istore [(6, .int (I (r8))), (5, .int (I (k9))), (0, .ref (sb)), (1, .ref (ko)), (2, .ref (ρ 0)), (3, .ref (o)), (4, .int (I (i)))] hC dL_law_759 (by rw [hB.2.1]; exact Nat.le_of_ble_eq_true rfl) rfl ?_
      refine tm_aload_n 4 hC dL_law_761 rfl rfl ?_
      obtain ⟨hwE5, hd5, ok6, ok7⟩ := LW_m hLW4
      rw [hwE5]
      refine tm_less (b' := 0 + c9) (n' := 0 + s9) ⟨by omega, by omega⟩ ?_
      refine tm_callV (b := c9) (n := s9) (rest := []) hC (fr_con hd5 ok6 ok7 (c_M_thrown (tm_g x) hst Λ4 ρ k9 sf8 se8 σ hRM8 hW9.1)) k_L_91 (by rw [hB.2.2.1]; exact ⟨Nat.le_of_ble_eq_true rfl, Nat.le_of_ble_eq_true rfl⟩) rfl (tm_rec2 hC (un_1 hRM8.1) rfl) rfl (by decide) dL_law_762 (fun v7 w7 z7 => ?_)
      obtain ⟨Λ5, ⟨rfl, rfl⟩, hd7, ok9, hwe7⟩ := z7
      have hLW5 := LW_mm hLW4 hd7 ok9 hwe7
      obtain ⟨hwE6, hd6, -, -, ho6⟩ := LW_c hLW5
      have hou6 : w7 o = some (.inl (tm_al (tm_T x) 1 g9)) := by rw [hwE6]; exact un_2 hd6 ho6
      show tm_V x (tm_H x w7) c9 s9 765 [(6, .int (I (r8))), (5, .int (I (k9))), (0, .ref (sb)), (1, .ref (ko)), (2, .ref (ρ 0)), (3, .ref (o)), (4, .int (I (i)))] [.int (I (k9))]
      refine tm_iload 1 hC dL_law_765 rfl ?_
      refine tm_icmp_eq 772 hC dL_law_767 (by decide) (by omega) (fun c_7 => ?_) (fun c_7 => ?_)
      · refine tm_iload 1 hC dL_law_772 rfl ?_
        refine tm_if_ne 789 hC dL_law_774 (by decide) (by omega) (fun c_8 => ?_) (fun c_8 => ?_)
        · refine tm_goto 1641 hC dL_law_789 (by decide) ?_
          refine tm_sub (L' := [(0, .ref (sb)), (1, .ref (ko)), (2, .ref (ρ 0)), (3, .ref (o)), (4, .int (I (i)))]) [2, 3, 4, 5, 6] rfl ?_
          exact kk _ σ ⟨hW9, Λ3, Λ4, g9, κ9, k9, sf8, se8, hLW5, ⟨hMf, hGf, hko9⟩, hRM8⟩ htl9
        · refine tm_aload_n 5 hC dL_law_777 rfl rfl ?_
          refine tm_iconst hC dL_law_778 ?_
          refine tm_lald2 hC hou6 (by omega) dL_law_779 ?_
          refine tm_iload 0 hC dL_law_780 rfl ?_
          refine tm_i2l hC dL_law_782 ?_
          refine tm_lcmpE (by rw [show r8 = r9 from (hrr9 (by omega)).symm]; exact hg9 (by omega)) hC dL_law_783 ?_
          refine tm_if_eq 789 hC dL_law_784 (by decide) (by omega) (fun _ => ?_) (fun c => absurd (by omega) c)
          refine tm_goto 1641 hC dL_law_789 (by decide) ?_
          refine tm_sub (L' := [(0, .ref (sb)), (1, .ref (ko)), (2, .ref (ρ 0)), (3, .ref (o)), (4, .int (I (i)))]) [2, 3, 4, 5, 6] rfl ?_
          exact kk _ σ ⟨hW9, Λ3, Λ4, g9, κ9, k9, sf8, se8, hLW5, ⟨hMf, hGf, hko9⟩, hRM8⟩ htl9
      · omega

set_option maxHeartbeats 4000000 in
set_option maxRecDepth 100000 in
theorem L_fits {x : tmX} {sb l : Nat} {xs : Nat → Int32} (hL : LwC x sb l xs) {o ko : Nat} {ρ : Nat → Nat} {i : Int} (hi : 0 ≤ i ∧ i + 7 ≤ l) {w : tmL} {σ : ST} (hS : LwS x o ko ρ w σ) {c9 s9 : Nat} (kk : ∀ w' σ', LwS x o ko ρ w' σ' → s_tl σ' ≤ s_tl σ + 9 → tm_V x (tm_H x w') c9 s9 1641 [(0, .ref sb), (1, .ref ko), (2, .ref (ρ 0)), (3, .ref o), (4, .int (I i))] []) : tm_V x (tm_H x w) (2 + c9) (12 + s9) 792 [(0, .ref sb), (1, .ref ko), (2, .ref (ρ 0)), (3, .ref o), (4, .int (I i))] [] := by
  obtain ⟨⟨hC, hB⟩, hst, hNc, hX⟩ := hL
  have hl9 := hX.2.2.2
  obtain ⟨hW, Λ1, Λ2, f, κ, th, sf, se, hLW, ⟨hM, hG, hko⟩, hRM⟩ := hS
  have hw := hW.1
  refine tm_aload_n 1 hC dL_law_792 rfl rfl ?_
  refine tm_aload_n 0 hC dL_law_793 rfl rfl ?_
  refine tm_iload 4 hC dL_law_794 rfl ?_
  refine tm_iconst hC dL_law_796 ?_
  refine tm_iadd hC dL_law_797 ?_
  refine tm_sld hC hX (by omega) dL_law_798 ?_
  refine tm_aload_n 0 hC dL_law_799 rfl rfl ?_
  refine tm_iload 4 hC dL_law_800 rfl ?_
  refine tm_iconst hC dL_law_802 ?_
  refine tm_iadd hC dL_law_803 ?_
  refine tm_sld hC hX (by omega) dL_law_804 ?_
  refine tm_aload_n 0 hC dL_law_805 rfl rfl ?_
  refine tm_iload 4 hC dL_law_806 rfl ?_
  refine tm_iconst hC dL_law_808 ?_
  refine tm_iadd hC dL_law_809 ?_
  refine tm_sld hC hX (by omega) dL_law_810 ?_
  refine tm_aload_n 3 hC dL_law_811 rfl rfl ?_
  obtain ⟨hwE, hd1, ok1, ok2, ho1⟩ := LW_c hLW
  rw [hwE]
  refine tm_less (b' := 2 + c9) (n' := 12 + s9) ⟨by omega, by omega⟩ ?_
  have hcn9 := h_fits (tm_g x) hst Λ1 (un Λ2 (oW (tm_T x) o f)) hd1 ok1 ok2 κ σ hM hw hW hG o f ho1 (sx xs (i + 1)) (sx xs (i + 2)) (sx xs (i + 3)) ⟨sx_rg xs _, sx_rg xs _, sx_rg xs _⟩
  rw [hko] at hcn9
  refine tm_callSW (b := c9) (n := s9) (rest := []) hC hNc hcn9 ks_L_120 (by rw [hB.2.2.1]; exact ⟨Nat.le_of_ble_eq_true rfl, Nat.le_of_ble_eq_true rfl⟩) rfl rfl (by decide) dL_law_812 (fun v9 w9 z9 => ?_)
  obtain ⟨Λ3, κ9, σ9, k9, r9, g9, hd3, ok3, hwe3, hM9, hG9, hko9, rfl, hk9, hS9, hg9⟩ := z9
  have hLW3 := LW_ch hLW hd3 ok3 hwe3
  show tm_V x (tm_H x w9) c9 s9 815 [(0, .ref (sb)), (1, .ref (ko)), (2, .ref (ρ 0)), (3, .ref (o)), (4, .int (I (i)))] [.int (I (k9))]
  refine tm_istore [(5, .int (I (k9))), (0, .ref (sb)), (1, .ref (ko)), (2, .ref (ρ 0)), (3, .ref (o)), (4, .int (I (i)))] hC dL_law_815 (by rw [hB.2.1]; exact Nat.le_of_ble_eq_true rfl) rfl ?_
  refine tm_aload_n 3 hC dL_law_817 rfl rfl ?_
  refine tm_aload_n 1 hC dL_law_818 rfl rfl ?_
  refine tm_iload 5 hC dL_law_819 rfl ?_
  refine tm_iconst hC dL_law_821 ?_
  refine tm_iadd hC dL_law_822 ?_
  refine tm_sld hC hX (by omega) dL_law_823 ?_
  refine tm_aload_n 1 hC dL_law_824 rfl rfl ?_
  refine tm_iload 5 hC dL_law_825 rfl ?_
  refine tm_iconst hC dL_law_827 ?_
  refine tm_iadd hC dL_law_828 ?_
  refine tm_sld hC hX (by omega) dL_law_829 ?_
  refine tm_aload_n 1 hC dL_law_830 rfl rfl ?_
  refine tm_iload 5 hC dL_law_831 rfl ?_
  refine tm_iconst hC dL_law_833 ?_
  refine tm_iadd hC dL_law_834 ?_
  refine tm_sld hC hX (by omega) dL_law_835 ?_
  obtain ⟨hwE4, hd4, ok4, ok5⟩ := LW_m hLW3
  rw [hwE4]
  refine tm_less (b' := 0 + c9) (n' := 0 + s9) ⟨by omega, by omega⟩ ?_
  refine tm_callV (b := c9) (n := s9) (rest := []) hC (fr_con hd4 ok4 ok5 (c_M_fits (tm_g x) hst Λ2 ρ th sf se σ hRM hw (sx xs (i + 1)) (sx xs (i + 2)) (sx xs (i + 3)) ⟨sx_rg xs _, sx_rg xs _, sx_rg xs _⟩)) k_L_122 (by rw [hB.2.2.1]; exact ⟨Nat.le_of_ble_eq_true rfl, Nat.le_of_ble_eq_true rfl⟩) rfl (tm_rec2 hC (un_1 hRM.1) rfl) rfl (by decide) dL_law_836 (fun v8 w8 z8 => ?_)
  obtain ⟨Λ4, ⟨k8, sf8, se8, r8, hRM8, rfl, hS8⟩, hd8, ok8, hwe8⟩ := z8
  have hLW4 := LW_mm hLW3 hd8 ok8 hwe8
  obtain ⟨hkk9, hTR9, ⟨hW9, htl9⟩, hrr9⟩ : Agr σ k9 k8 σ9 σ r9 r8 := U_fits hW hS9 hS8
  subst hkk9
  obtain ⟨hMf, hGf⟩ := hTR9 _ _ _ hM9 hG9
  have hrb8 : k9 = 0 → 0 ≤ r8 ∧ r8 ≤ 1 := fun z => by rcases hS8 with ⟨-, h8⟩ | ⟨-, -, h8⟩; omega; rw [h8]; exact bi_rg _
  show tm_V x (tm_H x w8) c9 s9 839 [(5, .int (I (k9))), (0, .ref (sb)), (1, .ref (ko)), (2, .ref (ρ 0)), (3, .ref (o)), (4, .int (I (i)))] [.int (I (r8))]
  refine tm_istore [(6, .int (I (r8))), (5, .int (I (k9))), (0, .ref (sb)), (1, .ref (ko)), (2, .ref (ρ 0)), (3, .ref (o)), (4, .int (I (i)))] hC dL_law_839 (by rw [hB.2.1]; exact Nat.le_of_ble_eq_true rfl) rfl ?_
  refine tm_aload_n 4 hC dL_law_841 rfl rfl ?_
  obtain ⟨hwE5, hd5, ok6, ok7⟩ := LW_m hLW4
  rw [hwE5]
  refine tm_less (b' := 0 + c9) (n' := 0 + s9) ⟨by omega, by omega⟩ ?_
  refine tm_callV (b := c9) (n := s9) (rest := []) hC (fr_con hd5 ok6 ok7 (c_M_thrown (tm_g x) hst Λ4 ρ k9 sf8 se8 σ hRM8 hW9.1)) k_L_91 (by rw [hB.2.2.1]; exact ⟨Nat.le_of_ble_eq_true rfl, Nat.le_of_ble_eq_true rfl⟩) rfl (tm_rec2 hC (un_1 hRM8.1) rfl) rfl (by decide) dL_law_842 (fun v7 w7 z7 => ?_)
  obtain ⟨Λ5, ⟨rfl, rfl⟩, hd7, ok9, hwe7⟩ := z7
  have hLW5 := LW_mm hLW4 hd7 ok9 hwe7
  obtain ⟨hwE6, hd6, -, -, ho6⟩ := LW_c hLW5
  have hou6 : w7 o = some (.inl (tm_al (tm_T x) 1 g9)) := by rw [hwE6]; exact un_2 hd6 ho6
  show tm_V x (tm_H x w7) c9 s9 845 [(6, .int (I (r8))), (5, .int (I (k9))), (0, .ref (sb)), (1, .ref (ko)), (2, .ref (ρ 0)), (3, .ref (o)), (4, .int (I (i)))] [.int (I (k9))]
  refine tm_iload 1 hC dL_law_845 rfl ?_
  refine tm_icmp_eq 852 hC dL_law_847 (by decide) (by omega) (fun c_1 => ?_) (fun c_1 => ?_)
  · refine tm_iload 1 hC dL_law_852 rfl ?_
    refine tm_if_ne 876 hC dL_law_854 (by decide) (by omega) (fun c_2 => ?_) (fun c_2 => ?_)
    · refine tm_goto 1641 hC dL_law_876 (by decide) ?_
      refine tm_sub (L' := [(0, .ref (sb)), (1, .ref (ko)), (2, .ref (ρ 0)), (3, .ref (o)), (4, .int (I (i)))]) [2, 3, 4, 5, 6] rfl ?_
      exact kk _ σ ⟨hW9, Λ3, Λ4, g9, κ9, k9, sf8, se8, hLW5, ⟨hMf, hGf, hko9⟩, hRM8⟩ htl9
    · refine tm_aload_n 5 hC dL_law_857 rfl rfl ?_
      refine tm_iconst hC dL_law_858 ?_
      refine tm_lald2 hC hou6 (by omega) dL_law_859 ?_
      refine tm_iload 0 hC dL_law_860 rfl ?_
      refine tm_if_eq 869 hC dL_law_862 (by decide) (by have := hrb8 (by omega); omega) (fun c_3 => ?_) (fun c_3 => ?_)
      · have hrv8 : r8 = 0 := by have := hrb8 (by omega); omega
        refine tm_lconst (w := 0) hC dL_law_869 rfl ?_
        refine tm_lcmpE (by show g9 0 = _; rw [hg9 (by omega), show r9 = 0 by have := hrr9 (by omega); omega]; rfl) hC dL_law_870 ?_
        refine tm_if_eq 876 hC dL_law_871 (by decide) (by omega) (fun _ => ?_) (fun c => absurd (by omega) c)
        refine tm_goto 1641 hC dL_law_876 (by decide) ?_
        refine tm_sub (L' := [(0, .ref (sb)), (1, .ref (ko)), (2, .ref (ρ 0)), (3, .ref (o)), (4, .int (I (i)))]) [2, 3, 4, 5, 6] rfl ?_
        exact kk _ σ ⟨hW9, Λ3, Λ4, g9, κ9, k9, sf8, se8, hLW5, ⟨hMf, hGf, hko9⟩, hRM8⟩ htl9
      · have hrv8 : r8 = 1 := by have := hrb8 (by omega); omega
        refine tm_lconst (w := 1) hC dL_law_865 rfl ?_
        refine tm_goto 870 hC dL_law_866 (by decide) ?_
        refine tm_lcmpE (by show g9 0 = _; rw [hg9 (by omega), show r9 = 1 by have := hrr9 (by omega); omega]; rfl) hC dL_law_870 ?_
        refine tm_if_eq 876 hC dL_law_871 (by decide) (by omega) (fun _ => ?_) (fun c => absurd (by omega) c)
        refine tm_goto 1641 hC dL_law_876 (by decide) ?_
        refine tm_sub (L' := [(0, .ref (sb)), (1, .ref (ko)), (2, .ref (ρ 0)), (3, .ref (o)), (4, .int (I (i)))]) [2, 3, 4, 5, 6] rfl ?_
        exact kk _ σ ⟨hW9, Λ3, Λ4, g9, κ9, k9, sf8, se8, hLW5, ⟨hMf, hGf, hko9⟩, hRM8⟩ htl9
  · omega

set_option maxHeartbeats 4000000 in
set_option maxRecDepth 100000 in
theorem L_earliest {x : tmX} {sb l : Nat} {xs : Nat → Int32} (hL : LwC x sb l xs) {o ko : Nat} {ρ : Nat → Nat} {i : Int} (hi : 0 ≤ i ∧ i + 7 ≤ l) {w : tmL} {σ : ST} (hS : LwS x o ko ρ w σ) {c9 s9 : Nat} (kk : ∀ w' σ', LwS x o ko ρ w' σ' → s_tl σ' ≤ s_tl σ + 9 → tm_V x (tm_H x w') c9 s9 1641 [(0, .ref sb), (1, .ref ko), (2, .ref (ρ 0)), (3, .ref o), (4, .int (I i))] []) : tm_V x (tm_H x w) (2 + c9) (12 + s9) 879 [(0, .ref sb), (1, .ref ko), (2, .ref (ρ 0)), (3, .ref o), (4, .int (I i))] [] := by
  obtain ⟨⟨hC, hB⟩, hst, hNc, hX⟩ := hL
  have hl9 := hX.2.2.2
  obtain ⟨hW, Λ1, Λ2, f, κ, th, sf, se, hLW, ⟨hM, hG, hko⟩, hRM⟩ := hS
  have hw := hW.1
  refine tm_aload_n 1 hC dL_law_879 rfl rfl ?_
  refine tm_aload_n 0 hC dL_law_880 rfl rfl ?_
  refine tm_iload 4 hC dL_law_881 rfl ?_
  refine tm_iconst hC dL_law_883 ?_
  refine tm_iadd hC dL_law_884 ?_
  refine tm_sld hC hX (by omega) dL_law_885 ?_
  refine tm_aload_n 0 hC dL_law_886 rfl rfl ?_
  refine tm_iload 4 hC dL_law_887 rfl ?_
  refine tm_iconst hC dL_law_889 ?_
  refine tm_iadd hC dL_law_890 ?_
  refine tm_sld hC hX (by omega) dL_law_891 ?_
  refine tm_aload_n 3 hC dL_law_892 rfl rfl ?_
  obtain ⟨hwE, hd1, ok1, ok2, ho1⟩ := LW_c hLW
  rw [hwE]
  refine tm_less (b' := 2 + c9) (n' := 12 + s9) ⟨by omega, by omega⟩ ?_
  have hcn9 := h_earliest (tm_g x) hst Λ1 (un Λ2 (oW (tm_T x) o f)) hd1 ok1 ok2 κ σ hM hw hW hG o f ho1 (sx xs (i + 1)) (sx xs (i + 2)) ⟨sx_rg xs _, sx_rg xs _⟩
  rw [hko] at hcn9
  refine tm_callSW (b := c9) (n := s9) (rest := []) hC hNc hcn9 ks_L_123 (by rw [hB.2.2.1]; exact ⟨Nat.le_of_ble_eq_true rfl, Nat.le_of_ble_eq_true rfl⟩) rfl rfl (by decide) dL_law_893 (fun v9 w9 z9 => ?_)
  obtain ⟨Λ3, κ9, σ9, k9, r9, g9, hd3, ok3, hwe3, hM9, hG9, hko9, rfl, hk9, hS9, hg9⟩ := z9
  have hLW3 := LW_ch hLW hd3 ok3 hwe3
  show tm_V x (tm_H x w9) c9 s9 896 [(0, .ref (sb)), (1, .ref (ko)), (2, .ref (ρ 0)), (3, .ref (o)), (4, .int (I (i)))] [.int (I (k9))]
  refine tm_istore [(5, .int (I (k9))), (0, .ref (sb)), (1, .ref (ko)), (2, .ref (ρ 0)), (3, .ref (o)), (4, .int (I (i)))] hC dL_law_896 (by rw [hB.2.1]; exact Nat.le_of_ble_eq_true rfl) rfl ?_
  refine tm_aload_n 3 hC dL_law_898 rfl rfl ?_
  refine tm_aload_n 1 hC dL_law_899 rfl rfl ?_
  refine tm_iload 5 hC dL_law_900 rfl ?_
  refine tm_iconst hC dL_law_902 ?_
  refine tm_iadd hC dL_law_903 ?_
  refine tm_sld hC hX (by omega) dL_law_904 ?_
  refine tm_aload_n 1 hC dL_law_905 rfl rfl ?_
  refine tm_iload 5 hC dL_law_906 rfl ?_
  refine tm_iconst hC dL_law_908 ?_
  refine tm_iadd hC dL_law_909 ?_
  refine tm_sld hC hX (by omega) dL_law_910 ?_
  obtain ⟨hwE4, hd4, ok4, ok5⟩ := LW_m hLW3
  rw [hwE4]
  refine tm_less (b' := 0 + c9) (n' := 0 + s9) ⟨by omega, by omega⟩ ?_
  refine tm_callV (b := c9) (n := s9) (rest := []) hC (fr_con hd4 ok4 ok5 (c_M_earliest (tm_g x) hst Λ2 ρ th sf se σ hRM hw (sx xs (i + 1)) (sx xs (i + 2)) ⟨sx_rg xs _, sx_rg xs _⟩)) k_L_125 (by rw [hB.2.2.1]; exact ⟨Nat.le_of_ble_eq_true rfl, Nat.le_of_ble_eq_true rfl⟩) rfl (tm_rec2 hC (un_1 hRM.1) rfl) rfl (by decide) dL_law_911 (fun v8 w8 z8 => ?_)
  obtain ⟨Λ4, ⟨k8, sf8, se8, r8, hRM8, rfl, hS8⟩, hd8, ok8, hwe8⟩ := z8
  have hLW4 := LW_mm hLW3 hd8 ok8 hwe8
  obtain ⟨hkk9, hTR9, ⟨hW9, htl9⟩, hrr9⟩ : Agr σ k9 k8 σ9 σ r9 r8 := U_earliest hW hS9 hS8
  subst hkk9
  obtain ⟨hMf, hGf⟩ := hTR9 _ _ _ hM9 hG9
  show tm_V x (tm_H x w8) c9 s9 914 [(5, .int (I (k9))), (0, .ref (sb)), (1, .ref (ko)), (2, .ref (ρ 0)), (3, .ref (o)), (4, .int (I (i)))] [.int (I (r8))]
  refine tm_istore [(6, .int (I (r8))), (5, .int (I (k9))), (0, .ref (sb)), (1, .ref (ko)), (2, .ref (ρ 0)), (3, .ref (o)), (4, .int (I (i)))] hC dL_law_914 (by rw [hB.2.1]; exact Nat.le_of_ble_eq_true rfl) rfl ?_
  refine tm_aload_n 4 hC dL_law_916 rfl rfl ?_
  obtain ⟨hwE5, hd5, ok6, ok7⟩ := LW_m hLW4
  rw [hwE5]
  refine tm_less (b' := 0 + c9) (n' := 0 + s9) ⟨by omega, by omega⟩ ?_
  refine tm_callV (b := c9) (n := s9) (rest := []) hC (fr_con hd5 ok6 ok7 (c_M_thrown (tm_g x) hst Λ4 ρ k9 sf8 se8 σ hRM8 hW9.1)) k_L_91 (by rw [hB.2.2.1]; exact ⟨Nat.le_of_ble_eq_true rfl, Nat.le_of_ble_eq_true rfl⟩) rfl (tm_rec2 hC (un_1 hRM8.1) rfl) rfl (by decide) dL_law_917 (fun v7 w7 z7 => ?_)
  obtain ⟨Λ5, ⟨rfl, rfl⟩, hd7, ok9, hwe7⟩ := z7
  have hLW5 := LW_mm hLW4 hd7 ok9 hwe7
  obtain ⟨hwE6, hd6, -, -, ho6⟩ := LW_c hLW5
  have hou6 : w7 o = some (.inl (tm_al (tm_T x) 1 g9)) := by rw [hwE6]; exact un_2 hd6 ho6
  show tm_V x (tm_H x w7) c9 s9 920 [(6, .int (I (r8))), (5, .int (I (k9))), (0, .ref (sb)), (1, .ref (ko)), (2, .ref (ρ 0)), (3, .ref (o)), (4, .int (I (i)))] [.int (I (k9))]
  refine tm_iload 1 hC dL_law_920 rfl ?_
  refine tm_icmp_eq 927 hC dL_law_922 (by decide) (by omega) (fun c_1 => ?_) (fun c_1 => ?_)
  · refine tm_iload 1 hC dL_law_927 rfl ?_
    refine tm_if_ne 944 hC dL_law_929 (by decide) (by omega) (fun c_2 => ?_) (fun c_2 => ?_)
    · refine tm_goto 1641 hC dL_law_944 (by decide) ?_
      refine tm_sub (L' := [(0, .ref (sb)), (1, .ref (ko)), (2, .ref (ρ 0)), (3, .ref (o)), (4, .int (I (i)))]) [2, 3, 4, 5, 6] rfl ?_
      exact kk _ σ ⟨hW9, Λ3, Λ4, g9, κ9, k9, sf8, se8, hLW5, ⟨hMf, hGf, hko9⟩, hRM8⟩ htl9
    · refine tm_aload_n 5 hC dL_law_932 rfl rfl ?_
      refine tm_iconst hC dL_law_933 ?_
      refine tm_lald2 hC hou6 (by omega) dL_law_934 ?_
      refine tm_iload 0 hC dL_law_935 rfl ?_
      refine tm_i2l hC dL_law_937 ?_
      refine tm_lcmpE (by rw [show r8 = r9 from (hrr9 (by omega)).symm]; exact hg9 (by omega)) hC dL_law_938 ?_
      refine tm_if_eq 944 hC dL_law_939 (by decide) (by omega) (fun _ => ?_) (fun c => absurd (by omega) c)
      refine tm_goto 1641 hC dL_law_944 (by decide) ?_
      refine tm_sub (L' := [(0, .ref (sb)), (1, .ref (ko)), (2, .ref (ρ 0)), (3, .ref (o)), (4, .int (I (i)))]) [2, 3, 4, 5, 6] rfl ?_
      exact kk _ σ ⟨hW9, Λ3, Λ4, g9, κ9, k9, sf8, se8, hLW5, ⟨hMf, hGf, hko9⟩, hRM8⟩ htl9
  · omega

set_option maxHeartbeats 4000000 in
set_option maxRecDepth 100000 in
theorem L_cut {x : tmX} {sb l : Nat} {xs : Nat → Int32} (hL : LwC x sb l xs) {o ko : Nat} {ρ : Nat → Nat} {i : Int} (hi : 0 ≤ i ∧ i + 7 ≤ l) {w : tmL} {σ : ST} (hS : LwS x o ko ρ w σ) {c9 s9 : Nat} (kk : ∀ w' σ', LwS x o ko ρ w' σ' → s_tl σ' ≤ s_tl σ + 9 → tm_V x (tm_H x w') c9 s9 1641 [(0, .ref sb), (1, .ref ko), (2, .ref (ρ 0)), (3, .ref o), (4, .int (I i))] []) : tm_V x (tm_H x w) (8 + c9) (832 + s9) 947 [(0, .ref sb), (1, .ref ko), (2, .ref (ρ 0)), (3, .ref o), (4, .int (I i))] [] := by
  obtain ⟨⟨hC, hB⟩, hst, hNc, hX⟩ := hL
  have hl9 := hX.2.2.2
  obtain ⟨hW, Λ1, Λ2, f, κ, th, sf, se, hLW, ⟨hM, hG, hko⟩, hRM⟩ := hS
  have hw := hW.1
  refine tm_aload_n 1 hC dL_law_947 rfl rfl ?_
  refine tm_aload_n 0 hC dL_law_948 rfl rfl ?_
  refine tm_iload 4 hC dL_law_949 rfl ?_
  refine tm_iconst hC dL_law_951 ?_
  refine tm_iadd hC dL_law_952 ?_
  refine tm_sld hC hX (by omega) dL_law_953 ?_
  refine tm_aload_n 0 hC dL_law_954 rfl rfl ?_
  refine tm_iload 4 hC dL_law_955 rfl ?_
  refine tm_iconst hC dL_law_957 ?_
  refine tm_iadd hC dL_law_958 ?_
  refine tm_sld hC hX (by omega) dL_law_959 ?_
  refine tm_aload_n 0 hC dL_law_960 rfl rfl ?_
  refine tm_iload 4 hC dL_law_961 rfl ?_
  refine tm_iconst hC dL_law_963 ?_
  refine tm_iadd hC dL_law_964 ?_
  refine tm_sld hC hX (by omega) dL_law_965 ?_
  refine tm_aload_n 3 hC dL_law_966 rfl rfl ?_
  obtain ⟨hwE, hd1, ok1, ok2, ho1⟩ := LW_c hLW
  rw [hwE]
  refine tm_less (b' := 8 + c9) (n' := 832 + s9) ⟨by omega, by omega⟩ ?_
  have hcn9 := h_cut (tm_g x) hst Λ1 (un Λ2 (oW (tm_T x) o f)) hd1 ok1 ok2 κ σ hM hw hW hG o f ho1 (sx xs (i + 1)) (sx xs (i + 2)) (sx xs (i + 3)) ⟨sx_rg xs _, sx_rg xs _, sx_rg xs _⟩
  rw [hko] at hcn9
  refine tm_callSW (b := c9) (n := s9) (rest := []) hC hNc hcn9 ks_L_126 (by rw [hB.2.2.1]; exact ⟨Nat.le_of_ble_eq_true rfl, Nat.le_of_ble_eq_true rfl⟩) rfl rfl (by decide) dL_law_967 (fun v9 w9 z9 => ?_)
  obtain ⟨Λ3, κ9, σ9, k9, r9, g9, hd3, ok3, hwe3, hM9, hG9, hko9, rfl, hk9, hS9, hg9⟩ := z9
  have hLW3 := LW_ch hLW hd3 ok3 hwe3
  show tm_V x (tm_H x w9) c9 s9 970 [(0, .ref (sb)), (1, .ref (ko)), (2, .ref (ρ 0)), (3, .ref (o)), (4, .int (I (i)))] [.int (I (k9))]
  refine tm_istore [(5, .int (I (k9))), (0, .ref (sb)), (1, .ref (ko)), (2, .ref (ρ 0)), (3, .ref (o)), (4, .int (I (i)))] hC dL_law_970 (by rw [hB.2.1]; exact Nat.le_of_ble_eq_true rfl) rfl ?_
  refine tm_aload_n 3 hC dL_law_972 rfl rfl ?_
  refine tm_aload_n 1 hC dL_law_973 rfl rfl ?_
  refine tm_iload 5 hC dL_law_974 rfl ?_
  refine tm_iconst hC dL_law_976 ?_
  refine tm_iadd hC dL_law_977 ?_
  refine tm_sld hC hX (by omega) dL_law_978 ?_
  refine tm_aload_n 1 hC dL_law_979 rfl rfl ?_
  refine tm_iload 5 hC dL_law_980 rfl ?_
  refine tm_iconst hC dL_law_982 ?_
  refine tm_iadd hC dL_law_983 ?_
  refine tm_sld hC hX (by omega) dL_law_984 ?_
  refine tm_aload_n 1 hC dL_law_985 rfl rfl ?_
  refine tm_iload 5 hC dL_law_986 rfl ?_
  refine tm_iconst hC dL_law_988 ?_
  refine tm_iadd hC dL_law_989 ?_
  refine tm_sld hC hX (by omega) dL_law_990 ?_
  obtain ⟨hwE4, hd4, ok4, ok5⟩ := LW_m hLW3
  rw [hwE4]
  refine tm_less (b' := 0 + c9) (n' := 0 + s9) ⟨by omega, by omega⟩ ?_
  refine tm_callV (b := c9) (n := s9) (rest := []) hC (fr_con hd4 ok4 ok5 (c_M_cut (tm_g x) hst Λ2 ρ th sf se σ hRM hw (sx xs (i + 1)) (sx xs (i + 2)) (sx xs (i + 3)) ⟨sx_rg xs _, sx_rg xs _, sx_rg xs _⟩ hW)) k_L_128 (by rw [hB.2.2.1]; exact ⟨Nat.le_of_ble_eq_true rfl, Nat.le_of_ble_eq_true rfl⟩) rfl (tm_rec2 hC (un_1 hRM.1) rfl) rfl (by decide) dL_law_991 (fun v8 w8 z8 => ?_)
  obtain ⟨Λ4, ⟨k8, sf8, se8, r8, σ8, hRM8, rfl, hS8⟩, hd8, ok8, hwe8⟩ := z8
  have hLW4 := LW_mm hLW3 hd8 ok8 hwe8
  obtain ⟨hkk9, hTR9, ⟨hW9, htl9⟩, hrr9⟩ : Agr σ k9 k8 σ9 σ8 r9 r8 := U_cut hW hS9 hS8
  subst hkk9
  obtain ⟨hMf, hGf⟩ := hTR9 _ _ _ hM9 hG9
  show tm_V x (tm_H x w8) c9 s9 994 [(5, .int (I (k9))), (0, .ref (sb)), (1, .ref (ko)), (2, .ref (ρ 0)), (3, .ref (o)), (4, .int (I (i)))] [.int (I (r8))]
  refine tm_istore [(6, .int (I (r8))), (5, .int (I (k9))), (0, .ref (sb)), (1, .ref (ko)), (2, .ref (ρ 0)), (3, .ref (o)), (4, .int (I (i)))] hC dL_law_994 (by rw [hB.2.1]; exact Nat.le_of_ble_eq_true rfl) rfl ?_
  refine tm_aload_n 4 hC dL_law_996 rfl rfl ?_
  obtain ⟨hwE5, hd5, ok6, ok7⟩ := LW_m hLW4
  rw [hwE5]
  refine tm_less (b' := 0 + c9) (n' := 0 + s9) ⟨by omega, by omega⟩ ?_
  refine tm_callV (b := c9) (n := s9) (rest := []) hC (fr_con hd5 ok6 ok7 (c_M_thrown (tm_g x) hst Λ4 ρ k9 sf8 se8 σ8 hRM8 hW9.1)) k_L_91 (by rw [hB.2.2.1]; exact ⟨Nat.le_of_ble_eq_true rfl, Nat.le_of_ble_eq_true rfl⟩) rfl (tm_rec2 hC (un_1 hRM8.1) rfl) rfl (by decide) dL_law_997 (fun v7 w7 z7 => ?_)
  obtain ⟨Λ5, ⟨rfl, rfl⟩, hd7, ok9, hwe7⟩ := z7
  have hLW5 := LW_mm hLW4 hd7 ok9 hwe7
  obtain ⟨hwE6, hd6, -, -, ho6⟩ := LW_c hLW5
  have hou6 : w7 o = some (.inl (tm_al (tm_T x) 1 g9)) := by rw [hwE6]; exact un_2 hd6 ho6
  show tm_V x (tm_H x w7) c9 s9 1000 [(6, .int (I (r8))), (5, .int (I (k9))), (0, .ref (sb)), (1, .ref (ko)), (2, .ref (ρ 0)), (3, .ref (o)), (4, .int (I (i)))] [.int (I (k9))]
  refine tm_iload 1 hC dL_law_1000 rfl ?_
  refine tm_icmp_eq 1007 hC dL_law_1002 (by decide) (by omega) (fun c_1 => ?_) (fun c_1 => ?_)
  · refine tm_iload 1 hC dL_law_1007 rfl ?_
    refine tm_if_ne 1024 hC dL_law_1009 (by decide) (by omega) (fun c_2 => ?_) (fun c_2 => ?_)
    · refine tm_goto 1641 hC dL_law_1024 (by decide) ?_
      refine tm_sub (L' := [(0, .ref (sb)), (1, .ref (ko)), (2, .ref (ρ 0)), (3, .ref (o)), (4, .int (I (i)))]) [2, 3, 4, 5, 6] rfl ?_
      exact kk _ σ8 ⟨hW9, Λ3, Λ4, g9, κ9, k9, sf8, se8, hLW5, ⟨hMf, hGf, hko9⟩, hRM8⟩ htl9
    · refine tm_aload_n 5 hC dL_law_1012 rfl rfl ?_
      refine tm_iconst hC dL_law_1013 ?_
      refine tm_lald2 hC hou6 (by omega) dL_law_1014 ?_
      refine tm_iload 0 hC dL_law_1015 rfl ?_
      refine tm_i2l hC dL_law_1017 ?_
      refine tm_lcmpE (by rw [show r8 = r9 from (hrr9 (by omega)).symm]; exact hg9 (by omega)) hC dL_law_1018 ?_
      refine tm_if_eq 1024 hC dL_law_1019 (by decide) (by omega) (fun _ => ?_) (fun c => absurd (by omega) c)
      refine tm_goto 1641 hC dL_law_1024 (by decide) ?_
      refine tm_sub (L' := [(0, .ref (sb)), (1, .ref (ko)), (2, .ref (ρ 0)), (3, .ref (o)), (4, .int (I (i)))]) [2, 3, 4, 5, 6] rfl ?_
      exact kk _ σ8 ⟨hW9, Λ3, Λ4, g9, κ9, k9, sf8, se8, hLW5, ⟨hMf, hGf, hko9⟩, hRM8⟩ htl9
  · omega

set_option maxHeartbeats 4000000 in
set_option maxRecDepth 100000 in
theorem L_join {x : tmX} {sb l : Nat} {xs : Nat → Int32} (hL : LwC x sb l xs) {o ko : Nat} {ρ : Nat → Nat} {i : Int} (hi : 0 ≤ i ∧ i + 7 ≤ l) {w : tmL} {σ : ST} (hS : LwS x o ko ρ w σ) {c9 s9 : Nat} (kk : ∀ w' σ', LwS x o ko ρ w' σ' → s_tl σ' ≤ s_tl σ + 9 → tm_V x (tm_H x w') c9 s9 1641 [(0, .ref sb), (1, .ref ko), (2, .ref (ρ 0)), (3, .ref o), (4, .int (I i))] []) : tm_V x (tm_H x w) (9 + c9) (1231 + s9) 1027 [(0, .ref sb), (1, .ref ko), (2, .ref (ρ 0)), (3, .ref o), (4, .int (I i))] [] := by
  obtain ⟨⟨hC, hB⟩, hst, hNc, hX⟩ := hL
  have hl9 := hX.2.2.2
  obtain ⟨hW, Λ1, Λ2, f, κ, th, sf, se, hLW, ⟨hM, hG, hko⟩, hRM⟩ := hS
  have hw := hW.1
  refine tm_aload_n 1 hC dL_law_1027 rfl rfl ?_
  refine tm_aload_n 0 hC dL_law_1028 rfl rfl ?_
  refine tm_iload 4 hC dL_law_1029 rfl ?_
  refine tm_iconst hC dL_law_1031 ?_
  refine tm_iadd hC dL_law_1032 ?_
  refine tm_sld hC hX (by omega) dL_law_1033 ?_
  refine tm_aload_n 0 hC dL_law_1034 rfl rfl ?_
  refine tm_iload 4 hC dL_law_1035 rfl ?_
  refine tm_iconst hC dL_law_1037 ?_
  refine tm_iadd hC dL_law_1038 ?_
  refine tm_sld hC hX (by omega) dL_law_1039 ?_
  refine tm_aload_n 0 hC dL_law_1040 rfl rfl ?_
  refine tm_iload 4 hC dL_law_1041 rfl ?_
  refine tm_iconst hC dL_law_1043 ?_
  refine tm_iadd hC dL_law_1044 ?_
  refine tm_sld hC hX (by omega) dL_law_1045 ?_
  refine tm_aload_n 0 hC dL_law_1046 rfl rfl ?_
  refine tm_iload 4 hC dL_law_1047 rfl ?_
  refine tm_iconst hC dL_law_1049 ?_
  refine tm_iadd hC dL_law_1050 ?_
  refine tm_sld hC hX (by omega) dL_law_1051 ?_
  refine tm_aload_n 0 hC dL_law_1052 rfl rfl ?_
  refine tm_iload 4 hC dL_law_1053 rfl ?_
  refine tm_iconst hC dL_law_1055 ?_
  refine tm_iadd hC dL_law_1056 ?_
  refine tm_sld hC hX (by omega) dL_law_1057 ?_
  refine tm_aload_n 0 hC dL_law_1058 rfl rfl ?_
  refine tm_iload 4 hC dL_law_1059 rfl ?_
  refine tm_bipush hC dL_law_1061 rfl ?_
  refine tm_iadd hC dL_law_1063 ?_
  refine tm_sld hC hX (by omega) dL_law_1064 ?_
  refine tm_aload_n 3 hC dL_law_1065 rfl rfl ?_
  obtain ⟨hwE, hd1, ok1, ok2, ho1⟩ := LW_c hLW
  rw [hwE]
  refine tm_less (b' := 9 + c9) (n' := 1231 + s9) ⟨by omega, by omega⟩ ?_
  have hcn9 := h_join (tm_g x) hst Λ1 (un Λ2 (oW (tm_T x) o f)) hd1 ok1 ok2 κ σ hM hw hW hG o f ho1 (sx xs (i + 1)) (sx xs (i + 2)) (sx xs (i + 3)) (sx xs (i + 4)) (sx xs (i + 5)) (sx xs (i + 6)) ⟨sx_rg xs _, sx_rg xs _, sx_rg xs _, sx_rg xs _, sx_rg xs _, sx_rg xs _⟩
  rw [hko] at hcn9
  refine tm_callSW (b := c9) (n := s9) (rest := []) hC hNc hcn9 ks_L_129 (by rw [hB.2.2.1]; exact ⟨Nat.le_of_ble_eq_true rfl, Nat.le_of_ble_eq_true rfl⟩) rfl rfl (by decide) dL_law_1066 (fun v9 w9 z9 => ?_)
  obtain ⟨Λ3, κ9, σ9, k9, r9, g9, hd3, ok3, hwe3, hM9, hG9, hko9, rfl, hk9, hS9, hg9⟩ := z9
  have hLW3 := LW_ch hLW hd3 ok3 hwe3
  show tm_V x (tm_H x w9) c9 s9 1069 [(0, .ref (sb)), (1, .ref (ko)), (2, .ref (ρ 0)), (3, .ref (o)), (4, .int (I (i)))] [.int (I (k9))]
  refine tm_istore [(5, .int (I (k9))), (0, .ref (sb)), (1, .ref (ko)), (2, .ref (ρ 0)), (3, .ref (o)), (4, .int (I (i)))] hC dL_law_1069 (by rw [hB.2.1]; exact Nat.le_of_ble_eq_true rfl) rfl ?_
  refine tm_aload_n 3 hC dL_law_1071 rfl rfl ?_
  refine tm_aload_n 1 hC dL_law_1072 rfl rfl ?_
  refine tm_iload 5 hC dL_law_1073 rfl ?_
  refine tm_iconst hC dL_law_1075 ?_
  refine tm_iadd hC dL_law_1076 ?_
  refine tm_sld hC hX (by omega) dL_law_1077 ?_
  refine tm_aload_n 1 hC dL_law_1078 rfl rfl ?_
  refine tm_iload 5 hC dL_law_1079 rfl ?_
  refine tm_iconst hC dL_law_1081 ?_
  refine tm_iadd hC dL_law_1082 ?_
  refine tm_sld hC hX (by omega) dL_law_1083 ?_
  refine tm_aload_n 1 hC dL_law_1084 rfl rfl ?_
  refine tm_iload 5 hC dL_law_1085 rfl ?_
  refine tm_iconst hC dL_law_1087 ?_
  refine tm_iadd hC dL_law_1088 ?_
  refine tm_sld hC hX (by omega) dL_law_1089 ?_
  refine tm_aload_n 1 hC dL_law_1090 rfl rfl ?_
  refine tm_iload 5 hC dL_law_1091 rfl ?_
  refine tm_iconst hC dL_law_1093 ?_
  refine tm_iadd hC dL_law_1094 ?_
  refine tm_sld hC hX (by omega) dL_law_1095 ?_
  refine tm_aload_n 1 hC dL_law_1096 rfl rfl ?_
  refine tm_iload 5 hC dL_law_1097 rfl ?_
  refine tm_iconst hC dL_law_1099 ?_
  refine tm_iadd hC dL_law_1100 ?_
  refine tm_sld hC hX (by omega) dL_law_1101 ?_
  refine tm_aload_n 1 hC dL_law_1102 rfl rfl ?_
  refine tm_iload 5 hC dL_law_1103 rfl ?_
  refine tm_bipush hC dL_law_1105 rfl ?_
  refine tm_iadd hC dL_law_1107 ?_
  refine tm_sld hC hX (by omega) dL_law_1108 ?_
  obtain ⟨hwE4, hd4, ok4, ok5⟩ := LW_m hLW3
  rw [hwE4]
  refine tm_less (b' := 0 + c9) (n' := 0 + s9) ⟨by omega, by omega⟩ ?_
  refine tm_callV (b := c9) (n := s9) (rest := []) hC (fr_con hd4 ok4 ok5 (c_M_join (tm_g x) hst Λ2 ρ th sf se σ hRM hw (sx xs (i + 1)) (sx xs (i + 2)) (sx xs (i + 3)) (sx xs (i + 4)) (sx xs (i + 5)) (sx xs (i + 6)) ⟨sx_rg xs _, sx_rg xs _, sx_rg xs _, sx_rg xs _, sx_rg xs _, sx_rg xs _⟩ hW)) k_L_132 (by rw [hB.2.2.1]; exact ⟨Nat.le_of_ble_eq_true rfl, Nat.le_of_ble_eq_true rfl⟩) rfl (tm_rec2 hC (un_1 hRM.1) rfl) rfl (by decide) dL_law_1109 (fun v8 w8 z8 => ?_)
  obtain ⟨Λ4, ⟨k8, sf8, se8, r8, σ8, hRM8, rfl, hS8⟩, hd8, ok8, hwe8⟩ := z8
  have hLW4 := LW_mm hLW3 hd8 ok8 hwe8
  obtain ⟨hkk9, hTR9, ⟨hW9, htl9⟩, hrr9⟩ : Agr σ k9 k8 σ9 σ8 r9 r8 := U_join hW hS9 hS8
  subst hkk9
  obtain ⟨hMf, hGf⟩ := hTR9 _ _ _ hM9 hG9
  show tm_V x (tm_H x w8) c9 s9 1112 [(5, .int (I (k9))), (0, .ref (sb)), (1, .ref (ko)), (2, .ref (ρ 0)), (3, .ref (o)), (4, .int (I (i)))] [.int (I (r8))]
  refine tm_istore [(6, .int (I (r8))), (5, .int (I (k9))), (0, .ref (sb)), (1, .ref (ko)), (2, .ref (ρ 0)), (3, .ref (o)), (4, .int (I (i)))] hC dL_law_1112 (by rw [hB.2.1]; exact Nat.le_of_ble_eq_true rfl) rfl ?_
  refine tm_aload_n 4 hC dL_law_1114 rfl rfl ?_
  obtain ⟨hwE5, hd5, ok6, ok7⟩ := LW_m hLW4
  rw [hwE5]
  refine tm_less (b' := 0 + c9) (n' := 0 + s9) ⟨by omega, by omega⟩ ?_
  refine tm_callV (b := c9) (n := s9) (rest := []) hC (fr_con hd5 ok6 ok7 (c_M_thrown (tm_g x) hst Λ4 ρ k9 sf8 se8 σ8 hRM8 hW9.1)) k_L_91 (by rw [hB.2.2.1]; exact ⟨Nat.le_of_ble_eq_true rfl, Nat.le_of_ble_eq_true rfl⟩) rfl (tm_rec2 hC (un_1 hRM8.1) rfl) rfl (by decide) dL_law_1115 (fun v7 w7 z7 => ?_)
  obtain ⟨Λ5, ⟨rfl, rfl⟩, hd7, ok9, hwe7⟩ := z7
  have hLW5 := LW_mm hLW4 hd7 ok9 hwe7
  obtain ⟨hwE6, hd6, -, -, ho6⟩ := LW_c hLW5
  have hou6 : w7 o = some (.inl (tm_al (tm_T x) 1 g9)) := by rw [hwE6]; exact un_2 hd6 ho6
  show tm_V x (tm_H x w7) c9 s9 1118 [(6, .int (I (r8))), (5, .int (I (k9))), (0, .ref (sb)), (1, .ref (ko)), (2, .ref (ρ 0)), (3, .ref (o)), (4, .int (I (i)))] [.int (I (k9))]
  refine tm_iload 1 hC dL_law_1118 rfl ?_
  refine tm_icmp_eq 1125 hC dL_law_1120 (by decide) (by omega) (fun c_1 => ?_) (fun c_1 => ?_)
  · refine tm_iload 1 hC dL_law_1125 rfl ?_
    refine tm_if_ne 1142 hC dL_law_1127 (by decide) (by omega) (fun c_2 => ?_) (fun c_2 => ?_)
    · refine tm_goto 1641 hC dL_law_1142 (by decide) ?_
      refine tm_sub (L' := [(0, .ref (sb)), (1, .ref (ko)), (2, .ref (ρ 0)), (3, .ref (o)), (4, .int (I (i)))]) [2, 3, 4, 5, 6] rfl ?_
      exact kk _ σ8 ⟨hW9, Λ3, Λ4, g9, κ9, k9, sf8, se8, hLW5, ⟨hMf, hGf, hko9⟩, hRM8⟩ htl9
    · refine tm_aload_n 5 hC dL_law_1130 rfl rfl ?_
      refine tm_iconst hC dL_law_1131 ?_
      refine tm_lald2 hC hou6 (by omega) dL_law_1132 ?_
      refine tm_iload 0 hC dL_law_1133 rfl ?_
      refine tm_i2l hC dL_law_1135 ?_
      refine tm_lcmpE (by rw [show r8 = r9 from (hrr9 (by omega)).symm]; exact hg9 (by omega)) hC dL_law_1136 ?_
      refine tm_if_eq 1142 hC dL_law_1137 (by decide) (by omega) (fun _ => ?_) (fun c => absurd (by omega) c)
      refine tm_goto 1641 hC dL_law_1142 (by decide) ?_
      refine tm_sub (L' := [(0, .ref (sb)), (1, .ref (ko)), (2, .ref (ρ 0)), (3, .ref (o)), (4, .int (I (i)))]) [2, 3, 4, 5, 6] rfl ?_
      exact kk _ σ8 ⟨hW9, Λ3, Λ4, g9, κ9, k9, sf8, se8, hLW5, ⟨hMf, hGf, hko9⟩, hRM8⟩ htl9
  · omega

set_option maxHeartbeats 4000000 in
set_option maxRecDepth 100000 in
theorem L_undo {x : tmX} {sb l : Nat} {xs : Nat → Int32} (hL : LwC x sb l xs) {o ko : Nat} {ρ : Nat → Nat} {i : Int} (hi : 0 ≤ i ∧ i + 7 ≤ l) {w : tmL} {σ : ST} (hS : LwS x o ko ρ w σ) {c9 s9 : Nat} (kk : ∀ w' σ', LwS x o ko ρ w' σ' → s_tl σ' ≤ s_tl σ + 9 → tm_V x (tm_H x w') c9 s9 1641 [(0, .ref sb), (1, .ref ko), (2, .ref (ρ 0)), (3, .ref o), (4, .int (I i))] []) : tm_V x (tm_H x w) (1 + c9) (6 + s9) 1145 [(0, .ref sb), (1, .ref ko), (2, .ref (ρ 0)), (3, .ref o), (4, .int (I i))] [] := by
  obtain ⟨⟨hC, hB⟩, hst, hNc, hX⟩ := hL
  have hl9 := hX.2.2.2
  obtain ⟨hW, Λ1, Λ2, f, κ, th, sf, se, hLW, ⟨hM, hG, hko⟩, hRM⟩ := hS
  have hw := hW.1
  refine tm_aload_n 1 hC dL_law_1145 rfl rfl ?_
  refine tm_aload_n 3 hC dL_law_1146 rfl rfl ?_
  obtain ⟨hwE, hd1, ok1, ok2, ho1⟩ := LW_c hLW
  rw [hwE]
  refine tm_less (b' := 1 + c9) (n' := 6 + s9) ⟨by omega, by omega⟩ ?_
  have hcn9 := h_undo (tm_g x) hst Λ1 (un Λ2 (oW (tm_T x) o f)) hd1 ok1 ok2 κ σ hM hw hW hG o f ho1 
  rw [hko] at hcn9
  refine tm_callSW (b := c9) (n := s9) (rest := []) hC hNc hcn9 ks_L_133 (by rw [hB.2.2.1]; exact ⟨Nat.le_of_ble_eq_true rfl, Nat.le_of_ble_eq_true rfl⟩) rfl rfl (by decide) dL_law_1147 (fun v9 w9 z9 => ?_)
  obtain ⟨Λ3, κ9, σ9, k9, r9, g9, hd3, ok3, hwe3, hM9, hG9, hko9, rfl, hk9, hS9, hg9⟩ := z9
  have hLW3 := LW_ch hLW hd3 ok3 hwe3
  show tm_V x (tm_H x w9) c9 s9 1150 [(0, .ref (sb)), (1, .ref (ko)), (2, .ref (ρ 0)), (3, .ref (o)), (4, .int (I (i)))] [.int (I (k9))]
  refine tm_istore [(5, .int (I (k9))), (0, .ref (sb)), (1, .ref (ko)), (2, .ref (ρ 0)), (3, .ref (o)), (4, .int (I (i)))] hC dL_law_1150 (by rw [hB.2.1]; exact Nat.le_of_ble_eq_true rfl) rfl ?_
  refine tm_aload_n 3 hC dL_law_1152 rfl rfl ?_
  obtain ⟨hwE4, hd4, ok4, ok5⟩ := LW_m hLW3
  rw [hwE4]
  refine tm_less (b' := 0 + c9) (n' := 0 + s9) ⟨by omega, by omega⟩ ?_
  refine tm_callV (b := c9) (n := s9) (rest := []) hC (fr_con hd4 ok4 ok5 (c_M_undo (tm_g x) hst Λ2 ρ th sf se σ hRM hw  hW)) k_L_136 (by rw [hB.2.2.1]; exact ⟨Nat.le_of_ble_eq_true rfl, Nat.le_of_ble_eq_true rfl⟩) rfl (tm_rec2 hC (un_1 hRM.1) rfl) rfl (by decide) dL_law_1153 (fun v8 w8 z8 => ?_)
  obtain ⟨Λ4, ⟨k8, sf8, se8, r8, σ8, hRM8, rfl, hS8⟩, hd8, ok8, hwe8⟩ := z8
  have hLW4 := LW_mm hLW3 hd8 ok8 hwe8
  obtain ⟨hkk9, hTR9, ⟨hW9, htl9⟩, hrr9⟩ : Agr σ k9 k8 σ9 σ8 r9 r8 := U_undo hW hS9 hS8
  subst hkk9
  obtain ⟨hMf, hGf⟩ := hTR9 _ _ _ hM9 hG9
  show tm_V x (tm_H x w8) c9 s9 1156 [(5, .int (I (k9))), (0, .ref (sb)), (1, .ref (ko)), (2, .ref (ρ 0)), (3, .ref (o)), (4, .int (I (i)))] [.int (I (r8))]
  refine tm_istore [(6, .int (I (r8))), (5, .int (I (k9))), (0, .ref (sb)), (1, .ref (ko)), (2, .ref (ρ 0)), (3, .ref (o)), (4, .int (I (i)))] hC dL_law_1156 (by rw [hB.2.1]; exact Nat.le_of_ble_eq_true rfl) rfl ?_
  refine tm_aload_n 4 hC dL_law_1158 rfl rfl ?_
  obtain ⟨hwE5, hd5, ok6, ok7⟩ := LW_m hLW4
  rw [hwE5]
  refine tm_less (b' := 0 + c9) (n' := 0 + s9) ⟨by omega, by omega⟩ ?_
  refine tm_callV (b := c9) (n := s9) (rest := []) hC (fr_con hd5 ok6 ok7 (c_M_thrown (tm_g x) hst Λ4 ρ k9 sf8 se8 σ8 hRM8 hW9.1)) k_L_91 (by rw [hB.2.2.1]; exact ⟨Nat.le_of_ble_eq_true rfl, Nat.le_of_ble_eq_true rfl⟩) rfl (tm_rec2 hC (un_1 hRM8.1) rfl) rfl (by decide) dL_law_1159 (fun v7 w7 z7 => ?_)
  obtain ⟨Λ5, ⟨rfl, rfl⟩, hd7, ok9, hwe7⟩ := z7
  have hLW5 := LW_mm hLW4 hd7 ok9 hwe7
  obtain ⟨hwE6, hd6, -, -, ho6⟩ := LW_c hLW5
  have hou6 : w7 o = some (.inl (tm_al (tm_T x) 1 g9)) := by rw [hwE6]; exact un_2 hd6 ho6
  show tm_V x (tm_H x w7) c9 s9 1162 [(6, .int (I (r8))), (5, .int (I (k9))), (0, .ref (sb)), (1, .ref (ko)), (2, .ref (ρ 0)), (3, .ref (o)), (4, .int (I (i)))] [.int (I (k9))]
  refine tm_iload 1 hC dL_law_1162 rfl ?_
  refine tm_icmp_eq 1169 hC dL_law_1164 (by decide) (by omega) (fun c_1 => ?_) (fun c_1 => ?_)
  · refine tm_iload 1 hC dL_law_1169 rfl ?_
    refine tm_if_ne 1186 hC dL_law_1171 (by decide) (by omega) (fun c_2 => ?_) (fun c_2 => ?_)
    · refine tm_goto 1641 hC dL_law_1186 (by decide) ?_
      refine tm_sub (L' := [(0, .ref (sb)), (1, .ref (ko)), (2, .ref (ρ 0)), (3, .ref (o)), (4, .int (I (i)))]) [2, 3, 4, 5, 6] rfl ?_
      exact kk _ σ8 ⟨hW9, Λ3, Λ4, g9, κ9, k9, sf8, se8, hLW5, ⟨hMf, hGf, hko9⟩, hRM8⟩ htl9
    · refine tm_aload_n 5 hC dL_law_1174 rfl rfl ?_
      refine tm_iconst hC dL_law_1175 ?_
      refine tm_lald2 hC hou6 (by omega) dL_law_1176 ?_
      refine tm_iload 0 hC dL_law_1177 rfl ?_
      refine tm_i2l hC dL_law_1179 ?_
      refine tm_lcmpE (by rw [show r8 = r9 from (hrr9 (by omega)).symm]; exact hg9 (by omega)) hC dL_law_1180 ?_
      refine tm_if_eq 1186 hC dL_law_1181 (by decide) (by omega) (fun _ => ?_) (fun c => absurd (by omega) c)
      refine tm_goto 1641 hC dL_law_1186 (by decide) ?_
      refine tm_sub (L' := [(0, .ref (sb)), (1, .ref (ko)), (2, .ref (ρ 0)), (3, .ref (o)), (4, .int (I (i)))]) [2, 3, 4, 5, 6] rfl ?_
      exact kk _ σ8 ⟨hW9, Λ3, Λ4, g9, κ9, k9, sf8, se8, hLW5, ⟨hMf, hGf, hko9⟩, hRM8⟩ htl9
  · omega

set_option maxHeartbeats 4000000 in
set_option maxRecDepth 100000 in
theorem L_plan {x : tmX} {sb l : Nat} {xs : Nat → Int32} (hL : LwC x sb l xs) {o ko : Nat} {ρ : Nat → Nat} {i : Int} (hi : 0 ≤ i ∧ i + 7 ≤ l) {w : tmL} {σ : ST} (hS : LwS x o ko ρ w σ) {c9 s9 : Nat} (N : Nat) (s0 : ST) (hN : PlanN N σ s0) (kk : ∀ w', LwS x o ko ρ w' s0 → tm_V x (tm_H x w') c9 s9 1641 [(0, .ref sb), (1, .ref ko), (2, .ref (ρ 0)), (3, .ref o), (4, .int (I i))] []) : tm_V x (tm_H x w) (4 * N + c9) (808 * N + s9) 1189 [(0, .ref sb), (1, .ref ko), (2, .ref (ρ 0)), (3, .ref o), (4, .int (I i))] [] := by
  obtain ⟨⟨hC, hB⟩, hst, hNc, hX⟩ := hL
  have hl9 := hX.2.2.2
  obtain ⟨hW, Λ1, Λ2, f, κ, th, sf, se, hLW, ⟨hM, hG, hko⟩, hRM⟩ := hS
  have hw := hW.1
  refine tm_aload_n 1 hC dL_law_1189 rfl rfl ?_
  obtain ⟨hwE, hd1, ok1, ok2, ho1⟩ := LW_c hLW
  rw [hwE]
  refine tm_less (b' := (4 * N) + c9) (n' := (808 * N) + s9) ⟨by omega, by omega⟩ ?_
  have hcn9 := fr_con hd1 ok1 ok2 (c_T_plan (tm_g x) hst Λ1 κ σ hM hw hW hG N s0 hN)
  rw [hko] at hcn9
  refine tm_callV (b := c9) (n := s9) (rest := []) hC hcn9 k_L_137 (by rw [hB.2.2.1]; exact ⟨Nat.le_of_ble_eq_true rfl, Nat.le_of_ble_eq_true rfl⟩) rfl (tm_rec2 hC (un_1 (hko ▸ rc_o hM)) rfl) rfl (by decide) dL_law_1190 (fun v9 w9 z9 => ?_)
  obtain ⟨Λ3, ⟨κ9, hM9, hG9, hko9, rfl⟩, hd3, ok3, hwe3⟩ := z9
  have hLW3 := LW_cc hLW hd3 ok3 hwe3
  show tm_V x (tm_H x w9) c9 s9 1193 [(0, .ref (sb)), (1, .ref (ko)), (2, .ref (ρ 0)), (3, .ref (o)), (4, .int (I (i)))] [.int (I ((N : Int)))]
  refine tm_aload_n 2 hC dL_law_1193 rfl rfl ?_
  obtain ⟨hwE4, hd4, ok4, ok5⟩ := LW_m hLW3
  rw [hwE4]
  refine tm_less (b' := 0 + c9) (n' := 0 + s9) ⟨by omega, by omega⟩ ?_
  refine tm_callV (b := c9) (n := s9) (rest := [.int (I ((N : Int)))]) hC (fr_con hd4 ok4 ok5 (c_M_plan (tm_g x) hst Λ2 ρ th sf se σ hRM hw hW)) k_L_140 (by rw [hB.2.2.1]; exact ⟨Nat.le_of_ble_eq_true rfl, Nat.le_of_ble_eq_true rfl⟩) rfl (tm_rec2 hC (un_1 hRM.1) rfl) rfl (by simp [Value.category]) dL_law_1194 (fun v8 w8 z8 => ?_)
  obtain ⟨Λ4, ⟨r8, σ8, hRM8, rfl, hS8, hr8⟩, hd8, ok8, hwe8⟩ := z8
  have hLW4 := LW_mm hLW3 hd8 ok8 hwe8
  obtain ⟨hNN, hss⟩ := PlanN_u _ _ hN hS8
  subst hNN
  subst hss
  show tm_V x (tm_H x w8) c9 s9 1197 [(0, .ref (sb)), (1, .ref (ko)), (2, .ref (ρ 0)), (3, .ref (o)), (4, .int (I (i)))] [.int (I ((N : Int))), .int (I ((N : Int)))]
  refine tm_icmp_eq 1641 hC dL_law_1197 (by decide) (by omega) (fun c_1 => ?_) (fun c_1 => ?_)
  · refine tm_sub (L' := [(0, .ref (sb)), (1, .ref (ko)), (2, .ref (ρ 0)), (3, .ref (o)), (4, .int (I (i)))]) [0, 1, 2, 3, 4] rfl ?_
    exact kk _ ⟨(PlanN_wf _ hW hN).1, Λ3, Λ4, f, κ9, 0, sf, se, hLW4, ⟨hM9, hG9, hko9⟩, hRM8⟩
  · omega

set_option maxHeartbeats 4000000 in
set_option maxRecDepth 100000 in
theorem L_left {x : tmX} {sb l : Nat} {xs : Nat → Int32} (hL : LwC x sb l xs) {o ko : Nat} {ρ : Nat → Nat} {i : Int} (hi : 0 ≤ i ∧ i + 7 ≤ l) {w : tmL} {σ : ST} (hS : LwS x o ko ρ w σ) {c9 s9 : Nat} (kk : ∀ w' σ', LwS x o ko ρ w' σ' → s_tl σ' ≤ s_tl σ + 9 → tm_V x (tm_H x w') c9 s9 1641 [(0, .ref sb), (1, .ref ko), (2, .ref (ρ 0)), (3, .ref o), (4, .int (I i))] []) : tm_V x (tm_H x w) (1 + c9) (6 + s9) 1202 [(0, .ref sb), (1, .ref ko), (2, .ref (ρ 0)), (3, .ref o), (4, .int (I i))] [] := by
  obtain ⟨⟨hC, hB⟩, hst, hNc, hX⟩ := hL
  have hl9 := hX.2.2.2
  obtain ⟨hW, Λ1, Λ2, f, κ, th, sf, se, hLW, ⟨hM, hG, hko⟩, hRM⟩ := hS
  have hw := hW.1
  refine tm_aload_n 1 hC dL_law_1202 rfl rfl ?_
  refine tm_aload_n 0 hC dL_law_1203 rfl rfl ?_
  refine tm_iload 4 hC dL_law_1204 rfl ?_
  refine tm_iconst hC dL_law_1206 ?_
  refine tm_iadd hC dL_law_1207 ?_
  refine tm_sld hC hX (by omega) dL_law_1208 ?_
  refine tm_aload_n 3 hC dL_law_1209 rfl rfl ?_
  obtain ⟨hwE, hd1, ok1, ok2, ho1⟩ := LW_c hLW
  rw [hwE]
  refine tm_less (b' := 1 + c9) (n' := 6 + s9) ⟨by omega, by omega⟩ ?_
  have hcn9 := h_left (tm_g x) hst Λ1 (un Λ2 (oW (tm_T x) o f)) hd1 ok1 ok2 κ σ hM hw hW hG o f ho1 (sx xs (i + 1)) (sx_rg xs _)
  rw [hko] at hcn9
  refine tm_callSW (b := c9) (n := s9) (rest := []) hC hNc hcn9 ks_L_141 (by rw [hB.2.2.1]; exact ⟨Nat.le_of_ble_eq_true rfl, Nat.le_of_ble_eq_true rfl⟩) rfl rfl (by decide) dL_law_1210 (fun v9 w9 z9 => ?_)
  obtain ⟨Λ3, κ9, σ9, k9, r9, g9, hd3, ok3, hwe3, hM9, hG9, hko9, rfl, hk9, hS9, hg9⟩ := z9
  have hLW3 := LW_ch hLW hd3 ok3 hwe3
  show tm_V x (tm_H x w9) c9 s9 1213 [(0, .ref (sb)), (1, .ref (ko)), (2, .ref (ρ 0)), (3, .ref (o)), (4, .int (I (i)))] [.int (I (k9))]
  refine tm_istore [(5, .int (I (k9))), (0, .ref (sb)), (1, .ref (ko)), (2, .ref (ρ 0)), (3, .ref (o)), (4, .int (I (i)))] hC dL_law_1213 (by rw [hB.2.1]; exact Nat.le_of_ble_eq_true rfl) rfl ?_
  refine tm_aload_n 3 hC dL_law_1215 rfl rfl ?_
  refine tm_aload_n 1 hC dL_law_1216 rfl rfl ?_
  refine tm_iload 5 hC dL_law_1217 rfl ?_
  refine tm_iconst hC dL_law_1219 ?_
  refine tm_iadd hC dL_law_1220 ?_
  refine tm_sld hC hX (by omega) dL_law_1221 ?_
  obtain ⟨hwE4, hd4, ok4, ok5⟩ := LW_m hLW3
  rw [hwE4]
  refine tm_less (b' := 0 + c9) (n' := 0 + s9) ⟨by omega, by omega⟩ ?_
  refine tm_callV (b := c9) (n := s9) (rest := []) hC (fr_con hd4 ok4 ok5 (c_M_left (tm_g x) hst Λ2 ρ th sf se σ hRM hw (sx xs (i + 1)) (sx_rg xs _))) k_L_143 (by rw [hB.2.2.1]; exact ⟨Nat.le_of_ble_eq_true rfl, Nat.le_of_ble_eq_true rfl⟩) rfl (tm_rec2 hC (un_1 hRM.1) rfl) rfl (by decide) dL_law_1222 (fun v8 w8 z8 => ?_)
  obtain ⟨Λ4, ⟨k8, sf8, se8, r8, hRM8, rfl, hS8⟩, hd8, ok8, hwe8⟩ := z8
  have hLW4 := LW_mm hLW3 hd8 ok8 hwe8
  obtain ⟨hkk9, hTR9, ⟨hW9, htl9⟩, hrr9⟩ : Agr σ k9 k8 σ9 σ r9 r8 := U_left hW hS9 hS8
  subst hkk9
  obtain ⟨hMf, hGf⟩ := hTR9 _ _ _ hM9 hG9
  show tm_V x (tm_H x w8) c9 s9 1225 [(5, .int (I (k9))), (0, .ref (sb)), (1, .ref (ko)), (2, .ref (ρ 0)), (3, .ref (o)), (4, .int (I (i)))] [.int (I (r8))]
  refine tm_istore [(6, .int (I (r8))), (5, .int (I (k9))), (0, .ref (sb)), (1, .ref (ko)), (2, .ref (ρ 0)), (3, .ref (o)), (4, .int (I (i)))] hC dL_law_1225 (by rw [hB.2.1]; exact Nat.le_of_ble_eq_true rfl) rfl ?_
  refine tm_aload_n 4 hC dL_law_1227 rfl rfl ?_
  obtain ⟨hwE5, hd5, ok6, ok7⟩ := LW_m hLW4
  rw [hwE5]
  refine tm_less (b' := 0 + c9) (n' := 0 + s9) ⟨by omega, by omega⟩ ?_
  refine tm_callV (b := c9) (n := s9) (rest := []) hC (fr_con hd5 ok6 ok7 (c_M_thrown (tm_g x) hst Λ4 ρ k9 sf8 se8 σ hRM8 hW9.1)) k_L_91 (by rw [hB.2.2.1]; exact ⟨Nat.le_of_ble_eq_true rfl, Nat.le_of_ble_eq_true rfl⟩) rfl (tm_rec2 hC (un_1 hRM8.1) rfl) rfl (by decide) dL_law_1228 (fun v7 w7 z7 => ?_)
  obtain ⟨Λ5, ⟨rfl, rfl⟩, hd7, ok9, hwe7⟩ := z7
  have hLW5 := LW_mm hLW4 hd7 ok9 hwe7
  obtain ⟨hwE6, hd6, -, -, ho6⟩ := LW_c hLW5
  have hou6 : w7 o = some (.inl (tm_al (tm_T x) 1 g9)) := by rw [hwE6]; exact un_2 hd6 ho6
  show tm_V x (tm_H x w7) c9 s9 1231 [(6, .int (I (r8))), (5, .int (I (k9))), (0, .ref (sb)), (1, .ref (ko)), (2, .ref (ρ 0)), (3, .ref (o)), (4, .int (I (i)))] [.int (I (k9))]
  refine tm_iload 1 hC dL_law_1231 rfl ?_
  refine tm_icmp_eq 1238 hC dL_law_1233 (by decide) (by omega) (fun c_1 => ?_) (fun c_1 => ?_)
  · refine tm_iload 1 hC dL_law_1238 rfl ?_
    refine tm_if_ne 1255 hC dL_law_1240 (by decide) (by omega) (fun c_2 => ?_) (fun c_2 => ?_)
    · refine tm_goto 1641 hC dL_law_1255 (by decide) ?_
      refine tm_sub (L' := [(0, .ref (sb)), (1, .ref (ko)), (2, .ref (ρ 0)), (3, .ref (o)), (4, .int (I (i)))]) [2, 3, 4, 5, 6] rfl ?_
      exact kk _ σ ⟨hW9, Λ3, Λ4, g9, κ9, k9, sf8, se8, hLW5, ⟨hMf, hGf, hko9⟩, hRM8⟩ htl9
    · refine tm_aload_n 5 hC dL_law_1243 rfl rfl ?_
      refine tm_iconst hC dL_law_1244 ?_
      refine tm_lald2 hC hou6 (by omega) dL_law_1245 ?_
      refine tm_iload 0 hC dL_law_1246 rfl ?_
      refine tm_i2l hC dL_law_1248 ?_
      refine tm_lcmpE (by rw [show r8 = r9 from (hrr9 (by omega)).symm]; exact hg9 (by omega)) hC dL_law_1249 ?_
      refine tm_if_eq 1255 hC dL_law_1250 (by decide) (by omega) (fun _ => ?_) (fun c => absurd (by omega) c)
      refine tm_goto 1641 hC dL_law_1255 (by decide) ?_
      refine tm_sub (L' := [(0, .ref (sb)), (1, .ref (ko)), (2, .ref (ρ 0)), (3, .ref (o)), (4, .int (I (i)))]) [2, 3, 4, 5, 6] rfl ?_
      exact kk _ σ ⟨hW9, Λ3, Λ4, g9, κ9, k9, sf8, se8, hLW5, ⟨hMf, hGf, hko9⟩, hRM8⟩ htl9
  · omega

set_option maxHeartbeats 4000000 in
set_option maxRecDepth 100000 in
theorem L_pieces {x : tmX} {sb l : Nat} {xs : Nat → Int32} (hL : LwC x sb l xs) {o ko : Nat} {ρ : Nat → Nat} {i : Int} (hi : 0 ≤ i ∧ i + 7 ≤ l) {w : tmL} {σ : ST} (hS : LwS x o ko ρ w σ) {c9 s9 : Nat} (kk : ∀ w' σ', LwS x o ko ρ w' σ' → s_tl σ' ≤ s_tl σ + 9 → tm_V x (tm_H x w') c9 s9 1641 [(0, .ref sb), (1, .ref ko), (2, .ref (ρ 0)), (3, .ref o), (4, .int (I i))] []) : tm_V x (tm_H x w) (1 + c9) (6 + s9) 1258 [(0, .ref sb), (1, .ref ko), (2, .ref (ρ 0)), (3, .ref o), (4, .int (I i))] [] := by
  obtain ⟨⟨hC, hB⟩, hst, hNc, hX⟩ := hL
  have hl9 := hX.2.2.2
  obtain ⟨hW, Λ1, Λ2, f, κ, th, sf, se, hLW, ⟨hM, hG, hko⟩, hRM⟩ := hS
  have hw := hW.1
  refine tm_aload_n 1 hC dL_law_1258 rfl rfl ?_
  refine tm_aload_n 0 hC dL_law_1259 rfl rfl ?_
  refine tm_iload 4 hC dL_law_1260 rfl ?_
  refine tm_iconst hC dL_law_1262 ?_
  refine tm_iadd hC dL_law_1263 ?_
  refine tm_sld hC hX (by omega) dL_law_1264 ?_
  refine tm_aload_n 3 hC dL_law_1265 rfl rfl ?_
  obtain ⟨hwE, hd1, ok1, ok2, ho1⟩ := LW_c hLW
  rw [hwE]
  refine tm_less (b' := 1 + c9) (n' := 6 + s9) ⟨by omega, by omega⟩ ?_
  have hcn9 := h_pieces (tm_g x) hst Λ1 (un Λ2 (oW (tm_T x) o f)) hd1 ok1 ok2 κ σ hM hw hW hG o f ho1 (sx xs (i + 1)) (sx_rg xs _)
  rw [hko] at hcn9
  refine tm_callSW (b := c9) (n := s9) (rest := []) hC hNc hcn9 ks_L_144 (by rw [hB.2.2.1]; exact ⟨Nat.le_of_ble_eq_true rfl, Nat.le_of_ble_eq_true rfl⟩) rfl rfl (by decide) dL_law_1266 (fun v9 w9 z9 => ?_)
  obtain ⟨Λ3, κ9, σ9, k9, r9, g9, hd3, ok3, hwe3, hM9, hG9, hko9, rfl, hk9, hS9, hg9⟩ := z9
  have hLW3 := LW_ch hLW hd3 ok3 hwe3
  show tm_V x (tm_H x w9) c9 s9 1269 [(0, .ref (sb)), (1, .ref (ko)), (2, .ref (ρ 0)), (3, .ref (o)), (4, .int (I (i)))] [.int (I (k9))]
  refine tm_istore [(5, .int (I (k9))), (0, .ref (sb)), (1, .ref (ko)), (2, .ref (ρ 0)), (3, .ref (o)), (4, .int (I (i)))] hC dL_law_1269 (by rw [hB.2.1]; exact Nat.le_of_ble_eq_true rfl) rfl ?_
  refine tm_aload_n 3 hC dL_law_1271 rfl rfl ?_
  refine tm_aload_n 1 hC dL_law_1272 rfl rfl ?_
  refine tm_iload 5 hC dL_law_1273 rfl ?_
  refine tm_iconst hC dL_law_1275 ?_
  refine tm_iadd hC dL_law_1276 ?_
  refine tm_sld hC hX (by omega) dL_law_1277 ?_
  obtain ⟨hwE4, hd4, ok4, ok5⟩ := LW_m hLW3
  rw [hwE4]
  refine tm_less (b' := 0 + c9) (n' := 0 + s9) ⟨by omega, by omega⟩ ?_
  refine tm_callV (b := c9) (n := s9) (rest := []) hC (fr_con hd4 ok4 ok5 (c_M_pieces (tm_g x) hst Λ2 ρ th sf se σ hRM hw (sx xs (i + 1)) (sx_rg xs _))) k_L_146 (by rw [hB.2.2.1]; exact ⟨Nat.le_of_ble_eq_true rfl, Nat.le_of_ble_eq_true rfl⟩) rfl (tm_rec2 hC (un_1 hRM.1) rfl) rfl (by decide) dL_law_1278 (fun v8 w8 z8 => ?_)
  obtain ⟨Λ4, ⟨k8, sf8, se8, r8, hRM8, rfl, hS8⟩, hd8, ok8, hwe8⟩ := z8
  have hLW4 := LW_mm hLW3 hd8 ok8 hwe8
  obtain ⟨hkk9, hTR9, ⟨hW9, htl9⟩, hrr9⟩ : Agr σ k9 k8 σ9 σ r9 r8 := U_pieces hW hS9 hS8
  subst hkk9
  obtain ⟨hMf, hGf⟩ := hTR9 _ _ _ hM9 hG9
  show tm_V x (tm_H x w8) c9 s9 1281 [(5, .int (I (k9))), (0, .ref (sb)), (1, .ref (ko)), (2, .ref (ρ 0)), (3, .ref (o)), (4, .int (I (i)))] [.int (I (r8))]
  refine tm_istore [(6, .int (I (r8))), (5, .int (I (k9))), (0, .ref (sb)), (1, .ref (ko)), (2, .ref (ρ 0)), (3, .ref (o)), (4, .int (I (i)))] hC dL_law_1281 (by rw [hB.2.1]; exact Nat.le_of_ble_eq_true rfl) rfl ?_
  refine tm_aload_n 4 hC dL_law_1283 rfl rfl ?_
  obtain ⟨hwE5, hd5, ok6, ok7⟩ := LW_m hLW4
  rw [hwE5]
  refine tm_less (b' := 0 + c9) (n' := 0 + s9) ⟨by omega, by omega⟩ ?_
  refine tm_callV (b := c9) (n := s9) (rest := []) hC (fr_con hd5 ok6 ok7 (c_M_thrown (tm_g x) hst Λ4 ρ k9 sf8 se8 σ hRM8 hW9.1)) k_L_91 (by rw [hB.2.2.1]; exact ⟨Nat.le_of_ble_eq_true rfl, Nat.le_of_ble_eq_true rfl⟩) rfl (tm_rec2 hC (un_1 hRM8.1) rfl) rfl (by decide) dL_law_1284 (fun v7 w7 z7 => ?_)
  obtain ⟨Λ5, ⟨rfl, rfl⟩, hd7, ok9, hwe7⟩ := z7
  have hLW5 := LW_mm hLW4 hd7 ok9 hwe7
  obtain ⟨hwE6, hd6, -, -, ho6⟩ := LW_c hLW5
  have hou6 : w7 o = some (.inl (tm_al (tm_T x) 1 g9)) := by rw [hwE6]; exact un_2 hd6 ho6
  show tm_V x (tm_H x w7) c9 s9 1287 [(6, .int (I (r8))), (5, .int (I (k9))), (0, .ref (sb)), (1, .ref (ko)), (2, .ref (ρ 0)), (3, .ref (o)), (4, .int (I (i)))] [.int (I (k9))]
  refine tm_iload 1 hC dL_law_1287 rfl ?_
  refine tm_icmp_eq 1294 hC dL_law_1289 (by decide) (by omega) (fun c_1 => ?_) (fun c_1 => ?_)
  · refine tm_iload 1 hC dL_law_1294 rfl ?_
    refine tm_if_ne 1311 hC dL_law_1296 (by decide) (by omega) (fun c_2 => ?_) (fun c_2 => ?_)
    · refine tm_goto 1641 hC dL_law_1311 (by decide) ?_
      refine tm_sub (L' := [(0, .ref (sb)), (1, .ref (ko)), (2, .ref (ρ 0)), (3, .ref (o)), (4, .int (I (i)))]) [2, 3, 4, 5, 6] rfl ?_
      exact kk _ σ ⟨hW9, Λ3, Λ4, g9, κ9, k9, sf8, se8, hLW5, ⟨hMf, hGf, hko9⟩, hRM8⟩ htl9
    · refine tm_aload_n 5 hC dL_law_1299 rfl rfl ?_
      refine tm_iconst hC dL_law_1300 ?_
      refine tm_lald2 hC hou6 (by omega) dL_law_1301 ?_
      refine tm_iload 0 hC dL_law_1302 rfl ?_
      refine tm_i2l hC dL_law_1304 ?_
      refine tm_lcmpE (by rw [show r8 = r9 from (hrr9 (by omega)).symm]; exact hg9 (by omega)) hC dL_law_1305 ?_
      refine tm_if_eq 1311 hC dL_law_1306 (by decide) (by omega) (fun _ => ?_) (fun c => absurd (by omega) c)
      refine tm_goto 1641 hC dL_law_1311 (by decide) ?_
      refine tm_sub (L' := [(0, .ref (sb)), (1, .ref (ko)), (2, .ref (ρ 0)), (3, .ref (o)), (4, .int (I (i)))]) [2, 3, 4, 5, 6] rfl ?_
      exact kk _ σ ⟨hW9, Λ3, Λ4, g9, κ9, k9, sf8, se8, hLW5, ⟨hMf, hGf, hko9⟩, hRM8⟩ htl9
  · omega

set_option maxHeartbeats 4000000 in
set_option maxRecDepth 100000 in
theorem L_piece {x : tmX} {sb l : Nat} {xs : Nat → Int32} (hL : LwC x sb l xs) {o ko : Nat} {ρ : Nat → Nat} {i : Int} (hi : 0 ≤ i ∧ i + 7 ≤ l) {w : tmL} {σ : ST} (hS : LwS x o ko ρ w σ) {c9 s9 : Nat} (kk : ∀ w' σ', LwS x o ko ρ w' σ' → s_tl σ' ≤ s_tl σ + 9 → tm_V x (tm_H x w') c9 s9 1641 [(0, .ref sb), (1, .ref ko), (2, .ref (ρ 0)), (3, .ref o), (4, .int (I i))] []) : tm_V x (tm_H x w) (3 + c9) (18 + s9) 1314 [(0, .ref sb), (1, .ref ko), (2, .ref (ρ 0)), (3, .ref o), (4, .int (I i))] [] := by
  obtain ⟨⟨hC, hB⟩, hst, hNc, hX⟩ := hL
  have hl9 := hX.2.2.2
  obtain ⟨hW, Λ1, Λ2, f, κ, th, sf, se, hLW, ⟨hM, hG, hko⟩, hRM⟩ := hS
  have hw := hW.1
  refine tm_aload_n 1 hC dL_law_1314 rfl rfl ?_
  refine tm_aload_n 0 hC dL_law_1315 rfl rfl ?_
  refine tm_iload 4 hC dL_law_1316 rfl ?_
  refine tm_iconst hC dL_law_1318 ?_
  refine tm_iadd hC dL_law_1319 ?_
  refine tm_sld hC hX (by omega) dL_law_1320 ?_
  refine tm_aload_n 0 hC dL_law_1321 rfl rfl ?_
  refine tm_iload 4 hC dL_law_1322 rfl ?_
  refine tm_iconst hC dL_law_1324 ?_
  refine tm_iadd hC dL_law_1325 ?_
  refine tm_sld hC hX (by omega) dL_law_1326 ?_
  refine tm_aload_n 0 hC dL_law_1327 rfl rfl ?_
  refine tm_iload 4 hC dL_law_1328 rfl ?_
  refine tm_iconst hC dL_law_1330 ?_
  refine tm_iadd hC dL_law_1331 ?_
  refine tm_sld hC hX (by omega) dL_law_1332 ?_
  refine tm_aload_n 3 hC dL_law_1333 rfl rfl ?_
  obtain ⟨hwE, hd1, ok1, ok2, ho1⟩ := LW_c hLW
  rw [hwE]
  refine tm_less (b' := 3 + c9) (n' := 18 + s9) ⟨by omega, by omega⟩ ?_
  have hcn9 := h_piece (tm_g x) hst Λ1 (un Λ2 (oW (tm_T x) o f)) hd1 ok1 ok2 κ σ hM hw hW hG o f ho1 (sx xs (i + 1)) (sx xs (i + 2)) (sx xs (i + 3)) ⟨sx_rg xs _, sx_rg xs _, sx_rg xs _⟩
  rw [hko] at hcn9
  refine tm_callSW (b := c9) (n := s9) (rest := []) hC hNc hcn9 ks_L_147 (by rw [hB.2.2.1]; exact ⟨Nat.le_of_ble_eq_true rfl, Nat.le_of_ble_eq_true rfl⟩) rfl rfl (by decide) dL_law_1334 (fun v9 w9 z9 => ?_)
  obtain ⟨Λ3, κ9, σ9, k9, r9, g9, hd3, ok3, hwe3, hM9, hG9, hko9, rfl, hk9, hS9, hg9⟩ := z9
  have hLW3 := LW_ch hLW hd3 ok3 hwe3
  show tm_V x (tm_H x w9) c9 s9 1337 [(0, .ref (sb)), (1, .ref (ko)), (2, .ref (ρ 0)), (3, .ref (o)), (4, .int (I (i)))] [.int (I (k9))]
  refine tm_istore [(5, .int (I (k9))), (0, .ref (sb)), (1, .ref (ko)), (2, .ref (ρ 0)), (3, .ref (o)), (4, .int (I (i)))] hC dL_law_1337 (by rw [hB.2.1]; exact Nat.le_of_ble_eq_true rfl) rfl ?_
  refine tm_aload_n 3 hC dL_law_1339 rfl rfl ?_
  refine tm_aload_n 1 hC dL_law_1340 rfl rfl ?_
  refine tm_iload 5 hC dL_law_1341 rfl ?_
  refine tm_iconst hC dL_law_1343 ?_
  refine tm_iadd hC dL_law_1344 ?_
  refine tm_sld hC hX (by omega) dL_law_1345 ?_
  refine tm_aload_n 1 hC dL_law_1346 rfl rfl ?_
  refine tm_iload 5 hC dL_law_1347 rfl ?_
  refine tm_iconst hC dL_law_1349 ?_
  refine tm_iadd hC dL_law_1350 ?_
  refine tm_sld hC hX (by omega) dL_law_1351 ?_
  refine tm_aload_n 1 hC dL_law_1352 rfl rfl ?_
  refine tm_iload 5 hC dL_law_1353 rfl ?_
  refine tm_iconst hC dL_law_1355 ?_
  refine tm_iadd hC dL_law_1356 ?_
  refine tm_sld hC hX (by omega) dL_law_1357 ?_
  obtain ⟨hwE4, hd4, ok4, ok5⟩ := LW_m hLW3
  rw [hwE4]
  refine tm_less (b' := 0 + c9) (n' := 0 + s9) ⟨by omega, by omega⟩ ?_
  refine tm_callV (b := c9) (n := s9) (rest := []) hC (fr_con hd4 ok4 ok5 (c_M_piece (tm_g x) hst Λ2 ρ th sf se σ hRM hw (sx xs (i + 1)) (sx xs (i + 2)) (sx xs (i + 3)) ⟨sx_rg xs _, sx_rg xs _, sx_rg xs _⟩)) k_L_149 (by rw [hB.2.2.1]; exact ⟨Nat.le_of_ble_eq_true rfl, Nat.le_of_ble_eq_true rfl⟩) rfl (tm_rec2 hC (un_1 hRM.1) rfl) rfl (by decide) dL_law_1358 (fun v8 w8 z8 => ?_)
  obtain ⟨Λ4, ⟨k8, sf8, se8, r8, hRM8, rfl, hS8⟩, hd8, ok8, hwe8⟩ := z8
  have hLW4 := LW_mm hLW3 hd8 ok8 hwe8
  obtain ⟨hkk9, hTR9, ⟨hW9, htl9⟩, hrr9⟩ : Agr σ k9 k8 σ9 σ r9 r8 := U_piece hW hS9 hS8
  subst hkk9
  obtain ⟨hMf, hGf⟩ := hTR9 _ _ _ hM9 hG9
  show tm_V x (tm_H x w8) c9 s9 1361 [(5, .int (I (k9))), (0, .ref (sb)), (1, .ref (ko)), (2, .ref (ρ 0)), (3, .ref (o)), (4, .int (I (i)))] [.int (I (r8))]
  refine tm_istore [(6, .int (I (r8))), (5, .int (I (k9))), (0, .ref (sb)), (1, .ref (ko)), (2, .ref (ρ 0)), (3, .ref (o)), (4, .int (I (i)))] hC dL_law_1361 (by rw [hB.2.1]; exact Nat.le_of_ble_eq_true rfl) rfl ?_
  refine tm_aload_n 4 hC dL_law_1363 rfl rfl ?_
  obtain ⟨hwE5, hd5, ok6, ok7⟩ := LW_m hLW4
  rw [hwE5]
  refine tm_less (b' := 0 + c9) (n' := 0 + s9) ⟨by omega, by omega⟩ ?_
  refine tm_callV (b := c9) (n := s9) (rest := []) hC (fr_con hd5 ok6 ok7 (c_M_thrown (tm_g x) hst Λ4 ρ k9 sf8 se8 σ hRM8 hW9.1)) k_L_91 (by rw [hB.2.2.1]; exact ⟨Nat.le_of_ble_eq_true rfl, Nat.le_of_ble_eq_true rfl⟩) rfl (tm_rec2 hC (un_1 hRM8.1) rfl) rfl (by decide) dL_law_1364 (fun v7 w7 z7 => ?_)
  obtain ⟨Λ5, ⟨rfl, rfl⟩, hd7, ok9, hwe7⟩ := z7
  have hLW5 := LW_mm hLW4 hd7 ok9 hwe7
  obtain ⟨hwE6, hd6, -, -, ho6⟩ := LW_c hLW5
  have hou6 : w7 o = some (.inl (tm_al (tm_T x) 1 g9)) := by rw [hwE6]; exact un_2 hd6 ho6
  show tm_V x (tm_H x w7) c9 s9 1367 [(6, .int (I (r8))), (5, .int (I (k9))), (0, .ref (sb)), (1, .ref (ko)), (2, .ref (ρ 0)), (3, .ref (o)), (4, .int (I (i)))] [.int (I (k9))]
  refine tm_iload 1 hC dL_law_1367 rfl ?_
  refine tm_icmp_eq 1374 hC dL_law_1369 (by decide) (by omega) (fun c_1 => ?_) (fun c_1 => ?_)
  · refine tm_iload 1 hC dL_law_1374 rfl ?_
    refine tm_if_ne 1391 hC dL_law_1376 (by decide) (by omega) (fun c_2 => ?_) (fun c_2 => ?_)
    · refine tm_goto 1641 hC dL_law_1391 (by decide) ?_
      refine tm_sub (L' := [(0, .ref (sb)), (1, .ref (ko)), (2, .ref (ρ 0)), (3, .ref (o)), (4, .int (I (i)))]) [2, 3, 4, 5, 6] rfl ?_
      exact kk _ σ ⟨hW9, Λ3, Λ4, g9, κ9, k9, sf8, se8, hLW5, ⟨hMf, hGf, hko9⟩, hRM8⟩ htl9
    · refine tm_aload_n 5 hC dL_law_1379 rfl rfl ?_
      refine tm_iconst hC dL_law_1380 ?_
      refine tm_lald2 hC hou6 (by omega) dL_law_1381 ?_
      refine tm_iload 0 hC dL_law_1382 rfl ?_
      refine tm_i2l hC dL_law_1384 ?_
      refine tm_lcmpE (by rw [show r8 = r9 from (hrr9 (by omega)).symm]; exact hg9 (by omega)) hC dL_law_1385 ?_
      refine tm_if_eq 1391 hC dL_law_1386 (by decide) (by omega) (fun _ => ?_) (fun c => absurd (by omega) c)
      refine tm_goto 1641 hC dL_law_1391 (by decide) ?_
      refine tm_sub (L' := [(0, .ref (sb)), (1, .ref (ko)), (2, .ref (ρ 0)), (3, .ref (o)), (4, .int (I (i)))]) [2, 3, 4, 5, 6] rfl ?_
      exact kk _ σ ⟨hW9, Λ3, Λ4, g9, κ9, k9, sf8, se8, hLW5, ⟨hMf, hGf, hko9⟩, hRM8⟩ htl9
  · omega

set_option maxHeartbeats 4000000 in
set_option maxRecDepth 100000 in
theorem L_cuts {x : tmX} {sb l : Nat} {xs : Nat → Int32} (hL : LwC x sb l xs) {o ko : Nat} {ρ : Nat → Nat} {i : Int} (hi : 0 ≤ i ∧ i + 7 ≤ l) {w : tmL} {σ : ST} (hS : LwS x o ko ρ w σ) {c9 s9 : Nat} (kk : ∀ w' σ', LwS x o ko ρ w' σ' → s_tl σ' ≤ s_tl σ + 9 → tm_V x (tm_H x w') c9 s9 1641 [(0, .ref sb), (1, .ref ko), (2, .ref (ρ 0)), (3, .ref o), (4, .int (I i))] []) : tm_V x (tm_H x w) (1 + c9) (6 + s9) 1394 [(0, .ref sb), (1, .ref ko), (2, .ref (ρ 0)), (3, .ref o), (4, .int (I i))] [] := by
  obtain ⟨⟨hC, hB⟩, hst, hNc, hX⟩ := hL
  have hl9 := hX.2.2.2
  obtain ⟨hW, Λ1, Λ2, f, κ, th, sf, se, hLW, ⟨hM, hG, hko⟩, hRM⟩ := hS
  have hw := hW.1
  refine tm_aload_n 1 hC dL_law_1394 rfl rfl ?_
  refine tm_aload_n 0 hC dL_law_1395 rfl rfl ?_
  refine tm_iload 4 hC dL_law_1396 rfl ?_
  refine tm_iconst hC dL_law_1398 ?_
  refine tm_iadd hC dL_law_1399 ?_
  refine tm_sld hC hX (by omega) dL_law_1400 ?_
  refine tm_aload_n 3 hC dL_law_1401 rfl rfl ?_
  obtain ⟨hwE, hd1, ok1, ok2, ho1⟩ := LW_c hLW
  rw [hwE]
  refine tm_less (b' := 1 + c9) (n' := 6 + s9) ⟨by omega, by omega⟩ ?_
  have hcn9 := h_cuts (tm_g x) hst Λ1 (un Λ2 (oW (tm_T x) o f)) hd1 ok1 ok2 κ σ hM hw hW hG o f ho1 (sx xs (i + 1)) (sx_rg xs _)
  rw [hko] at hcn9
  refine tm_callSW (b := c9) (n := s9) (rest := []) hC hNc hcn9 ks_L_150 (by rw [hB.2.2.1]; exact ⟨Nat.le_of_ble_eq_true rfl, Nat.le_of_ble_eq_true rfl⟩) rfl rfl (by decide) dL_law_1402 (fun v9 w9 z9 => ?_)
  obtain ⟨Λ3, κ9, σ9, k9, r9, g9, hd3, ok3, hwe3, hM9, hG9, hko9, rfl, hk9, hS9, hg9⟩ := z9
  have hLW3 := LW_ch hLW hd3 ok3 hwe3
  show tm_V x (tm_H x w9) c9 s9 1405 [(0, .ref (sb)), (1, .ref (ko)), (2, .ref (ρ 0)), (3, .ref (o)), (4, .int (I (i)))] [.int (I (k9))]
  refine tm_istore [(5, .int (I (k9))), (0, .ref (sb)), (1, .ref (ko)), (2, .ref (ρ 0)), (3, .ref (o)), (4, .int (I (i)))] hC dL_law_1405 (by rw [hB.2.1]; exact Nat.le_of_ble_eq_true rfl) rfl ?_
  refine tm_aload_n 3 hC dL_law_1407 rfl rfl ?_
  refine tm_aload_n 1 hC dL_law_1408 rfl rfl ?_
  refine tm_iload 5 hC dL_law_1409 rfl ?_
  refine tm_iconst hC dL_law_1411 ?_
  refine tm_iadd hC dL_law_1412 ?_
  refine tm_sld hC hX (by omega) dL_law_1413 ?_
  obtain ⟨hwE4, hd4, ok4, ok5⟩ := LW_m hLW3
  rw [hwE4]
  refine tm_less (b' := 0 + c9) (n' := 0 + s9) ⟨by omega, by omega⟩ ?_
  refine tm_callV (b := c9) (n := s9) (rest := []) hC (fr_con hd4 ok4 ok5 (c_M_cuts (tm_g x) hst Λ2 ρ th sf se σ hRM hw (sx xs (i + 1)) (sx_rg xs _))) k_L_152 (by rw [hB.2.2.1]; exact ⟨Nat.le_of_ble_eq_true rfl, Nat.le_of_ble_eq_true rfl⟩) rfl (tm_rec2 hC (un_1 hRM.1) rfl) rfl (by decide) dL_law_1414 (fun v8 w8 z8 => ?_)
  obtain ⟨Λ4, ⟨k8, sf8, se8, r8, hRM8, rfl, hS8⟩, hd8, ok8, hwe8⟩ := z8
  have hLW4 := LW_mm hLW3 hd8 ok8 hwe8
  obtain ⟨hkk9, hTR9, ⟨hW9, htl9⟩, hrr9⟩ : Agr σ k9 k8 σ9 σ r9 r8 := U_cuts hW hS9 hS8
  subst hkk9
  obtain ⟨hMf, hGf⟩ := hTR9 _ _ _ hM9 hG9
  show tm_V x (tm_H x w8) c9 s9 1417 [(5, .int (I (k9))), (0, .ref (sb)), (1, .ref (ko)), (2, .ref (ρ 0)), (3, .ref (o)), (4, .int (I (i)))] [.int (I (r8))]
  refine tm_istore [(6, .int (I (r8))), (5, .int (I (k9))), (0, .ref (sb)), (1, .ref (ko)), (2, .ref (ρ 0)), (3, .ref (o)), (4, .int (I (i)))] hC dL_law_1417 (by rw [hB.2.1]; exact Nat.le_of_ble_eq_true rfl) rfl ?_
  refine tm_aload_n 4 hC dL_law_1419 rfl rfl ?_
  obtain ⟨hwE5, hd5, ok6, ok7⟩ := LW_m hLW4
  rw [hwE5]
  refine tm_less (b' := 0 + c9) (n' := 0 + s9) ⟨by omega, by omega⟩ ?_
  refine tm_callV (b := c9) (n := s9) (rest := []) hC (fr_con hd5 ok6 ok7 (c_M_thrown (tm_g x) hst Λ4 ρ k9 sf8 se8 σ hRM8 hW9.1)) k_L_91 (by rw [hB.2.2.1]; exact ⟨Nat.le_of_ble_eq_true rfl, Nat.le_of_ble_eq_true rfl⟩) rfl (tm_rec2 hC (un_1 hRM8.1) rfl) rfl (by decide) dL_law_1420 (fun v7 w7 z7 => ?_)
  obtain ⟨Λ5, ⟨rfl, rfl⟩, hd7, ok9, hwe7⟩ := z7
  have hLW5 := LW_mm hLW4 hd7 ok9 hwe7
  obtain ⟨hwE6, hd6, -, -, ho6⟩ := LW_c hLW5
  have hou6 : w7 o = some (.inl (tm_al (tm_T x) 1 g9)) := by rw [hwE6]; exact un_2 hd6 ho6
  show tm_V x (tm_H x w7) c9 s9 1423 [(6, .int (I (r8))), (5, .int (I (k9))), (0, .ref (sb)), (1, .ref (ko)), (2, .ref (ρ 0)), (3, .ref (o)), (4, .int (I (i)))] [.int (I (k9))]
  refine tm_iload 1 hC dL_law_1423 rfl ?_
  refine tm_icmp_eq 1430 hC dL_law_1425 (by decide) (by omega) (fun c_1 => ?_) (fun c_1 => ?_)
  · refine tm_iload 1 hC dL_law_1430 rfl ?_
    refine tm_if_ne 1447 hC dL_law_1432 (by decide) (by omega) (fun c_2 => ?_) (fun c_2 => ?_)
    · refine tm_goto 1641 hC dL_law_1447 (by decide) ?_
      refine tm_sub (L' := [(0, .ref (sb)), (1, .ref (ko)), (2, .ref (ρ 0)), (3, .ref (o)), (4, .int (I (i)))]) [2, 3, 4, 5, 6] rfl ?_
      exact kk _ σ ⟨hW9, Λ3, Λ4, g9, κ9, k9, sf8, se8, hLW5, ⟨hMf, hGf, hko9⟩, hRM8⟩ htl9
    · refine tm_aload_n 5 hC dL_law_1435 rfl rfl ?_
      refine tm_iconst hC dL_law_1436 ?_
      refine tm_lald2 hC hou6 (by omega) dL_law_1437 ?_
      refine tm_iload 0 hC dL_law_1438 rfl ?_
      refine tm_i2l hC dL_law_1440 ?_
      refine tm_lcmpE (by rw [show r8 = r9 from (hrr9 (by omega)).symm]; exact hg9 (by omega)) hC dL_law_1441 ?_
      refine tm_if_eq 1447 hC dL_law_1442 (by decide) (by omega) (fun _ => ?_) (fun c => absurd (by omega) c)
      refine tm_goto 1641 hC dL_law_1447 (by decide) ?_
      refine tm_sub (L' := [(0, .ref (sb)), (1, .ref (ko)), (2, .ref (ρ 0)), (3, .ref (o)), (4, .int (I (i)))]) [2, 3, 4, 5, 6] rfl ?_
      exact kk _ σ ⟨hW9, Λ3, Λ4, g9, κ9, k9, sf8, se8, hLW5, ⟨hMf, hGf, hko9⟩, hRM8⟩ htl9
  · omega

set_option maxHeartbeats 4000000 in
set_option maxRecDepth 100000 in
theorem L_longestRoom {x : tmX} {sb l : Nat} {xs : Nat → Int32} (hL : LwC x sb l xs) {o ko : Nat} {ρ : Nat → Nat} {i : Int} (hi : 0 ≤ i ∧ i + 7 ≤ l) {w : tmL} {σ : ST} (hS : LwS x o ko ρ w σ) {c9 s9 : Nat} (kk : ∀ w' σ', LwS x o ko ρ w' σ' → s_tl σ' ≤ s_tl σ + 9 → tm_V x (tm_H x w') c9 s9 1641 [(0, .ref sb), (1, .ref ko), (2, .ref (ρ 0)), (3, .ref o), (4, .int (I i))] []) : tm_V x (tm_H x w) (1 + c9) (6 + s9) 1450 [(0, .ref sb), (1, .ref ko), (2, .ref (ρ 0)), (3, .ref o), (4, .int (I i))] [] := by
  obtain ⟨⟨hC, hB⟩, hst, hNc, hX⟩ := hL
  have hl9 := hX.2.2.2
  obtain ⟨hW, Λ1, Λ2, f, κ, th, sf, se, hLW, ⟨hM, hG, hko⟩, hRM⟩ := hS
  have hw := hW.1
  refine tm_aload_n 1 hC dL_law_1450 rfl rfl ?_
  refine tm_aload_n 0 hC dL_law_1451 rfl rfl ?_
  refine tm_iload 4 hC dL_law_1452 rfl ?_
  refine tm_iconst hC dL_law_1454 ?_
  refine tm_iadd hC dL_law_1455 ?_
  refine tm_sld hC hX (by omega) dL_law_1456 ?_
  refine tm_aload_n 3 hC dL_law_1457 rfl rfl ?_
  obtain ⟨hwE, hd1, ok1, ok2, ho1⟩ := LW_c hLW
  rw [hwE]
  refine tm_less (b' := 1 + c9) (n' := 6 + s9) ⟨by omega, by omega⟩ ?_
  have hcn9 := h_longestRoom (tm_g x) hst Λ1 (un Λ2 (oW (tm_T x) o f)) hd1 ok1 ok2 κ σ hM hw hW hG o f ho1 (sx xs (i + 1)) (sx_rg xs _)
  rw [hko] at hcn9
  refine tm_callSW (b := c9) (n := s9) (rest := []) hC hNc hcn9 ks_L_153 (by rw [hB.2.2.1]; exact ⟨Nat.le_of_ble_eq_true rfl, Nat.le_of_ble_eq_true rfl⟩) rfl rfl (by decide) dL_law_1458 (fun v9 w9 z9 => ?_)
  obtain ⟨Λ3, κ9, σ9, k9, r9, g9, hd3, ok3, hwe3, hM9, hG9, hko9, rfl, hk9, hS9, hg9⟩ := z9
  have hLW3 := LW_ch hLW hd3 ok3 hwe3
  show tm_V x (tm_H x w9) c9 s9 1461 [(0, .ref (sb)), (1, .ref (ko)), (2, .ref (ρ 0)), (3, .ref (o)), (4, .int (I (i)))] [.int (I (k9))]
  refine tm_istore [(5, .int (I (k9))), (0, .ref (sb)), (1, .ref (ko)), (2, .ref (ρ 0)), (3, .ref (o)), (4, .int (I (i)))] hC dL_law_1461 (by rw [hB.2.1]; exact Nat.le_of_ble_eq_true rfl) rfl ?_
  refine tm_aload_n 3 hC dL_law_1463 rfl rfl ?_
  refine tm_aload_n 1 hC dL_law_1464 rfl rfl ?_
  refine tm_iload 5 hC dL_law_1465 rfl ?_
  refine tm_iconst hC dL_law_1467 ?_
  refine tm_iadd hC dL_law_1468 ?_
  refine tm_sld hC hX (by omega) dL_law_1469 ?_
  obtain ⟨hwE4, hd4, ok4, ok5⟩ := LW_m hLW3
  rw [hwE4]
  refine tm_less (b' := 0 + c9) (n' := 0 + s9) ⟨by omega, by omega⟩ ?_
  refine tm_callV (b := c9) (n := s9) (rest := []) hC (fr_con hd4 ok4 ok5 (c_M_longestRoom (tm_g x) hst Λ2 ρ th sf se σ hRM hw (sx xs (i + 1)) (sx_rg xs _))) k_L_155 (by rw [hB.2.2.1]; exact ⟨Nat.le_of_ble_eq_true rfl, Nat.le_of_ble_eq_true rfl⟩) rfl (tm_rec2 hC (un_1 hRM.1) rfl) rfl (by decide) dL_law_1470 (fun v8 w8 z8 => ?_)
  obtain ⟨Λ4, ⟨k8, sf8, se8, r8, hRM8, rfl, hS8⟩, hd8, ok8, hwe8⟩ := z8
  have hLW4 := LW_mm hLW3 hd8 ok8 hwe8
  obtain ⟨hkk9, hTR9, ⟨hW9, htl9⟩, hrr9⟩ : Agr σ k9 k8 σ9 σ r9 r8 := U_longestRoom hW hS9 hS8
  subst hkk9
  obtain ⟨hMf, hGf⟩ := hTR9 _ _ _ hM9 hG9
  show tm_V x (tm_H x w8) c9 s9 1473 [(5, .int (I (k9))), (0, .ref (sb)), (1, .ref (ko)), (2, .ref (ρ 0)), (3, .ref (o)), (4, .int (I (i)))] [.int (I (r8))]
  refine tm_istore [(6, .int (I (r8))), (5, .int (I (k9))), (0, .ref (sb)), (1, .ref (ko)), (2, .ref (ρ 0)), (3, .ref (o)), (4, .int (I (i)))] hC dL_law_1473 (by rw [hB.2.1]; exact Nat.le_of_ble_eq_true rfl) rfl ?_
  refine tm_aload_n 4 hC dL_law_1475 rfl rfl ?_
  obtain ⟨hwE5, hd5, ok6, ok7⟩ := LW_m hLW4
  rw [hwE5]
  refine tm_less (b' := 0 + c9) (n' := 0 + s9) ⟨by omega, by omega⟩ ?_
  refine tm_callV (b := c9) (n := s9) (rest := []) hC (fr_con hd5 ok6 ok7 (c_M_thrown (tm_g x) hst Λ4 ρ k9 sf8 se8 σ hRM8 hW9.1)) k_L_91 (by rw [hB.2.2.1]; exact ⟨Nat.le_of_ble_eq_true rfl, Nat.le_of_ble_eq_true rfl⟩) rfl (tm_rec2 hC (un_1 hRM8.1) rfl) rfl (by decide) dL_law_1476 (fun v7 w7 z7 => ?_)
  obtain ⟨Λ5, ⟨rfl, rfl⟩, hd7, ok9, hwe7⟩ := z7
  have hLW5 := LW_mm hLW4 hd7 ok9 hwe7
  obtain ⟨hwE6, hd6, -, -, ho6⟩ := LW_c hLW5
  have hou6 : w7 o = some (.inl (tm_al (tm_T x) 1 g9)) := by rw [hwE6]; exact un_2 hd6 ho6
  show tm_V x (tm_H x w7) c9 s9 1479 [(6, .int (I (r8))), (5, .int (I (k9))), (0, .ref (sb)), (1, .ref (ko)), (2, .ref (ρ 0)), (3, .ref (o)), (4, .int (I (i)))] [.int (I (k9))]
  refine tm_iload 1 hC dL_law_1479 rfl ?_
  refine tm_icmp_eq 1486 hC dL_law_1481 (by decide) (by omega) (fun c_1 => ?_) (fun c_1 => ?_)
  · refine tm_iload 1 hC dL_law_1486 rfl ?_
    refine tm_if_ne 1503 hC dL_law_1488 (by decide) (by omega) (fun c_2 => ?_) (fun c_2 => ?_)
    · refine tm_goto 1641 hC dL_law_1503 (by decide) ?_
      refine tm_sub (L' := [(0, .ref (sb)), (1, .ref (ko)), (2, .ref (ρ 0)), (3, .ref (o)), (4, .int (I (i)))]) [2, 3, 4, 5, 6] rfl ?_
      exact kk _ σ ⟨hW9, Λ3, Λ4, g9, κ9, k9, sf8, se8, hLW5, ⟨hMf, hGf, hko9⟩, hRM8⟩ htl9
    · refine tm_aload_n 5 hC dL_law_1491 rfl rfl ?_
      refine tm_iconst hC dL_law_1492 ?_
      refine tm_lald2 hC hou6 (by omega) dL_law_1493 ?_
      refine tm_iload 0 hC dL_law_1494 rfl ?_
      refine tm_i2l hC dL_law_1496 ?_
      refine tm_lcmpE (by rw [show r8 = r9 from (hrr9 (by omega)).symm]; exact hg9 (by omega)) hC dL_law_1497 ?_
      refine tm_if_eq 1503 hC dL_law_1498 (by decide) (by omega) (fun _ => ?_) (fun c => absurd (by omega) c)
      refine tm_goto 1641 hC dL_law_1503 (by decide) ?_
      refine tm_sub (L' := [(0, .ref (sb)), (1, .ref (ko)), (2, .ref (ρ 0)), (3, .ref (o)), (4, .int (I (i)))]) [2, 3, 4, 5, 6] rfl ?_
      exact kk _ σ ⟨hW9, Λ3, Λ4, g9, κ9, k9, sf8, se8, hLW5, ⟨hMf, hGf, hko9⟩, hRM8⟩ htl9
  · omega

set_option maxHeartbeats 4000000 in
set_option maxRecDepth 100000 in
theorem L_bestUse {x : tmX} {sb l : Nat} {xs : Nat → Int32} (hL : LwC x sb l xs) {o ko : Nat} {ρ : Nat → Nat} {i : Int} (hi : 0 ≤ i ∧ i + 7 ≤ l) {w : tmL} {σ : ST} (hS : LwS x o ko ρ w σ) {c9 s9 : Nat} (kk : ∀ w' σ', LwS x o ko ρ w' σ' → s_tl σ' ≤ s_tl σ + 9 → tm_V x (tm_H x w') c9 s9 1641 [(0, .ref sb), (1, .ref ko), (2, .ref (ρ 0)), (3, .ref o), (4, .int (I i))] []) : tm_V x (tm_H x w) (4 + c9) (3029 + s9) 1506 [(0, .ref sb), (1, .ref ko), (2, .ref (ρ 0)), (3, .ref o), (4, .int (I i))] [] := by
  obtain ⟨⟨hC, hB⟩, hst, hNc, hX⟩ := hL
  have hl9 := hX.2.2.2
  obtain ⟨hW, Λ1, Λ2, f, κ, th, sf, se, hLW, ⟨hM, hG, hko⟩, hRM⟩ := hS
  have hw := hW.1
  refine tm_aload_n 1 hC dL_law_1506 rfl rfl ?_
  refine tm_aload_n 0 hC dL_law_1507 rfl rfl ?_
  refine tm_iload 4 hC dL_law_1508 rfl ?_
  refine tm_iconst hC dL_law_1510 ?_
  refine tm_iadd hC dL_law_1511 ?_
  refine tm_sld hC hX (by omega) dL_law_1512 ?_
  refine tm_aload_n 0 hC dL_law_1513 rfl rfl ?_
  refine tm_iload 4 hC dL_law_1514 rfl ?_
  refine tm_iconst hC dL_law_1516 ?_
  refine tm_iadd hC dL_law_1517 ?_
  refine tm_sld hC hX (by omega) dL_law_1518 ?_
  refine tm_aload_n 0 hC dL_law_1519 rfl rfl ?_
  refine tm_iload 4 hC dL_law_1520 rfl ?_
  refine tm_iconst hC dL_law_1522 ?_
  refine tm_iadd hC dL_law_1523 ?_
  refine tm_sld hC hX (by omega) dL_law_1524 ?_
  refine tm_aload_n 3 hC dL_law_1525 rfl rfl ?_
  obtain ⟨hwE, hd1, ok1, ok2, ho1⟩ := LW_c hLW
  rw [hwE]
  refine tm_less (b' := 3 + (1 + c9)) (n' := 18 + (3011 + s9)) ⟨by omega, by omega⟩ ?_
  have hcn9 := h_bestUse (tm_g x) hst Λ1 (un Λ2 (oW (tm_T x) o f)) hd1 ok1 ok2 κ σ hM hw hW hG o f ho1 (sx xs (i + 1)) (sx xs (i + 2)) (sx xs (i + 3)) ⟨sx_rg xs _, sx_rg xs _, sx_rg xs _⟩
  rw [hko] at hcn9
  refine tm_callSW (b := (1 + c9)) (n := (3011 + s9)) (rest := []) hC hNc hcn9 ks_L_156 (by rw [hB.2.2.1]; exact ⟨Nat.le_of_ble_eq_true rfl, Nat.le_of_ble_eq_true rfl⟩) rfl rfl (by decide) dL_law_1526 (fun v9 w9 z9 => ?_)
  obtain ⟨Λ3, κ9, σ9, k9, r9, g9, hd3, ok3, hwe3, hM9, hG9, hko9, rfl, hk9, hS9, hg9⟩ := z9
  have hLW3 := LW_ch hLW hd3 ok3 hwe3
  show tm_V x (tm_H x w9) (1 + c9) (3011 + s9) 1529 [(0, .ref (sb)), (1, .ref (ko)), (2, .ref (ρ 0)), (3, .ref (o)), (4, .int (I (i)))] [.int (I (k9))]
  refine tm_istore [(5, .int (I (k9))), (0, .ref (sb)), (1, .ref (ko)), (2, .ref (ρ 0)), (3, .ref (o)), (4, .int (I (i)))] hC dL_law_1529 (by rw [hB.2.1]; exact Nat.le_of_ble_eq_true rfl) rfl ?_
  refine tm_aload_n 3 hC dL_law_1531 rfl rfl ?_
  refine tm_aload_n 1 hC dL_law_1532 rfl rfl ?_
  refine tm_iload 5 hC dL_law_1533 rfl ?_
  refine tm_iconst hC dL_law_1535 ?_
  refine tm_iadd hC dL_law_1536 ?_
  refine tm_sld hC hX (by omega) dL_law_1537 ?_
  refine tm_aload_n 1 hC dL_law_1538 rfl rfl ?_
  refine tm_iload 5 hC dL_law_1539 rfl ?_
  refine tm_iconst hC dL_law_1541 ?_
  refine tm_iadd hC dL_law_1542 ?_
  refine tm_sld hC hX (by omega) dL_law_1543 ?_
  refine tm_aload_n 1 hC dL_law_1544 rfl rfl ?_
  refine tm_iload 5 hC dL_law_1545 rfl ?_
  refine tm_iconst hC dL_law_1547 ?_
  refine tm_iadd hC dL_law_1548 ?_
  refine tm_sld hC hX (by omega) dL_law_1549 ?_
  obtain ⟨hwE4, hd4, ok4, ok5⟩ := LW_m hLW3
  rw [hwE4]
  refine tm_less (b' := 1 + c9) (n' := 3011 + s9) ⟨by omega, by omega⟩ ?_
  refine tm_callV (b := c9) (n := s9) (rest := []) hC (fr_con hd4 ok4 ok5 (c_M_bestUse (tm_g x) hst Λ2 ρ th sf se σ hRM hw (sx xs (i + 1)) (sx xs (i + 2)) (sx xs (i + 3)) ⟨sx_rg xs _, sx_rg xs _, sx_rg xs _⟩)) k_L_158 (by rw [hB.2.2.1]; exact ⟨Nat.le_of_ble_eq_true rfl, Nat.le_of_ble_eq_true rfl⟩) rfl (tm_rec2 hC (un_1 hRM.1) rfl) rfl (by decide) dL_law_1550 (fun v8 w8 z8 => ?_)
  obtain ⟨Λ4, ⟨k8, sf8, se8, r8, hRM8, rfl, hS8⟩, hd8, ok8, hwe8⟩ := z8
  have hLW4 := LW_mm hLW3 hd8 ok8 hwe8
  obtain ⟨hkk9, hTR9, ⟨hW9, htl9⟩, hrr9⟩ : Agr σ k9 k8 σ9 σ r9 r8 := U_bestUse hW hS9 hS8
  subst hkk9
  obtain ⟨hMf, hGf⟩ := hTR9 _ _ _ hM9 hG9
  show tm_V x (tm_H x w8) c9 s9 1553 [(5, .int (I (k9))), (0, .ref (sb)), (1, .ref (ko)), (2, .ref (ρ 0)), (3, .ref (o)), (4, .int (I (i)))] [.int (I (r8))]
  refine tm_istore [(6, .int (I (r8))), (5, .int (I (k9))), (0, .ref (sb)), (1, .ref (ko)), (2, .ref (ρ 0)), (3, .ref (o)), (4, .int (I (i)))] hC dL_law_1553 (by rw [hB.2.1]; exact Nat.le_of_ble_eq_true rfl) rfl ?_
  refine tm_aload_n 4 hC dL_law_1555 rfl rfl ?_
  obtain ⟨hwE5, hd5, ok6, ok7⟩ := LW_m hLW4
  rw [hwE5]
  refine tm_less (b' := 0 + c9) (n' := 0 + s9) ⟨by omega, by omega⟩ ?_
  refine tm_callV (b := c9) (n := s9) (rest := []) hC (fr_con hd5 ok6 ok7 (c_M_thrown (tm_g x) hst Λ4 ρ k9 sf8 se8 σ hRM8 hW9.1)) k_L_91 (by rw [hB.2.2.1]; exact ⟨Nat.le_of_ble_eq_true rfl, Nat.le_of_ble_eq_true rfl⟩) rfl (tm_rec2 hC (un_1 hRM8.1) rfl) rfl (by decide) dL_law_1556 (fun v7 w7 z7 => ?_)
  obtain ⟨Λ5, ⟨rfl, rfl⟩, hd7, ok9, hwe7⟩ := z7
  have hLW5 := LW_mm hLW4 hd7 ok9 hwe7
  obtain ⟨hwE6, hd6, -, -, ho6⟩ := LW_c hLW5
  have hou6 : w7 o = some (.inl (tm_al (tm_T x) 1 g9)) := by rw [hwE6]; exact un_2 hd6 ho6
  show tm_V x (tm_H x w7) c9 s9 1559 [(6, .int (I (r8))), (5, .int (I (k9))), (0, .ref (sb)), (1, .ref (ko)), (2, .ref (ρ 0)), (3, .ref (o)), (4, .int (I (i)))] [.int (I (k9))]
  refine tm_iload 1 hC dL_law_1559 rfl ?_
  refine tm_icmp_eq 1566 hC dL_law_1561 (by decide) (by omega) (fun c_1 => ?_) (fun c_1 => ?_)
  · refine tm_iload 1 hC dL_law_1566 rfl ?_
    refine tm_if_ne 1583 hC dL_law_1568 (by decide) (by omega) (fun c_2 => ?_) (fun c_2 => ?_)
    · refine tm_goto 1641 hC dL_law_1583 (by decide) ?_
      refine tm_sub (L' := [(0, .ref (sb)), (1, .ref (ko)), (2, .ref (ρ 0)), (3, .ref (o)), (4, .int (I (i)))]) [2, 3, 4, 5, 6] rfl ?_
      exact kk _ σ ⟨hW9, Λ3, Λ4, g9, κ9, k9, sf8, se8, hLW5, ⟨hMf, hGf, hko9⟩, hRM8⟩ htl9
    · refine tm_aload_n 5 hC dL_law_1571 rfl rfl ?_
      refine tm_iconst hC dL_law_1572 ?_
      refine tm_lald2 hC hou6 (by omega) dL_law_1573 ?_
      refine tm_iload 0 hC dL_law_1574 rfl ?_
      refine tm_i2l hC dL_law_1576 ?_
      refine tm_lcmpE (by rw [show r8 = r9 from (hrr9 (by omega)).symm]; exact hg9 (by omega)) hC dL_law_1577 ?_
      refine tm_if_eq 1583 hC dL_law_1578 (by decide) (by omega) (fun _ => ?_) (fun c => absurd (by omega) c)
      refine tm_goto 1641 hC dL_law_1583 (by decide) ?_
      refine tm_sub (L' := [(0, .ref (sb)), (1, .ref (ko)), (2, .ref (ρ 0)), (3, .ref (o)), (4, .int (I (i)))]) [2, 3, 4, 5, 6] rfl ?_
      exact kk _ σ ⟨hW9, Λ3, Λ4, g9, κ9, k9, sf8, se8, hLW5, ⟨hMf, hGf, hko9⟩, hRM8⟩ htl9
  · omega

set_option maxHeartbeats 4000000 in
set_option maxRecDepth 100000 in
theorem L_used {x : tmX} {sb l : Nat} {xs : Nat → Int32} (hL : LwC x sb l xs) {o ko : Nat} {ρ : Nat → Nat} {i : Int} (hi : 0 ≤ i ∧ i + 7 ≤ l) {w : tmL} {σ : ST} (hS : LwS x o ko ρ w σ) {c9 s9 : Nat} (kk : ∀ w', LwS x o ko ρ w' σ → tm_V x (tm_H x w') c9 s9 1641 [(0, .ref sb), (1, .ref ko), (2, .ref (ρ 0)), (3, .ref o), (4, .int (I i))] []) : tm_V x (tm_H x w) (0 + c9) (0 + s9) 1586 [(0, .ref sb), (1, .ref ko), (2, .ref (ρ 0)), (3, .ref o), (4, .int (I i))] [] := by
  obtain ⟨⟨hC, hB⟩, hst, hNc, hX⟩ := hL
  have hl9 := hX.2.2.2
  obtain ⟨hW, Λ1, Λ2, f, κ, th, sf, se, hLW, ⟨hM, hG, hko⟩, hRM⟩ := hS
  have hw := hW.1
  refine tm_aload_n 1 hC dL_law_1586 rfl rfl ?_
  obtain ⟨hwE, hd1, ok1, ok2, ho1⟩ := LW_c hLW
  rw [hwE]
  refine tm_less (b' := 0 + c9) (n' := 0 + s9) ⟨by omega, by omega⟩ ?_
  have hcn9 := fr_con hd1 ok1 ok2 (c_T_used (tm_g x) hst Λ1 κ σ hM hw)
  rw [hko] at hcn9
  refine tm_callV (b := c9) (n := s9) (rest := []) hC hcn9 k_L_159 (by rw [hB.2.2.1]; exact ⟨Nat.le_of_ble_eq_true rfl, Nat.le_of_ble_eq_true rfl⟩) rfl (tm_rec2 hC (un_1 (hko ▸ rc_o hM)) rfl) rfl (by decide) dL_law_1587 (fun v9 w9 z9 => ?_)
  obtain ⟨Λ3, ⟨rfl, u9, rfl, hS9⟩, hd3, ok3, hwe3⟩ := z9
  have hLW3 := LW_cc hLW hd3 ok3 hwe3
  show tm_V x (tm_H x w9) c9 s9 1590 [(0, .ref (sb)), (1, .ref (ko)), (2, .ref (ρ 0)), (3, .ref (o)), (4, .int (I (i)))] [.double (u9)]
  refine tm_dstore [(5, .double (u9)), (0, .ref (sb)), (1, .ref (ko)), (2, .ref (ρ 0)), (3, .ref (o)), (4, .int (I (i)))] hC dL_law_1590 (by rw [hB.2.1]; exact Nat.le_of_ble_eq_true rfl) rfl ?_
  refine tm_aload_n 3 hC dL_law_1592 rfl rfl ?_
  obtain ⟨hwE4, hd4, ok4, ok5⟩ := LW_m hLW3
  rw [hwE4]
  refine tm_less (b' := 0 + c9) (n' := 0 + s9) ⟨by omega, by omega⟩ ?_
  refine tm_callV (b := c9) (n := s9) (rest := []) hC (fr_con hd4 ok4 ok5 (c_M_used (tm_g x) hst Λ2 ρ th sf se σ hRM hw)) k_L_163 (by rw [hB.2.2.1]; exact ⟨Nat.le_of_ble_eq_true rfl, Nat.le_of_ble_eq_true rfl⟩) rfl (tm_rec2 hC (un_1 hRM.1) rfl) rfl (by decide) dL_law_1593 (fun v8 w8 z8 => ?_)
  obtain ⟨Λ4, ⟨u8, hRM8, rfl, hS8⟩, hd8, ok8, hwe8⟩ := z8
  have hLW4 := LW_mm hLW3 hd8 ok8 hwe8
  have huu : u9 = u8 := U_used hW hS9 hS8
  subst huu
  show tm_V x (tm_H x w8) c9 s9 1596 [(5, .double (u9)), (0, .ref (sb)), (1, .ref (ko)), (2, .ref (ρ 0)), (3, .ref (o)), (4, .int (I (i)))] [.double (u9)]
  refine tm_dstore [(7, .double (u9)), (5, .double (u9)), (0, .ref (sb)), (1, .ref (ko)), (2, .ref (ρ 0)), (3, .ref (o)), (4, .int (I (i)))] hC dL_law_1596 (by rw [hB.2.1]; exact Nat.le_of_ble_eq_true rfl) rfl ?_
  refine tm_dload 1 hC dL_law_1598 rfl ?_
  refine tm_dload 0 hC dL_law_1600 rfl ?_
  refine tm_dcmp hC dL_law_1602 ?_
  refine tm_if_eq 1624 hC dL_law_1603 (by decide) (dcv_rg _ _) (fun c_1 => ?_) (fun c_1 => ?_)
  · refine tm_goto 1641 hC dL_law_1624 (by decide) ?_
    refine tm_sub (L' := [(0, .ref (sb)), (1, .ref (ko)), (2, .ref (ρ 0)), (3, .ref (o)), (4, .int (I (i)))]) [2, 3, 4, 5, 6] rfl ?_
    exact kk _ ⟨hW, Λ1, Λ4, f, κ, 0, sf, se, hLW4, ⟨hM, hG, hko⟩, hRM8⟩
  · refine tm_dload 1 hC dL_law_1606 rfl ?_
    refine tm_dload 1 hC dL_law_1608 rfl ?_
    refine tm_dcmp hC dL_law_1610 ?_
    refine tm_if_eq 1622 hC dL_law_1611 (by decide) (dcv_rg _ _) (fun c_2 => ?_) (fun c_2 => ?_)
    · omega
    · refine tm_dload 0 hC dL_law_1614 rfl ?_
      refine tm_dload 0 hC dL_law_1616 rfl ?_
      refine tm_dcmp hC dL_law_1618 ?_
      refine tm_if_ne 1624 hC dL_law_1619 (by decide) (dcv_rg _ _) (fun c_3 => ?_) (fun c_3 => ?_)
      · refine tm_goto 1641 hC dL_law_1624 (by decide) ?_
        refine tm_sub (L' := [(0, .ref (sb)), (1, .ref (ko)), (2, .ref (ρ 0)), (3, .ref (o)), (4, .int (I (i)))]) [2, 3, 4, 5, 6] rfl ?_
        exact kk _ ⟨hW, Λ1, Λ4, f, κ, 0, sf, se, hLW4, ⟨hM, hG, hko⟩, hRM8⟩
      · omega

set_option maxHeartbeats 4000000 in
set_option maxRecDepth 100000 in
theorem L_digest {x : tmX} {sb l : Nat} {xs : Nat → Int32} (hL : LwC x sb l xs) {o ko : Nat} {ρ : Nat → Nat} {i : Int} (hi : 0 ≤ i ∧ i + 7 ≤ l) {w : tmL} {σ : ST} (hS : LwS x o ko ρ w σ) {c9 s9 : Nat} (kk : ∀ w', LwS x o ko ρ w' σ → tm_V x (tm_H x w') c9 s9 1641 [(0, .ref sb), (1, .ref ko), (2, .ref (ρ 0)), (3, .ref o), (4, .int (I i))] []) : tm_V x (tm_H x w) (0 + c9) (0 + s9) 1627 [(0, .ref sb), (1, .ref ko), (2, .ref (ρ 0)), (3, .ref o), (4, .int (I i))] [] := by
  obtain ⟨⟨hC, hB⟩, hst, hNc, hX⟩ := hL
  have hl9 := hX.2.2.2
  obtain ⟨hW, Λ1, Λ2, f, κ, th, sf, se, hLW, ⟨hM, hG, hko⟩, hRM⟩ := hS
  have hw := hW.1
  refine tm_aload_n 1 hC dL_law_1627 rfl rfl ?_
  obtain ⟨hwE, hd1, ok1, ok2, ho1⟩ := LW_c hLW
  rw [hwE]
  refine tm_less (b' := 0 + c9) (n' := 0 + s9) ⟨by omega, by omega⟩ ?_
  have hcn9 := fr_con hd1 ok1 ok2 (c_T_digest (tm_g x) hst Λ1 κ σ hM hw)
  rw [hko] at hcn9
  refine tm_callV (b := c9) (n := s9) (rest := []) hC hcn9 k_L_164 (by rw [hB.2.2.1]; exact ⟨Nat.le_of_ble_eq_true rfl, Nat.le_of_ble_eq_true rfl⟩) rfl (tm_rec2 hC (un_1 (hko ▸ rc_o hM)) rfl) rfl (by decide) dL_law_1628 (fun v9 w9 z9 => ?_)
  obtain ⟨Λ3, ⟨rfl, u9, rfl, hS9⟩, hd3, ok3, hwe3⟩ := z9
  have hLW3 := LW_cc hLW hd3 ok3 hwe3
  show tm_V x (tm_H x w9) c9 s9 1631 [(0, .ref (sb)), (1, .ref (ko)), (2, .ref (ρ 0)), (3, .ref (o)), (4, .int (I (i)))] [.long (u9)]
  refine tm_aload_n 2 hC dL_law_1631 rfl rfl ?_
  obtain ⟨hwE4, hd4, ok4, ok5⟩ := LW_m hLW3
  rw [hwE4]
  refine tm_less (b' := 0 + c9) (n' := 0 + s9) ⟨by omega, by omega⟩ ?_
  refine tm_callV (b := c9) (n := s9) (rest := [.long (u9)]) hC (fr_con hd4 ok4 ok5 (c_M_digest (tm_g x) hst Λ2 ρ th sf se σ hRM hw)) k_L_168 (by rw [hB.2.2.1]; exact ⟨Nat.le_of_ble_eq_true rfl, Nat.le_of_ble_eq_true rfl⟩) rfl (tm_rec2 hC (un_1 hRM.1) rfl) rfl (by simp [Value.category]) dL_law_1632 (fun v8 w8 z8 => ?_)
  obtain ⟨Λ4, ⟨u8, hRM8, rfl, hS8⟩, hd8, ok8, hwe8⟩ := z8
  have hLW4 := LW_mm hLW3 hd8 ok8 hwe8
  have huu : u9 = u8 := dgB_u hw _ hS9 hS8
  subst huu
  show tm_V x (tm_H x w8) c9 s9 1635 [(0, .ref (sb)), (1, .ref (ko)), (2, .ref (ρ 0)), (3, .ref (o)), (4, .int (I (i)))] [.long (u9), .long (u9)]
  refine tm_lcmpE (rfl) hC dL_law_1635 ?_
  refine tm_if_eq 1641 hC dL_law_1636 (by decide) (by omega) (fun _ => ?_) (fun c => absurd (by omega) c)
  refine tm_sub (L' := [(0, .ref (sb)), (1, .ref (ko)), (2, .ref (ρ 0)), (3, .ref (o)), (4, .int (I (i)))]) [0, 1, 2, 3, 4] rfl ?_
  exact kk _ ⟨hW, Λ1, Λ4, f, κ, 0, sf, se, hLW4, ⟨hM, hG, hko⟩, hRM8⟩
