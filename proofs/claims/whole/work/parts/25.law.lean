theorem lg_cmp_self (a : Int64) : lg_cmp a a = 0 := by simp [lg_cmp]
/-- what holds at the head of the law's loop -/
def LI (L : Nat) (xs : Nat → Int32) (h : j_H) (s : j_G) : Prop := XI h s ∧ MI h s ∧ Gd s ∧ hg h 0 = some (aI L xs) ∧ h.1 ≤ 600001 ∧ h.2.1 ≤ 7302250
def LQ (r : Option Value) (h' : j_H) : Prop := r = some (.int 1) ∧ h'.1 ≤ 600001 ∧ h'.2.1 ≤ 7302250
abbrev LW (i : Nat) (h : j_H) : Prop := WP 1000 mL_law 18 [some (.ref 0), some (.ref 1), some (.ref 88), some (.int (nI i))] [] h LQ
theorem LI.step {L : Nat} {xs : Nat → Int32} {h h1 h2 : j_H} {s s' : j_G} (H : LI L xs h s) (hG : Gd s') (x1 : XI h1 s') (s1 : Sm sx h h1) (m2 : MI h2 s') (s2 : Sm sy h1 h2) : LI L xs h2 s' := by
  obtain ⟨-, -, -, h0, a, b⟩ := H
  refine ⟨x1.keep s2 (fun b q => by unfold sy at q; omega), m2, hG, ?_, by rw [s2.1, s1.1]; exact a, by rw [s2.2.1, s1.2.1]; exact b⟩
  rw [s2.at (by unfold sy; omega), s1.at (by unfold sx; omega)]
  exact h0
theorem law_size {L i : Nat} {xs : Nat → Int32} {h : j_H} {s : j_G} (hL : L ≤ 256) (hi : i + 4 ≤ L) (H : LI L xs h s) (hp : Pr mX10_size mX11_size [some (.int (xs (i + 1))), none] [some (.int (xs (i + 1))), none] s) (ih : ∀ h2 s2, LI L xs h2 s2 → LW (i + 4) h2) : WP 1000 mL_law 148 [some (.ref 0), some (.ref 1), some (.ref 88), some (.int (nI i))] [] h LQ := by
  obtain ⟨r, s', hG, px, pm⟩ := hp
  obtain ⟨hX, hM, hg0, h0, ha, hb⟩ := id H
  have x1 := hX.1
  simp (disch := first | omega | assumption) only [r_L_law_148, r_L_law_149, r_L_law_150, r_L_law_151, r_L_law_152, r_L_law_153, r_L_law_154, r_L_law_157, r_L_law_158, r_L_law_159, r_L_law_160, r_L_law_161, r_L_law_162, r_L_law_163, r_L_law_166, r_L_law_169, r_L_law_170_0, r_L_law_170_1, r_L_law_794, r_L_law_797, gF_0, gF_1, gF_2, gF_3, gF_4, gF_5, gF_6, gF_7, gF_8, gF_9, gF_10, gF_11, gF_12, gF_13, gF_14, gF_15, gF_16, gF_17, pF_0, pF_1, pF_2, pF_3, pF_4, pF_5, pF_6, pF_7, pF_8, pF_9, pF_10, pF_11, pF_12, pF_13, pF_14, pF_15, pF_16, pF_17, gI_of, gL_of, gR_of, sI_of, sL_of, gN_of, gO_of, cl_i, cl_r, cl_l, cl_n, pu_s, pu_n, rV_s, hg_same, hg_ne, if_true, if_false, true_and, and_true, ne_eq, not_false_eq_true, not_true_eq_false, nI_add, h0, x1]
  refine ((px h hX).deep (by decide)).mono (fun v h1 hv => ?_)
  obtain ⟨rfl, hX1, hS1⟩ := hv
  have e0 : hg h1 0 = some (aI L xs) := (hS1.at (by unfold sx; omega)).trans h0
  have hM1 : MI h1 s := hM.keep hS1 (fun b q => by unfold sx at q; omega)
  obtain ⟨m1, m2, m3, hm⟩ := hM1.1
  simp (disch := first | omega | assumption) only [r_L_law_148, r_L_law_149, r_L_law_150, r_L_law_151, r_L_law_152, r_L_law_153, r_L_law_154, r_L_law_157, r_L_law_158, r_L_law_159, r_L_law_160, r_L_law_161, r_L_law_162, r_L_law_163, r_L_law_166, r_L_law_169, r_L_law_170_0, r_L_law_170_1, r_L_law_794, r_L_law_797, gF_0, gF_1, gF_2, gF_3, gF_4, gF_5, gF_6, gF_7, gF_8, gF_9, gF_10, gF_11, gF_12, gF_13, gF_14, gF_15, gF_16, gF_17, pF_0, pF_1, pF_2, pF_3, pF_4, pF_5, pF_6, pF_7, pF_8, pF_9, pF_10, pF_11, pF_12, pF_13, pF_14, pF_15, pF_16, pF_17, gI_of, gL_of, gR_of, sI_of, sL_of, gN_of, gO_of, cl_i, cl_r, cl_l, cl_n, pu_s, pu_n, rV_s, hg_same, hg_ne, if_true, if_false, true_and, and_true, ne_eq, not_false_eq_true, not_true_eq_false, nI_add, e0, hm]
  refine ((pm h1 hM1).deep (by decide)).mono (fun v h2 hv => ?_)
  obtain ⟨rfl, hM2, hS2⟩ := hv
  simp (disch := first | omega | assumption) only [r_L_law_148, r_L_law_149, r_L_law_150, r_L_law_151, r_L_law_152, r_L_law_153, r_L_law_154, r_L_law_157, r_L_law_158, r_L_law_159, r_L_law_160, r_L_law_161, r_L_law_162, r_L_law_163, r_L_law_166, r_L_law_169, r_L_law_170_0, r_L_law_170_1, r_L_law_794, r_L_law_797, gF_0, gF_1, gF_2, gF_3, gF_4, gF_5, gF_6, gF_7, gF_8, gF_9, gF_10, gF_11, gF_12, gF_13, gF_14, gF_15, gF_16, gF_17, pF_0, pF_1, pF_2, pF_3, pF_4, pF_5, pF_6, pF_7, pF_8, pF_9, pF_10, pF_11, pF_12, pF_13, pF_14, pF_15, pF_16, pF_17, gI_of, gL_of, gR_of, sI_of, sL_of, gN_of, gO_of, cl_i, cl_r, cl_l, cl_n, pu_s, pu_n, rV_s, hg_same, hg_ne, if_true, if_false, true_and, and_true, ne_eq, not_false_eq_true, not_true_eq_false, nI_add]
  exact ih h2 s' (H.step hG hX1 hS1 hM2 hS2)
theorem law_set {L i : Nat} {xs : Nat → Int32} {h : j_H} {s : j_G} (hL : L ≤ 256) (hi : i + 4 ≤ L) (H : LI L xs h s) (hp : Pr mX10_set mX11_set [some (.int (xs (i + 1))), some (.int (xs (i + 2))), some (.int (xs (i + 3))), none] [some (.int (xs (i + 1))), some (.int (xs (i + 2))), some (.int (xs (i + 3))), none] s) (ih : ∀ h2 s2, LI L xs h2 s2 → LW (i + 4) h2) : WP 1000 mL_law 171 [some (.ref 0), some (.ref 1), some (.ref 88), some (.int (nI i))] [] h LQ := by
  obtain ⟨r, s', hG, px, pm⟩ := hp
  obtain ⟨hX, hM, hg0, h0, ha, hb⟩ := id H
  have x1 := hX.1
  simp (disch := first | omega | assumption) only [r_L_law_171, r_L_law_172, r_L_law_173, r_L_law_174, r_L_law_175, r_L_law_176, r_L_law_177, r_L_law_178, r_L_law_179, r_L_law_180, r_L_law_181, r_L_law_182, r_L_law_183, r_L_law_184, r_L_law_185, r_L_law_186, r_L_law_187, r_L_law_190, r_L_law_191, r_L_law_192, r_L_law_193, r_L_law_194, r_L_law_195, r_L_law_196, r_L_law_197, r_L_law_198, r_L_law_199, r_L_law_200, r_L_law_201, r_L_law_202, r_L_law_203, r_L_law_204, r_L_law_205, r_L_law_206, r_L_law_209, r_L_law_212, r_L_law_213_0, r_L_law_213_1, r_L_law_794, r_L_law_797, gF_0, gF_1, gF_2, gF_3, gF_4, gF_5, gF_6, gF_7, gF_8, gF_9, gF_10, gF_11, gF_12, gF_13, gF_14, gF_15, gF_16, gF_17, pF_0, pF_1, pF_2, pF_3, pF_4, pF_5, pF_6, pF_7, pF_8, pF_9, pF_10, pF_11, pF_12, pF_13, pF_14, pF_15, pF_16, pF_17, gI_of, gL_of, gR_of, sI_of, sL_of, gN_of, gO_of, cl_i, cl_r, cl_l, cl_n, pu_s, pu_n, rV_s, hg_same, hg_ne, if_true, if_false, true_and, and_true, ne_eq, not_false_eq_true, not_true_eq_false, nI_add, h0, x1]
  refine ((px h hX).deep (by decide)).mono (fun v h1 hv => ?_)
  obtain ⟨rfl, hX1, hS1⟩ := hv
  have e0 : hg h1 0 = some (aI L xs) := (hS1.at (by unfold sx; omega)).trans h0
  have hM1 : MI h1 s := hM.keep hS1 (fun b q => by unfold sx at q; omega)
  obtain ⟨m1, m2, m3, hm⟩ := hM1.1
  simp (disch := first | omega | assumption) only [r_L_law_171, r_L_law_172, r_L_law_173, r_L_law_174, r_L_law_175, r_L_law_176, r_L_law_177, r_L_law_178, r_L_law_179, r_L_law_180, r_L_law_181, r_L_law_182, r_L_law_183, r_L_law_184, r_L_law_185, r_L_law_186, r_L_law_187, r_L_law_190, r_L_law_191, r_L_law_192, r_L_law_193, r_L_law_194, r_L_law_195, r_L_law_196, r_L_law_197, r_L_law_198, r_L_law_199, r_L_law_200, r_L_law_201, r_L_law_202, r_L_law_203, r_L_law_204, r_L_law_205, r_L_law_206, r_L_law_209, r_L_law_212, r_L_law_213_0, r_L_law_213_1, r_L_law_794, r_L_law_797, gF_0, gF_1, gF_2, gF_3, gF_4, gF_5, gF_6, gF_7, gF_8, gF_9, gF_10, gF_11, gF_12, gF_13, gF_14, gF_15, gF_16, gF_17, pF_0, pF_1, pF_2, pF_3, pF_4, pF_5, pF_6, pF_7, pF_8, pF_9, pF_10, pF_11, pF_12, pF_13, pF_14, pF_15, pF_16, pF_17, gI_of, gL_of, gR_of, sI_of, sL_of, gN_of, gO_of, cl_i, cl_r, cl_l, cl_n, pu_s, pu_n, rV_s, hg_same, hg_ne, if_true, if_false, true_and, and_true, ne_eq, not_false_eq_true, not_true_eq_false, nI_add, e0, hm]
  refine ((pm h1 hM1).deep (by decide)).mono (fun v h2 hv => ?_)
  obtain ⟨rfl, hM2, hS2⟩ := hv
  simp (disch := first | omega | assumption) only [r_L_law_171, r_L_law_172, r_L_law_173, r_L_law_174, r_L_law_175, r_L_law_176, r_L_law_177, r_L_law_178, r_L_law_179, r_L_law_180, r_L_law_181, r_L_law_182, r_L_law_183, r_L_law_184, r_L_law_185, r_L_law_186, r_L_law_187, r_L_law_190, r_L_law_191, r_L_law_192, r_L_law_193, r_L_law_194, r_L_law_195, r_L_law_196, r_L_law_197, r_L_law_198, r_L_law_199, r_L_law_200, r_L_law_201, r_L_law_202, r_L_law_203, r_L_law_204, r_L_law_205, r_L_law_206, r_L_law_209, r_L_law_212, r_L_law_213_0, r_L_law_213_1, r_L_law_794, r_L_law_797, gF_0, gF_1, gF_2, gF_3, gF_4, gF_5, gF_6, gF_7, gF_8, gF_9, gF_10, gF_11, gF_12, gF_13, gF_14, gF_15, gF_16, gF_17, pF_0, pF_1, pF_2, pF_3, pF_4, pF_5, pF_6, pF_7, pF_8, pF_9, pF_10, pF_11, pF_12, pF_13, pF_14, pF_15, pF_16, pF_17, gI_of, gL_of, gR_of, sI_of, sL_of, gN_of, gO_of, cl_i, cl_r, cl_l, cl_n, pu_s, pu_n, rV_s, hg_same, hg_ne, if_true, if_false, true_and, and_true, ne_eq, not_false_eq_true, not_true_eq_false, nI_add]
  exact ih h2 s' (H.step hG hX1 hS1 hM2 hS2)
theorem law_cell {L i : Nat} {xs : Nat → Int32} {h : j_H} {s : j_G} (hL : L ≤ 256) (hi : i + 4 ≤ L) (H : LI L xs h s) (hp : Pr mX10_cell mX11_cell [some (.int (xs (i + 1))), some (.int (xs (i + 2)))] [some (.int (xs (i + 1))), some (.int (xs (i + 2)))] s) (ih : ∀ h2 s2, LI L xs h2 s2 → LW (i + 4) h2) : WP 1000 mL_law 214 [some (.ref 0), some (.ref 1), some (.ref 88), some (.int (nI i))] [] h LQ := by
  obtain ⟨r, s', hG, px, pm⟩ := hp
  obtain ⟨hX, hM, hg0, h0, ha, hb⟩ := id H
  have x1 := hX.1
  simp (disch := first | omega | assumption) only [r_L_law_214, r_L_law_215, r_L_law_216, r_L_law_217, r_L_law_218, r_L_law_219, r_L_law_220, r_L_law_221, r_L_law_222, r_L_law_223, r_L_law_224, r_L_law_225, r_L_law_228, r_L_law_229, r_L_law_230, r_L_law_231, r_L_law_232, r_L_law_233, r_L_law_234, r_L_law_235, r_L_law_236, r_L_law_237, r_L_law_238, r_L_law_239, r_L_law_242, r_L_law_245, r_L_law_246_0, r_L_law_246_1, r_L_law_794, r_L_law_797, gF_0, gF_1, gF_2, gF_3, gF_4, gF_5, gF_6, gF_7, gF_8, gF_9, gF_10, gF_11, gF_12, gF_13, gF_14, gF_15, gF_16, gF_17, pF_0, pF_1, pF_2, pF_3, pF_4, pF_5, pF_6, pF_7, pF_8, pF_9, pF_10, pF_11, pF_12, pF_13, pF_14, pF_15, pF_16, pF_17, gI_of, gL_of, gR_of, sI_of, sL_of, gN_of, gO_of, cl_i, cl_r, cl_l, cl_n, pu_s, pu_n, rV_s, hg_same, hg_ne, if_true, if_false, true_and, and_true, ne_eq, not_false_eq_true, not_true_eq_false, nI_add, h0, x1]
  refine ((px h hX).deep (by decide)).mono (fun v h1 hv => ?_)
  obtain ⟨rfl, hX1, hS1⟩ := hv
  have e0 : hg h1 0 = some (aI L xs) := (hS1.at (by unfold sx; omega)).trans h0
  have hM1 : MI h1 s := hM.keep hS1 (fun b q => by unfold sx at q; omega)
  obtain ⟨m1, m2, m3, hm⟩ := hM1.1
  simp (disch := first | omega | assumption) only [r_L_law_214, r_L_law_215, r_L_law_216, r_L_law_217, r_L_law_218, r_L_law_219, r_L_law_220, r_L_law_221, r_L_law_222, r_L_law_223, r_L_law_224, r_L_law_225, r_L_law_228, r_L_law_229, r_L_law_230, r_L_law_231, r_L_law_232, r_L_law_233, r_L_law_234, r_L_law_235, r_L_law_236, r_L_law_237, r_L_law_238, r_L_law_239, r_L_law_242, r_L_law_245, r_L_law_246_0, r_L_law_246_1, r_L_law_794, r_L_law_797, gF_0, gF_1, gF_2, gF_3, gF_4, gF_5, gF_6, gF_7, gF_8, gF_9, gF_10, gF_11, gF_12, gF_13, gF_14, gF_15, gF_16, gF_17, pF_0, pF_1, pF_2, pF_3, pF_4, pF_5, pF_6, pF_7, pF_8, pF_9, pF_10, pF_11, pF_12, pF_13, pF_14, pF_15, pF_16, pF_17, gI_of, gL_of, gR_of, sI_of, sL_of, gN_of, gO_of, cl_i, cl_r, cl_l, cl_n, pu_s, pu_n, rV_s, hg_same, hg_ne, if_true, if_false, true_and, and_true, ne_eq, not_false_eq_true, not_true_eq_false, nI_add, e0, hm]
  refine ((pm h1 hM1).deep (by decide)).mono (fun v h2 hv => ?_)
  obtain ⟨rfl, hM2, hS2⟩ := hv
  simp (disch := first | omega | assumption) only [r_L_law_214, r_L_law_215, r_L_law_216, r_L_law_217, r_L_law_218, r_L_law_219, r_L_law_220, r_L_law_221, r_L_law_222, r_L_law_223, r_L_law_224, r_L_law_225, r_L_law_228, r_L_law_229, r_L_law_230, r_L_law_231, r_L_law_232, r_L_law_233, r_L_law_234, r_L_law_235, r_L_law_236, r_L_law_237, r_L_law_238, r_L_law_239, r_L_law_242, r_L_law_245, r_L_law_246_0, r_L_law_246_1, r_L_law_794, r_L_law_797, gF_0, gF_1, gF_2, gF_3, gF_4, gF_5, gF_6, gF_7, gF_8, gF_9, gF_10, gF_11, gF_12, gF_13, gF_14, gF_15, gF_16, gF_17, pF_0, pF_1, pF_2, pF_3, pF_4, pF_5, pF_6, pF_7, pF_8, pF_9, pF_10, pF_11, pF_12, pF_13, pF_14, pF_15, pF_16, pF_17, gI_of, gL_of, gR_of, sI_of, sL_of, gN_of, gO_of, cl_i, cl_r, cl_l, cl_n, pu_s, pu_n, rV_s, hg_same, hg_ne, if_true, if_false, true_and, and_true, ne_eq, not_false_eq_true, not_true_eq_false, nI_add]
  exact ih h2 s' (H.step hG hX1 hS1 hM2 hS2)
theorem law_side {L i : Nat} {xs : Nat → Int32} {h : j_H} {s : j_G} (hL : L ≤ 256) (hi : i + 4 ≤ L) (H : LI L xs h s) (hp : Pr mX10_side mX11_side [some (.int (xs (i + 1))), some (.int (xs (i + 2))), none] [some (.int (xs (i + 1))), some (.int (xs (i + 2))), none] s) (ih : ∀ h2 s2, LI L xs h2 s2 → LW (i + 4) h2) : WP 1000 mL_law 247 [some (.ref 0), some (.ref 1), some (.ref 88), some (.int (nI i))] [] h LQ := by
  obtain ⟨r, s', hG, px, pm⟩ := hp
  obtain ⟨hX, hM, hg0, h0, ha, hb⟩ := id H
  have x1 := hX.1
  simp (disch := first | omega | assumption) only [r_L_law_247, r_L_law_248, r_L_law_249, r_L_law_250, r_L_law_251, r_L_law_252, r_L_law_253, r_L_law_254, r_L_law_255, r_L_law_256, r_L_law_257, r_L_law_258, r_L_law_261, r_L_law_262, r_L_law_263, r_L_law_264, r_L_law_265, r_L_law_266, r_L_law_267, r_L_law_268, r_L_law_269, r_L_law_270, r_L_law_271, r_L_law_272, r_L_law_275, r_L_law_278, r_L_law_279_0, r_L_law_279_1, r_L_law_794, r_L_law_797, gF_0, gF_1, gF_2, gF_3, gF_4, gF_5, gF_6, gF_7, gF_8, gF_9, gF_10, gF_11, gF_12, gF_13, gF_14, gF_15, gF_16, gF_17, pF_0, pF_1, pF_2, pF_3, pF_4, pF_5, pF_6, pF_7, pF_8, pF_9, pF_10, pF_11, pF_12, pF_13, pF_14, pF_15, pF_16, pF_17, gI_of, gL_of, gR_of, sI_of, sL_of, gN_of, gO_of, cl_i, cl_r, cl_l, cl_n, pu_s, pu_n, rV_s, hg_same, hg_ne, if_true, if_false, true_and, and_true, ne_eq, not_false_eq_true, not_true_eq_false, nI_add, h0, x1]
  refine ((px h hX).deep (by decide)).mono (fun v h1 hv => ?_)
  obtain ⟨rfl, hX1, hS1⟩ := hv
  have e0 : hg h1 0 = some (aI L xs) := (hS1.at (by unfold sx; omega)).trans h0
  have hM1 : MI h1 s := hM.keep hS1 (fun b q => by unfold sx at q; omega)
  obtain ⟨m1, m2, m3, hm⟩ := hM1.1
  simp (disch := first | omega | assumption) only [r_L_law_247, r_L_law_248, r_L_law_249, r_L_law_250, r_L_law_251, r_L_law_252, r_L_law_253, r_L_law_254, r_L_law_255, r_L_law_256, r_L_law_257, r_L_law_258, r_L_law_261, r_L_law_262, r_L_law_263, r_L_law_264, r_L_law_265, r_L_law_266, r_L_law_267, r_L_law_268, r_L_law_269, r_L_law_270, r_L_law_271, r_L_law_272, r_L_law_275, r_L_law_278, r_L_law_279_0, r_L_law_279_1, r_L_law_794, r_L_law_797, gF_0, gF_1, gF_2, gF_3, gF_4, gF_5, gF_6, gF_7, gF_8, gF_9, gF_10, gF_11, gF_12, gF_13, gF_14, gF_15, gF_16, gF_17, pF_0, pF_1, pF_2, pF_3, pF_4, pF_5, pF_6, pF_7, pF_8, pF_9, pF_10, pF_11, pF_12, pF_13, pF_14, pF_15, pF_16, pF_17, gI_of, gL_of, gR_of, sI_of, sL_of, gN_of, gO_of, cl_i, cl_r, cl_l, cl_n, pu_s, pu_n, rV_s, hg_same, hg_ne, if_true, if_false, true_and, and_true, ne_eq, not_false_eq_true, not_true_eq_false, nI_add, e0, hm]
  refine ((pm h1 hM1).deep (by decide)).mono (fun v h2 hv => ?_)
  obtain ⟨rfl, hM2, hS2⟩ := hv
  simp (disch := first | omega | assumption) only [r_L_law_247, r_L_law_248, r_L_law_249, r_L_law_250, r_L_law_251, r_L_law_252, r_L_law_253, r_L_law_254, r_L_law_255, r_L_law_256, r_L_law_257, r_L_law_258, r_L_law_261, r_L_law_262, r_L_law_263, r_L_law_264, r_L_law_265, r_L_law_266, r_L_law_267, r_L_law_268, r_L_law_269, r_L_law_270, r_L_law_271, r_L_law_272, r_L_law_275, r_L_law_278, r_L_law_279_0, r_L_law_279_1, r_L_law_794, r_L_law_797, gF_0, gF_1, gF_2, gF_3, gF_4, gF_5, gF_6, gF_7, gF_8, gF_9, gF_10, gF_11, gF_12, gF_13, gF_14, gF_15, gF_16, gF_17, pF_0, pF_1, pF_2, pF_3, pF_4, pF_5, pF_6, pF_7, pF_8, pF_9, pF_10, pF_11, pF_12, pF_13, pF_14, pF_15, pF_16, pF_17, gI_of, gL_of, gR_of, sI_of, sL_of, gN_of, gO_of, cl_i, cl_r, cl_l, cl_n, pu_s, pu_n, rV_s, hg_same, hg_ne, if_true, if_false, true_and, and_true, ne_eq, not_false_eq_true, not_true_eq_false, nI_add]
  exact ih h2 s' (H.step hG hX1 hS1 hM2 hS2)
theorem law_count {L i : Nat} {xs : Nat → Int32} {h : j_H} {s : j_G} (hL : L ≤ 256) (hi : i + 4 ≤ L) (H : LI L xs h s) (hp : Pr mX10_count mX11_count [some (.int (xs (i + 1)))] [some (.int (xs (i + 1)))] s) (ih : ∀ h2 s2, LI L xs h2 s2 → LW (i + 4) h2) : WP 1000 mL_law 280 [some (.ref 0), some (.ref 1), some (.ref 88), some (.int (nI i))] [] h LQ := by
  obtain ⟨r, s', hG, px, pm⟩ := hp
  obtain ⟨hX, hM, hg0, h0, ha, hb⟩ := id H
  have x1 := hX.1
  simp (disch := first | omega | assumption) only [r_L_law_280, r_L_law_281, r_L_law_282, r_L_law_283, r_L_law_284, r_L_law_285, r_L_law_286, r_L_law_289, r_L_law_290, r_L_law_291, r_L_law_292, r_L_law_293, r_L_law_294, r_L_law_295, r_L_law_298, r_L_law_301, r_L_law_302_0, r_L_law_302_1, r_L_law_794, r_L_law_797, gF_0, gF_1, gF_2, gF_3, gF_4, gF_5, gF_6, gF_7, gF_8, gF_9, gF_10, gF_11, gF_12, gF_13, gF_14, gF_15, gF_16, gF_17, pF_0, pF_1, pF_2, pF_3, pF_4, pF_5, pF_6, pF_7, pF_8, pF_9, pF_10, pF_11, pF_12, pF_13, pF_14, pF_15, pF_16, pF_17, gI_of, gL_of, gR_of, sI_of, sL_of, gN_of, gO_of, cl_i, cl_r, cl_l, cl_n, pu_s, pu_n, rV_s, hg_same, hg_ne, if_true, if_false, true_and, and_true, ne_eq, not_false_eq_true, not_true_eq_false, nI_add, h0, x1]
  refine ((px h hX).deep (by decide)).mono (fun v h1 hv => ?_)
  obtain ⟨rfl, hX1, hS1⟩ := hv
  have e0 : hg h1 0 = some (aI L xs) := (hS1.at (by unfold sx; omega)).trans h0
  have hM1 : MI h1 s := hM.keep hS1 (fun b q => by unfold sx at q; omega)
  obtain ⟨m1, m2, m3, hm⟩ := hM1.1
  simp (disch := first | omega | assumption) only [r_L_law_280, r_L_law_281, r_L_law_282, r_L_law_283, r_L_law_284, r_L_law_285, r_L_law_286, r_L_law_289, r_L_law_290, r_L_law_291, r_L_law_292, r_L_law_293, r_L_law_294, r_L_law_295, r_L_law_298, r_L_law_301, r_L_law_302_0, r_L_law_302_1, r_L_law_794, r_L_law_797, gF_0, gF_1, gF_2, gF_3, gF_4, gF_5, gF_6, gF_7, gF_8, gF_9, gF_10, gF_11, gF_12, gF_13, gF_14, gF_15, gF_16, gF_17, pF_0, pF_1, pF_2, pF_3, pF_4, pF_5, pF_6, pF_7, pF_8, pF_9, pF_10, pF_11, pF_12, pF_13, pF_14, pF_15, pF_16, pF_17, gI_of, gL_of, gR_of, sI_of, sL_of, gN_of, gO_of, cl_i, cl_r, cl_l, cl_n, pu_s, pu_n, rV_s, hg_same, hg_ne, if_true, if_false, true_and, and_true, ne_eq, not_false_eq_true, not_true_eq_false, nI_add, e0, hm]
  refine ((pm h1 hM1).deep (by decide)).mono (fun v h2 hv => ?_)
  obtain ⟨rfl, hM2, hS2⟩ := hv
  simp (disch := first | omega | assumption) only [r_L_law_280, r_L_law_281, r_L_law_282, r_L_law_283, r_L_law_284, r_L_law_285, r_L_law_286, r_L_law_289, r_L_law_290, r_L_law_291, r_L_law_292, r_L_law_293, r_L_law_294, r_L_law_295, r_L_law_298, r_L_law_301, r_L_law_302_0, r_L_law_302_1, r_L_law_794, r_L_law_797, gF_0, gF_1, gF_2, gF_3, gF_4, gF_5, gF_6, gF_7, gF_8, gF_9, gF_10, gF_11, gF_12, gF_13, gF_14, gF_15, gF_16, gF_17, pF_0, pF_1, pF_2, pF_3, pF_4, pF_5, pF_6, pF_7, pF_8, pF_9, pF_10, pF_11, pF_12, pF_13, pF_14, pF_15, pF_16, pF_17, gI_of, gL_of, gR_of, sI_of, sL_of, gN_of, gO_of, cl_i, cl_r, cl_l, cl_n, pu_s, pu_n, rV_s, hg_same, hg_ne, if_true, if_false, true_and, and_true, ne_eq, not_false_eq_true, not_true_eq_false, nI_add]
  exact ih h2 s' (H.step hG hX1 hS1 hM2 hS2)
theorem law_matched {L i : Nat} {xs : Nat → Int32} {h : j_H} {s : j_G} (hL : L ≤ 256) (hi : i + 4 ≤ L) (H : LI L xs h s) (hp : Pr mX10_matched mX11_matched [some (.int (xs (i + 1)))] [some (.int (xs (i + 1)))] s) (ih : ∀ h2 s2, LI L xs h2 s2 → LW (i + 4) h2) : WP 1000 mL_law 303 [some (.ref 0), some (.ref 1), some (.ref 88), some (.int (nI i))] [] h LQ := by
  obtain ⟨r, s', hG, px, pm⟩ := hp
  obtain ⟨hX, hM, hg0, h0, ha, hb⟩ := id H
  have x1 := hX.1
  simp (disch := first | omega | assumption) only [r_L_law_303, r_L_law_304, r_L_law_305, r_L_law_306, r_L_law_307, r_L_law_308, r_L_law_309, r_L_law_312, r_L_law_313, r_L_law_314, r_L_law_315, r_L_law_316, r_L_law_317, r_L_law_318, r_L_law_321, r_L_law_324, r_L_law_325_0, r_L_law_325_1, r_L_law_794, r_L_law_797, gF_0, gF_1, gF_2, gF_3, gF_4, gF_5, gF_6, gF_7, gF_8, gF_9, gF_10, gF_11, gF_12, gF_13, gF_14, gF_15, gF_16, gF_17, pF_0, pF_1, pF_2, pF_3, pF_4, pF_5, pF_6, pF_7, pF_8, pF_9, pF_10, pF_11, pF_12, pF_13, pF_14, pF_15, pF_16, pF_17, gI_of, gL_of, gR_of, sI_of, sL_of, gN_of, gO_of, cl_i, cl_r, cl_l, cl_n, pu_s, pu_n, rV_s, hg_same, hg_ne, if_true, if_false, true_and, and_true, ne_eq, not_false_eq_true, not_true_eq_false, nI_add, h0, x1]
  refine ((px h hX).deep (by decide)).mono (fun v h1 hv => ?_)
  obtain ⟨rfl, hX1, hS1⟩ := hv
  have e0 : hg h1 0 = some (aI L xs) := (hS1.at (by unfold sx; omega)).trans h0
  have hM1 : MI h1 s := hM.keep hS1 (fun b q => by unfold sx at q; omega)
  obtain ⟨m1, m2, m3, hm⟩ := hM1.1
  simp (disch := first | omega | assumption) only [r_L_law_303, r_L_law_304, r_L_law_305, r_L_law_306, r_L_law_307, r_L_law_308, r_L_law_309, r_L_law_312, r_L_law_313, r_L_law_314, r_L_law_315, r_L_law_316, r_L_law_317, r_L_law_318, r_L_law_321, r_L_law_324, r_L_law_325_0, r_L_law_325_1, r_L_law_794, r_L_law_797, gF_0, gF_1, gF_2, gF_3, gF_4, gF_5, gF_6, gF_7, gF_8, gF_9, gF_10, gF_11, gF_12, gF_13, gF_14, gF_15, gF_16, gF_17, pF_0, pF_1, pF_2, pF_3, pF_4, pF_5, pF_6, pF_7, pF_8, pF_9, pF_10, pF_11, pF_12, pF_13, pF_14, pF_15, pF_16, pF_17, gI_of, gL_of, gR_of, sI_of, sL_of, gN_of, gO_of, cl_i, cl_r, cl_l, cl_n, pu_s, pu_n, rV_s, hg_same, hg_ne, if_true, if_false, true_and, and_true, ne_eq, not_false_eq_true, not_true_eq_false, nI_add, e0, hm]
  refine ((pm h1 hM1).deep (by decide)).mono (fun v h2 hv => ?_)
  obtain ⟨rfl, hM2, hS2⟩ := hv
  simp (disch := first | omega | assumption) only [r_L_law_303, r_L_law_304, r_L_law_305, r_L_law_306, r_L_law_307, r_L_law_308, r_L_law_309, r_L_law_312, r_L_law_313, r_L_law_314, r_L_law_315, r_L_law_316, r_L_law_317, r_L_law_318, r_L_law_321, r_L_law_324, r_L_law_325_0, r_L_law_325_1, r_L_law_794, r_L_law_797, gF_0, gF_1, gF_2, gF_3, gF_4, gF_5, gF_6, gF_7, gF_8, gF_9, gF_10, gF_11, gF_12, gF_13, gF_14, gF_15, gF_16, gF_17, pF_0, pF_1, pF_2, pF_3, pF_4, pF_5, pF_6, pF_7, pF_8, pF_9, pF_10, pF_11, pF_12, pF_13, pF_14, pF_15, pF_16, pF_17, gI_of, gL_of, gR_of, sI_of, sL_of, gN_of, gO_of, cl_i, cl_r, cl_l, cl_n, pu_s, pu_n, rV_s, hg_same, hg_ne, if_true, if_false, true_and, and_true, ne_eq, not_false_eq_true, not_true_eq_false, nI_add]
  exact ih h2 s' (H.step hG hX1 hS1 hM2 hS2)
theorem law_heap {L i : Nat} {xs : Nat → Int32} {h : j_H} {s : j_G} (hL : L ≤ 256) (hi : i + 4 ≤ L) (H : LI L xs h s) (hp : Pr mX10_heap mX11_heap [] [none, none, none, none] s) (ih : ∀ h2 s2, LI L xs h2 s2 → LW (i + 4) h2) : WP 1000 mL_law 326 [some (.ref 0), some (.ref 1), some (.ref 88), some (.int (nI i))] [] h LQ := by
  obtain ⟨r, s', hG, px, pm⟩ := hp
  obtain ⟨hX, hM, hg0, h0, ha, hb⟩ := id H
  have x1 := hX.1
  simp (disch := first | omega | assumption) only [r_L_law_326, r_L_law_327, r_L_law_330, r_L_law_331, r_L_law_334, r_L_law_337, r_L_law_338_0, r_L_law_338_1, r_L_law_794, r_L_law_797, gF_0, gF_1, gF_2, gF_3, gF_4, gF_5, gF_6, gF_7, gF_8, gF_9, gF_10, gF_11, gF_12, gF_13, gF_14, gF_15, gF_16, gF_17, pF_0, pF_1, pF_2, pF_3, pF_4, pF_5, pF_6, pF_7, pF_8, pF_9, pF_10, pF_11, pF_12, pF_13, pF_14, pF_15, pF_16, pF_17, gI_of, gL_of, gR_of, sI_of, sL_of, gN_of, gO_of, cl_i, cl_r, cl_l, cl_n, pu_s, pu_n, rV_s, hg_same, hg_ne, if_true, if_false, true_and, and_true, ne_eq, not_false_eq_true, not_true_eq_false, nI_add, h0, x1]
  refine ((px h hX).deep (by decide)).mono (fun v h1 hv => ?_)
  obtain ⟨rfl, hX1, hS1⟩ := hv
  have e0 : hg h1 0 = some (aI L xs) := (hS1.at (by unfold sx; omega)).trans h0
  have hM1 : MI h1 s := hM.keep hS1 (fun b q => by unfold sx at q; omega)
  obtain ⟨m1, m2, m3, hm⟩ := hM1.1
  simp (disch := first | omega | assumption) only [r_L_law_326, r_L_law_327, r_L_law_330, r_L_law_331, r_L_law_334, r_L_law_337, r_L_law_338_0, r_L_law_338_1, r_L_law_794, r_L_law_797, gF_0, gF_1, gF_2, gF_3, gF_4, gF_5, gF_6, gF_7, gF_8, gF_9, gF_10, gF_11, gF_12, gF_13, gF_14, gF_15, gF_16, gF_17, pF_0, pF_1, pF_2, pF_3, pF_4, pF_5, pF_6, pF_7, pF_8, pF_9, pF_10, pF_11, pF_12, pF_13, pF_14, pF_15, pF_16, pF_17, gI_of, gL_of, gR_of, sI_of, sL_of, gN_of, gO_of, cl_i, cl_r, cl_l, cl_n, pu_s, pu_n, rV_s, hg_same, hg_ne, if_true, if_false, true_and, and_true, ne_eq, not_false_eq_true, not_true_eq_false, nI_add, e0, hm]
  refine ((pm h1 hM1).deep (by decide)).mono (fun v h2 hv => ?_)
  obtain ⟨rfl, hM2, hS2⟩ := hv
  simp (disch := first | omega | assumption) only [r_L_law_326, r_L_law_327, r_L_law_330, r_L_law_331, r_L_law_334, r_L_law_337, r_L_law_338_0, r_L_law_338_1, r_L_law_794, r_L_law_797, gF_0, gF_1, gF_2, gF_3, gF_4, gF_5, gF_6, gF_7, gF_8, gF_9, gF_10, gF_11, gF_12, gF_13, gF_14, gF_15, gF_16, gF_17, pF_0, pF_1, pF_2, pF_3, pF_4, pF_5, pF_6, pF_7, pF_8, pF_9, pF_10, pF_11, pF_12, pF_13, pF_14, pF_15, pF_16, pF_17, gI_of, gL_of, gR_of, sI_of, sL_of, gN_of, gO_of, cl_i, cl_r, cl_l, cl_n, pu_s, pu_n, rV_s, hg_same, hg_ne, if_true, if_false, true_and, and_true, ne_eq, not_false_eq_true, not_true_eq_false, nI_add]
  exact ih h2 s' (H.step hG hX1 hS1 hM2 hS2)
theorem law_columns {L i : Nat} {xs : Nat → Int32} {h : j_H} {s : j_G} (hL : L ≤ 256) (hi : i + 4 ≤ L) (H : LI L xs h s) (hp : Pr mX10_columns mX11_columns [some (.int (xs (i + 1))), none, none] [some (.int (xs (i + 1)))] s) (ih : ∀ h2 s2, LI L xs h2 s2 → LW (i + 4) h2) : WP 1000 mL_law 339 [some (.ref 0), some (.ref 1), some (.ref 88), some (.int (nI i))] [] h LQ := by
  obtain ⟨r, s', hG, px, pm⟩ := hp
  obtain ⟨hX, hM, hg0, h0, ha, hb⟩ := id H
  have x1 := hX.1
  simp (disch := first | omega | assumption) only [r_L_law_339, r_L_law_340, r_L_law_341, r_L_law_342, r_L_law_343, r_L_law_344, r_L_law_345, r_L_law_348, r_L_law_349, r_L_law_350, r_L_law_351, r_L_law_352, r_L_law_353, r_L_law_354, r_L_law_357, r_L_law_360, r_L_law_361_0, r_L_law_361_1, r_L_law_794, r_L_law_797, gF_0, gF_1, gF_2, gF_3, gF_4, gF_5, gF_6, gF_7, gF_8, gF_9, gF_10, gF_11, gF_12, gF_13, gF_14, gF_15, gF_16, gF_17, pF_0, pF_1, pF_2, pF_3, pF_4, pF_5, pF_6, pF_7, pF_8, pF_9, pF_10, pF_11, pF_12, pF_13, pF_14, pF_15, pF_16, pF_17, gI_of, gL_of, gR_of, sI_of, sL_of, gN_of, gO_of, cl_i, cl_r, cl_l, cl_n, pu_s, pu_n, rV_s, hg_same, hg_ne, if_true, if_false, true_and, and_true, ne_eq, not_false_eq_true, not_true_eq_false, nI_add, h0, x1]
  refine ((px h hX).deep (by decide)).mono (fun v h1 hv => ?_)
  obtain ⟨rfl, hX1, hS1⟩ := hv
  have e0 : hg h1 0 = some (aI L xs) := (hS1.at (by unfold sx; omega)).trans h0
  have hM1 : MI h1 s := hM.keep hS1 (fun b q => by unfold sx at q; omega)
  obtain ⟨m1, m2, m3, hm⟩ := hM1.1
  simp (disch := first | omega | assumption) only [r_L_law_339, r_L_law_340, r_L_law_341, r_L_law_342, r_L_law_343, r_L_law_344, r_L_law_345, r_L_law_348, r_L_law_349, r_L_law_350, r_L_law_351, r_L_law_352, r_L_law_353, r_L_law_354, r_L_law_357, r_L_law_360, r_L_law_361_0, r_L_law_361_1, r_L_law_794, r_L_law_797, gF_0, gF_1, gF_2, gF_3, gF_4, gF_5, gF_6, gF_7, gF_8, gF_9, gF_10, gF_11, gF_12, gF_13, gF_14, gF_15, gF_16, gF_17, pF_0, pF_1, pF_2, pF_3, pF_4, pF_5, pF_6, pF_7, pF_8, pF_9, pF_10, pF_11, pF_12, pF_13, pF_14, pF_15, pF_16, pF_17, gI_of, gL_of, gR_of, sI_of, sL_of, gN_of, gO_of, cl_i, cl_r, cl_l, cl_n, pu_s, pu_n, rV_s, hg_same, hg_ne, if_true, if_false, true_and, and_true, ne_eq, not_false_eq_true, not_true_eq_false, nI_add, e0, hm]
  refine ((pm h1 hM1).deep (by decide)).mono (fun v h2 hv => ?_)
  obtain ⟨rfl, hM2, hS2⟩ := hv
  simp (disch := first | omega | assumption) only [r_L_law_339, r_L_law_340, r_L_law_341, r_L_law_342, r_L_law_343, r_L_law_344, r_L_law_345, r_L_law_348, r_L_law_349, r_L_law_350, r_L_law_351, r_L_law_352, r_L_law_353, r_L_law_354, r_L_law_357, r_L_law_360, r_L_law_361_0, r_L_law_361_1, r_L_law_794, r_L_law_797, gF_0, gF_1, gF_2, gF_3, gF_4, gF_5, gF_6, gF_7, gF_8, gF_9, gF_10, gF_11, gF_12, gF_13, gF_14, gF_15, gF_16, gF_17, pF_0, pF_1, pF_2, pF_3, pF_4, pF_5, pF_6, pF_7, pF_8, pF_9, pF_10, pF_11, pF_12, pF_13, pF_14, pF_15, pF_16, pF_17, gI_of, gL_of, gR_of, sI_of, sL_of, gN_of, gO_of, cl_i, cl_r, cl_l, cl_n, pu_s, pu_n, rV_s, hg_same, hg_ne, if_true, if_false, true_and, and_true, ne_eq, not_false_eq_true, not_true_eq_false, nI_add]
  exact ih h2 s' (H.step hG hX1 hS1 hM2 hS2)
theorem law_block {L i : Nat} {xs : Nat → Int32} {h : j_H} {s : j_G} (hL : L ≤ 256) (hi : i + 4 ≤ L) (H : LI L xs h s) (hp : Pr mX10_block mX11_block [some (.int (xs (i + 1)))] [some (.int (xs (i + 1)))] s) (ih : ∀ h2 s2, LI L xs h2 s2 → LW (i + 4) h2) : WP 1000 mL_law 362 [some (.ref 0), some (.ref 1), some (.ref 88), some (.int (nI i))] [] h LQ := by
  obtain ⟨r, s', hG, px, pm⟩ := hp
  obtain ⟨hX, hM, hg0, h0, ha, hb⟩ := id H
  have x1 := hX.1
  simp (disch := first | omega | assumption) only [r_L_law_362, r_L_law_363, r_L_law_364, r_L_law_365, r_L_law_366, r_L_law_367, r_L_law_368, r_L_law_371, r_L_law_372, r_L_law_373, r_L_law_374, r_L_law_375, r_L_law_376, r_L_law_377, r_L_law_380, r_L_law_383, r_L_law_384_0, r_L_law_384_1, r_L_law_794, r_L_law_797, gF_0, gF_1, gF_2, gF_3, gF_4, gF_5, gF_6, gF_7, gF_8, gF_9, gF_10, gF_11, gF_12, gF_13, gF_14, gF_15, gF_16, gF_17, pF_0, pF_1, pF_2, pF_3, pF_4, pF_5, pF_6, pF_7, pF_8, pF_9, pF_10, pF_11, pF_12, pF_13, pF_14, pF_15, pF_16, pF_17, gI_of, gL_of, gR_of, sI_of, sL_of, gN_of, gO_of, cl_i, cl_r, cl_l, cl_n, pu_s, pu_n, rV_s, hg_same, hg_ne, if_true, if_false, true_and, and_true, ne_eq, not_false_eq_true, not_true_eq_false, nI_add, h0, x1]
  refine ((px h hX).deep (by decide)).mono (fun v h1 hv => ?_)
  obtain ⟨rfl, hX1, hS1⟩ := hv
  have e0 : hg h1 0 = some (aI L xs) := (hS1.at (by unfold sx; omega)).trans h0
  have hM1 : MI h1 s := hM.keep hS1 (fun b q => by unfold sx at q; omega)
  obtain ⟨m1, m2, m3, hm⟩ := hM1.1
  simp (disch := first | omega | assumption) only [r_L_law_362, r_L_law_363, r_L_law_364, r_L_law_365, r_L_law_366, r_L_law_367, r_L_law_368, r_L_law_371, r_L_law_372, r_L_law_373, r_L_law_374, r_L_law_375, r_L_law_376, r_L_law_377, r_L_law_380, r_L_law_383, r_L_law_384_0, r_L_law_384_1, r_L_law_794, r_L_law_797, gF_0, gF_1, gF_2, gF_3, gF_4, gF_5, gF_6, gF_7, gF_8, gF_9, gF_10, gF_11, gF_12, gF_13, gF_14, gF_15, gF_16, gF_17, pF_0, pF_1, pF_2, pF_3, pF_4, pF_5, pF_6, pF_7, pF_8, pF_9, pF_10, pF_11, pF_12, pF_13, pF_14, pF_15, pF_16, pF_17, gI_of, gL_of, gR_of, sI_of, sL_of, gN_of, gO_of, cl_i, cl_r, cl_l, cl_n, pu_s, pu_n, rV_s, hg_same, hg_ne, if_true, if_false, true_and, and_true, ne_eq, not_false_eq_true, not_true_eq_false, nI_add, e0, hm]
  refine ((pm h1 hM1).deep (by decide)).mono (fun v h2 hv => ?_)
  obtain ⟨rfl, hM2, hS2⟩ := hv
  simp (disch := first | omega | assumption) only [r_L_law_362, r_L_law_363, r_L_law_364, r_L_law_365, r_L_law_366, r_L_law_367, r_L_law_368, r_L_law_371, r_L_law_372, r_L_law_373, r_L_law_374, r_L_law_375, r_L_law_376, r_L_law_377, r_L_law_380, r_L_law_383, r_L_law_384_0, r_L_law_384_1, r_L_law_794, r_L_law_797, gF_0, gF_1, gF_2, gF_3, gF_4, gF_5, gF_6, gF_7, gF_8, gF_9, gF_10, gF_11, gF_12, gF_13, gF_14, gF_15, gF_16, gF_17, pF_0, pF_1, pF_2, pF_3, pF_4, pF_5, pF_6, pF_7, pF_8, pF_9, pF_10, pF_11, pF_12, pF_13, pF_14, pF_15, pF_16, pF_17, gI_of, gL_of, gR_of, sI_of, sL_of, gN_of, gO_of, cl_i, cl_r, cl_l, cl_n, pu_s, pu_n, rV_s, hg_same, hg_ne, if_true, if_false, true_and, and_true, ne_eq, not_false_eq_true, not_true_eq_false, nI_add]
  exact ih h2 s' (H.step hG hX1 hS1 hM2 hS2)
theorem law_rows {L i : Nat} {xs : Nat → Int32} {h : j_H} {s : j_G} (hL : L ≤ 256) (hi : i + 4 ≤ L) (H : LI L xs h s) (hp : Pr mX10_rows mX11_rows [some (.int (xs (i + 1)))] [some (.int (xs (i + 1))), none, none] s) (ih : ∀ h2 s2, LI L xs h2 s2 → LW (i + 4) h2) : WP 1000 mL_law 385 [some (.ref 0), some (.ref 1), some (.ref 88), some (.int (nI i))] [] h LQ := by
  obtain ⟨r, s', hG, px, pm⟩ := hp
  obtain ⟨hX, hM, hg0, h0, ha, hb⟩ := id H
  have x1 := hX.1
  simp (disch := first | omega | assumption) only [r_L_law_385, r_L_law_386, r_L_law_387, r_L_law_388, r_L_law_389, r_L_law_390, r_L_law_391, r_L_law_394, r_L_law_395, r_L_law_396, r_L_law_397, r_L_law_398, r_L_law_399, r_L_law_400, r_L_law_403, r_L_law_406, r_L_law_407_0, r_L_law_407_1, r_L_law_794, r_L_law_797, gF_0, gF_1, gF_2, gF_3, gF_4, gF_5, gF_6, gF_7, gF_8, gF_9, gF_10, gF_11, gF_12, gF_13, gF_14, gF_15, gF_16, gF_17, pF_0, pF_1, pF_2, pF_3, pF_4, pF_5, pF_6, pF_7, pF_8, pF_9, pF_10, pF_11, pF_12, pF_13, pF_14, pF_15, pF_16, pF_17, gI_of, gL_of, gR_of, sI_of, sL_of, gN_of, gO_of, cl_i, cl_r, cl_l, cl_n, pu_s, pu_n, rV_s, hg_same, hg_ne, if_true, if_false, true_and, and_true, ne_eq, not_false_eq_true, not_true_eq_false, nI_add, h0, x1]
  refine ((px h hX).deep (by decide)).mono (fun v h1 hv => ?_)
  obtain ⟨rfl, hX1, hS1⟩ := hv
  have e0 : hg h1 0 = some (aI L xs) := (hS1.at (by unfold sx; omega)).trans h0
  have hM1 : MI h1 s := hM.keep hS1 (fun b q => by unfold sx at q; omega)
  obtain ⟨m1, m2, m3, hm⟩ := hM1.1
  simp (disch := first | omega | assumption) only [r_L_law_385, r_L_law_386, r_L_law_387, r_L_law_388, r_L_law_389, r_L_law_390, r_L_law_391, r_L_law_394, r_L_law_395, r_L_law_396, r_L_law_397, r_L_law_398, r_L_law_399, r_L_law_400, r_L_law_403, r_L_law_406, r_L_law_407_0, r_L_law_407_1, r_L_law_794, r_L_law_797, gF_0, gF_1, gF_2, gF_3, gF_4, gF_5, gF_6, gF_7, gF_8, gF_9, gF_10, gF_11, gF_12, gF_13, gF_14, gF_15, gF_16, gF_17, pF_0, pF_1, pF_2, pF_3, pF_4, pF_5, pF_6, pF_7, pF_8, pF_9, pF_10, pF_11, pF_12, pF_13, pF_14, pF_15, pF_16, pF_17, gI_of, gL_of, gR_of, sI_of, sL_of, gN_of, gO_of, cl_i, cl_r, cl_l, cl_n, pu_s, pu_n, rV_s, hg_same, hg_ne, if_true, if_false, true_and, and_true, ne_eq, not_false_eq_true, not_true_eq_false, nI_add, e0, hm]
  refine ((pm h1 hM1).deep (by decide)).mono (fun v h2 hv => ?_)
  obtain ⟨rfl, hM2, hS2⟩ := hv
  simp (disch := first | omega | assumption) only [r_L_law_385, r_L_law_386, r_L_law_387, r_L_law_388, r_L_law_389, r_L_law_390, r_L_law_391, r_L_law_394, r_L_law_395, r_L_law_396, r_L_law_397, r_L_law_398, r_L_law_399, r_L_law_400, r_L_law_403, r_L_law_406, r_L_law_407_0, r_L_law_407_1, r_L_law_794, r_L_law_797, gF_0, gF_1, gF_2, gF_3, gF_4, gF_5, gF_6, gF_7, gF_8, gF_9, gF_10, gF_11, gF_12, gF_13, gF_14, gF_15, gF_16, gF_17, pF_0, pF_1, pF_2, pF_3, pF_4, pF_5, pF_6, pF_7, pF_8, pF_9, pF_10, pF_11, pF_12, pF_13, pF_14, pF_15, pF_16, pF_17, gI_of, gL_of, gR_of, sI_of, sL_of, gN_of, gO_of, cl_i, cl_r, cl_l, cl_n, pu_s, pu_n, rV_s, hg_same, hg_ne, if_true, if_false, true_and, and_true, ne_eq, not_false_eq_true, not_true_eq_false, nI_add]
  exact ih h2 s' (H.step hG hX1 hS1 hM2 hS2)
theorem law_joined {L i : Nat} {xs : Nat → Int32} {h : j_H} {s : j_G} (hL : L ≤ 256) (hi : i + 4 ≤ L) (H : LI L xs h s) (hp : Pr mX10_joined mX11_joined [some (.int (xs (i + 1)))] [some (.int (xs (i + 1)))] s) (ih : ∀ h2 s2, LI L xs h2 s2 → LW (i + 4) h2) : WP 1000 mL_law 408 [some (.ref 0), some (.ref 1), some (.ref 88), some (.int (nI i))] [] h LQ := by
  obtain ⟨r, s', hG, px, pm⟩ := hp
  obtain ⟨hX, hM, hg0, h0, ha, hb⟩ := id H
  have x1 := hX.1
  simp (disch := first | omega | assumption) only [r_L_law_408, r_L_law_409, r_L_law_410, r_L_law_411, r_L_law_412, r_L_law_413, r_L_law_414, r_L_law_417, r_L_law_418, r_L_law_419, r_L_law_420, r_L_law_421, r_L_law_422, r_L_law_423, r_L_law_426, r_L_law_429, r_L_law_430_0, r_L_law_430_1, r_L_law_794, r_L_law_797, gF_0, gF_1, gF_2, gF_3, gF_4, gF_5, gF_6, gF_7, gF_8, gF_9, gF_10, gF_11, gF_12, gF_13, gF_14, gF_15, gF_16, gF_17, pF_0, pF_1, pF_2, pF_3, pF_4, pF_5, pF_6, pF_7, pF_8, pF_9, pF_10, pF_11, pF_12, pF_13, pF_14, pF_15, pF_16, pF_17, gI_of, gL_of, gR_of, sI_of, sL_of, gN_of, gO_of, cl_i, cl_r, cl_l, cl_n, pu_s, pu_n, rV_s, hg_same, hg_ne, if_true, if_false, true_and, and_true, ne_eq, not_false_eq_true, not_true_eq_false, nI_add, h0, x1]
  refine ((px h hX).deep (by decide)).mono (fun v h1 hv => ?_)
  obtain ⟨rfl, hX1, hS1⟩ := hv
  have e0 : hg h1 0 = some (aI L xs) := (hS1.at (by unfold sx; omega)).trans h0
  have hM1 : MI h1 s := hM.keep hS1 (fun b q => by unfold sx at q; omega)
  obtain ⟨m1, m2, m3, hm⟩ := hM1.1
  simp (disch := first | omega | assumption) only [r_L_law_408, r_L_law_409, r_L_law_410, r_L_law_411, r_L_law_412, r_L_law_413, r_L_law_414, r_L_law_417, r_L_law_418, r_L_law_419, r_L_law_420, r_L_law_421, r_L_law_422, r_L_law_423, r_L_law_426, r_L_law_429, r_L_law_430_0, r_L_law_430_1, r_L_law_794, r_L_law_797, gF_0, gF_1, gF_2, gF_3, gF_4, gF_5, gF_6, gF_7, gF_8, gF_9, gF_10, gF_11, gF_12, gF_13, gF_14, gF_15, gF_16, gF_17, pF_0, pF_1, pF_2, pF_3, pF_4, pF_5, pF_6, pF_7, pF_8, pF_9, pF_10, pF_11, pF_12, pF_13, pF_14, pF_15, pF_16, pF_17, gI_of, gL_of, gR_of, sI_of, sL_of, gN_of, gO_of, cl_i, cl_r, cl_l, cl_n, pu_s, pu_n, rV_s, hg_same, hg_ne, if_true, if_false, true_and, and_true, ne_eq, not_false_eq_true, not_true_eq_false, nI_add, e0, hm]
  refine ((pm h1 hM1).deep (by decide)).mono (fun v h2 hv => ?_)
  obtain ⟨rfl, hM2, hS2⟩ := hv
  simp (disch := first | omega | assumption) only [r_L_law_408, r_L_law_409, r_L_law_410, r_L_law_411, r_L_law_412, r_L_law_413, r_L_law_414, r_L_law_417, r_L_law_418, r_L_law_419, r_L_law_420, r_L_law_421, r_L_law_422, r_L_law_423, r_L_law_426, r_L_law_429, r_L_law_430_0, r_L_law_430_1, r_L_law_794, r_L_law_797, gF_0, gF_1, gF_2, gF_3, gF_4, gF_5, gF_6, gF_7, gF_8, gF_9, gF_10, gF_11, gF_12, gF_13, gF_14, gF_15, gF_16, gF_17, pF_0, pF_1, pF_2, pF_3, pF_4, pF_5, pF_6, pF_7, pF_8, pF_9, pF_10, pF_11, pF_12, pF_13, pF_14, pF_15, pF_16, pF_17, gI_of, gL_of, gR_of, sI_of, sL_of, gN_of, gO_of, cl_i, cl_r, cl_l, cl_n, pu_s, pu_n, rV_s, hg_same, hg_ne, if_true, if_false, true_and, and_true, ne_eq, not_false_eq_true, not_true_eq_false, nI_add]
  exact ih h2 s' (H.step hG hX1 hS1 hM2 hS2)
theorem law_order {L i : Nat} {xs : Nat → Int32} {h : j_H} {s : j_G} (hL : L ≤ 256) (hi : i + 4 ≤ L) (H : LI L xs h s) (hp : Pr mX10_order mX11_order [some (.int (xs (i + 1)))] [some (.int (xs (i + 1))), none] s) (ih : ∀ h2 s2, LI L xs h2 s2 → LW (i + 4) h2) : WP 1000 mL_law 431 [some (.ref 0), some (.ref 1), some (.ref 88), some (.int (nI i))] [] h LQ := by
  obtain ⟨r, s', hG, px, pm⟩ := hp
  obtain ⟨hX, hM, hg0, h0, ha, hb⟩ := id H
  have x1 := hX.1
  simp (disch := first | omega | assumption) only [r_L_law_431, r_L_law_432, r_L_law_433, r_L_law_434, r_L_law_435, r_L_law_436, r_L_law_437, r_L_law_440, r_L_law_441, r_L_law_442, r_L_law_443, r_L_law_444, r_L_law_445, r_L_law_446, r_L_law_449, r_L_law_452, r_L_law_453_0, r_L_law_453_1, r_L_law_794, r_L_law_797, gF_0, gF_1, gF_2, gF_3, gF_4, gF_5, gF_6, gF_7, gF_8, gF_9, gF_10, gF_11, gF_12, gF_13, gF_14, gF_15, gF_16, gF_17, pF_0, pF_1, pF_2, pF_3, pF_4, pF_5, pF_6, pF_7, pF_8, pF_9, pF_10, pF_11, pF_12, pF_13, pF_14, pF_15, pF_16, pF_17, gI_of, gL_of, gR_of, sI_of, sL_of, gN_of, gO_of, cl_i, cl_r, cl_l, cl_n, pu_s, pu_n, rV_s, hg_same, hg_ne, if_true, if_false, true_and, and_true, ne_eq, not_false_eq_true, not_true_eq_false, nI_add, h0, x1]
  refine ((px h hX).deep (by decide)).mono (fun v h1 hv => ?_)
  obtain ⟨rfl, hX1, hS1⟩ := hv
  have e0 : hg h1 0 = some (aI L xs) := (hS1.at (by unfold sx; omega)).trans h0
  have hM1 : MI h1 s := hM.keep hS1 (fun b q => by unfold sx at q; omega)
  obtain ⟨m1, m2, m3, hm⟩ := hM1.1
  simp (disch := first | omega | assumption) only [r_L_law_431, r_L_law_432, r_L_law_433, r_L_law_434, r_L_law_435, r_L_law_436, r_L_law_437, r_L_law_440, r_L_law_441, r_L_law_442, r_L_law_443, r_L_law_444, r_L_law_445, r_L_law_446, r_L_law_449, r_L_law_452, r_L_law_453_0, r_L_law_453_1, r_L_law_794, r_L_law_797, gF_0, gF_1, gF_2, gF_3, gF_4, gF_5, gF_6, gF_7, gF_8, gF_9, gF_10, gF_11, gF_12, gF_13, gF_14, gF_15, gF_16, gF_17, pF_0, pF_1, pF_2, pF_3, pF_4, pF_5, pF_6, pF_7, pF_8, pF_9, pF_10, pF_11, pF_12, pF_13, pF_14, pF_15, pF_16, pF_17, gI_of, gL_of, gR_of, sI_of, sL_of, gN_of, gO_of, cl_i, cl_r, cl_l, cl_n, pu_s, pu_n, rV_s, hg_same, hg_ne, if_true, if_false, true_and, and_true, ne_eq, not_false_eq_true, not_true_eq_false, nI_add, e0, hm]
  refine ((pm h1 hM1).deep (by decide)).mono (fun v h2 hv => ?_)
  obtain ⟨rfl, hM2, hS2⟩ := hv
  simp (disch := first | omega | assumption) only [r_L_law_431, r_L_law_432, r_L_law_433, r_L_law_434, r_L_law_435, r_L_law_436, r_L_law_437, r_L_law_440, r_L_law_441, r_L_law_442, r_L_law_443, r_L_law_444, r_L_law_445, r_L_law_446, r_L_law_449, r_L_law_452, r_L_law_453_0, r_L_law_453_1, r_L_law_794, r_L_law_797, gF_0, gF_1, gF_2, gF_3, gF_4, gF_5, gF_6, gF_7, gF_8, gF_9, gF_10, gF_11, gF_12, gF_13, gF_14, gF_15, gF_16, gF_17, pF_0, pF_1, pF_2, pF_3, pF_4, pF_5, pF_6, pF_7, pF_8, pF_9, pF_10, pF_11, pF_12, pF_13, pF_14, pF_15, pF_16, pF_17, gI_of, gL_of, gR_of, sI_of, sL_of, gN_of, gO_of, cl_i, cl_r, cl_l, cl_n, pu_s, pu_n, rV_s, hg_same, hg_ne, if_true, if_false, true_and, and_true, ne_eq, not_false_eq_true, not_true_eq_false, nI_add]
  exact ih h2 s' (H.step hG hX1 hS1 hM2 hS2)
theorem law_change {L i : Nat} {xs : Nat → Int32} {h : j_H} {s : j_G} (hL : L ≤ 256) (hi : i + 4 ≤ L) (H : LI L xs h s) (hp : Pr mX10_change mX11_change [some (.int (xs (i + 1))), some (.int (xs (i + 2)))] [some (.int (xs (i + 1))), some (.int (xs (i + 2))), none] s) (ih : ∀ h2 s2, LI L xs h2 s2 → LW (i + 4) h2) : WP 1000 mL_law 454 [some (.ref 0), some (.ref 1), some (.ref 88), some (.int (nI i))] [] h LQ := by
  obtain ⟨r, s', hG, px, pm⟩ := hp
  obtain ⟨hX, hM, hg0, h0, ha, hb⟩ := id H
  have x1 := hX.1
  simp (disch := first | omega | assumption) only [r_L_law_454, r_L_law_455, r_L_law_456, r_L_law_457, r_L_law_458, r_L_law_459, r_L_law_460, r_L_law_461, r_L_law_462, r_L_law_463, r_L_law_464, r_L_law_465, r_L_law_468, r_L_law_469, r_L_law_470, r_L_law_471, r_L_law_472, r_L_law_473, r_L_law_474, r_L_law_475, r_L_law_476, r_L_law_477, r_L_law_478, r_L_law_479, r_L_law_482, r_L_law_485, r_L_law_486_0, r_L_law_486_1, r_L_law_794, r_L_law_797, gF_0, gF_1, gF_2, gF_3, gF_4, gF_5, gF_6, gF_7, gF_8, gF_9, gF_10, gF_11, gF_12, gF_13, gF_14, gF_15, gF_16, gF_17, pF_0, pF_1, pF_2, pF_3, pF_4, pF_5, pF_6, pF_7, pF_8, pF_9, pF_10, pF_11, pF_12, pF_13, pF_14, pF_15, pF_16, pF_17, gI_of, gL_of, gR_of, sI_of, sL_of, gN_of, gO_of, cl_i, cl_r, cl_l, cl_n, pu_s, pu_n, rV_s, hg_same, hg_ne, if_true, if_false, true_and, and_true, ne_eq, not_false_eq_true, not_true_eq_false, nI_add, h0, x1]
  refine ((px h hX).deep (by decide)).mono (fun v h1 hv => ?_)
  obtain ⟨rfl, hX1, hS1⟩ := hv
  have e0 : hg h1 0 = some (aI L xs) := (hS1.at (by unfold sx; omega)).trans h0
  have hM1 : MI h1 s := hM.keep hS1 (fun b q => by unfold sx at q; omega)
  obtain ⟨m1, m2, m3, hm⟩ := hM1.1
  simp (disch := first | omega | assumption) only [r_L_law_454, r_L_law_455, r_L_law_456, r_L_law_457, r_L_law_458, r_L_law_459, r_L_law_460, r_L_law_461, r_L_law_462, r_L_law_463, r_L_law_464, r_L_law_465, r_L_law_468, r_L_law_469, r_L_law_470, r_L_law_471, r_L_law_472, r_L_law_473, r_L_law_474, r_L_law_475, r_L_law_476, r_L_law_477, r_L_law_478, r_L_law_479, r_L_law_482, r_L_law_485, r_L_law_486_0, r_L_law_486_1, r_L_law_794, r_L_law_797, gF_0, gF_1, gF_2, gF_3, gF_4, gF_5, gF_6, gF_7, gF_8, gF_9, gF_10, gF_11, gF_12, gF_13, gF_14, gF_15, gF_16, gF_17, pF_0, pF_1, pF_2, pF_3, pF_4, pF_5, pF_6, pF_7, pF_8, pF_9, pF_10, pF_11, pF_12, pF_13, pF_14, pF_15, pF_16, pF_17, gI_of, gL_of, gR_of, sI_of, sL_of, gN_of, gO_of, cl_i, cl_r, cl_l, cl_n, pu_s, pu_n, rV_s, hg_same, hg_ne, if_true, if_false, true_and, and_true, ne_eq, not_false_eq_true, not_true_eq_false, nI_add, e0, hm]
  refine ((pm h1 hM1).deep (by decide)).mono (fun v h2 hv => ?_)
  obtain ⟨rfl, hM2, hS2⟩ := hv
  simp (disch := first | omega | assumption) only [r_L_law_454, r_L_law_455, r_L_law_456, r_L_law_457, r_L_law_458, r_L_law_459, r_L_law_460, r_L_law_461, r_L_law_462, r_L_law_463, r_L_law_464, r_L_law_465, r_L_law_468, r_L_law_469, r_L_law_470, r_L_law_471, r_L_law_472, r_L_law_473, r_L_law_474, r_L_law_475, r_L_law_476, r_L_law_477, r_L_law_478, r_L_law_479, r_L_law_482, r_L_law_485, r_L_law_486_0, r_L_law_486_1, r_L_law_794, r_L_law_797, gF_0, gF_1, gF_2, gF_3, gF_4, gF_5, gF_6, gF_7, gF_8, gF_9, gF_10, gF_11, gF_12, gF_13, gF_14, gF_15, gF_16, gF_17, pF_0, pF_1, pF_2, pF_3, pF_4, pF_5, pF_6, pF_7, pF_8, pF_9, pF_10, pF_11, pF_12, pF_13, pF_14, pF_15, pF_16, pF_17, gI_of, gL_of, gR_of, sI_of, sL_of, gN_of, gO_of, cl_i, cl_r, cl_l, cl_n, pu_s, pu_n, rV_s, hg_same, hg_ne, if_true, if_false, true_and, and_true, ne_eq, not_false_eq_true, not_true_eq_false, nI_add]
  exact ih h2 s' (H.step hG hX1 hS1 hM2 hS2)
theorem law_node {L i : Nat} {xs : Nat → Int32} {h : j_H} {s : j_G} (hL : L ≤ 256) (hi : i + 4 ≤ L) (H : LI L xs h s) (hp : Pr mX10_node mX11_node [some (.int (xs (i + 1))), some (.int (xs (i + 2))), none] [some (.int (xs (i + 1))), some (.int (xs (i + 2))), none] s) (ih : ∀ h2 s2, LI L xs h2 s2 → LW (i + 4) h2) : WP 1000 mL_law 487 [some (.ref 0), some (.ref 1), some (.ref 88), some (.int (nI i))] [] h LQ := by
  obtain ⟨r, s', hG, px, pm⟩ := hp
  obtain ⟨hX, hM, hg0, h0, ha, hb⟩ := id H
  have x1 := hX.1
  simp (disch := first | omega | assumption) only [r_L_law_487, r_L_law_488, r_L_law_489, r_L_law_490, r_L_law_491, r_L_law_492, r_L_law_493, r_L_law_494, r_L_law_495, r_L_law_496, r_L_law_497, r_L_law_498, r_L_law_501, r_L_law_502, r_L_law_503, r_L_law_504, r_L_law_505, r_L_law_506, r_L_law_507, r_L_law_508, r_L_law_509, r_L_law_510, r_L_law_511, r_L_law_512, r_L_law_515, r_L_law_518, r_L_law_519_0, r_L_law_519_1, r_L_law_794, r_L_law_797, gF_0, gF_1, gF_2, gF_3, gF_4, gF_5, gF_6, gF_7, gF_8, gF_9, gF_10, gF_11, gF_12, gF_13, gF_14, gF_15, gF_16, gF_17, pF_0, pF_1, pF_2, pF_3, pF_4, pF_5, pF_6, pF_7, pF_8, pF_9, pF_10, pF_11, pF_12, pF_13, pF_14, pF_15, pF_16, pF_17, gI_of, gL_of, gR_of, sI_of, sL_of, gN_of, gO_of, cl_i, cl_r, cl_l, cl_n, pu_s, pu_n, rV_s, hg_same, hg_ne, if_true, if_false, true_and, and_true, ne_eq, not_false_eq_true, not_true_eq_false, nI_add, h0, x1]
  refine ((px h hX).deep (by decide)).mono (fun v h1 hv => ?_)
  obtain ⟨rfl, hX1, hS1⟩ := hv
  have e0 : hg h1 0 = some (aI L xs) := (hS1.at (by unfold sx; omega)).trans h0
  have hM1 : MI h1 s := hM.keep hS1 (fun b q => by unfold sx at q; omega)
  obtain ⟨m1, m2, m3, hm⟩ := hM1.1
  simp (disch := first | omega | assumption) only [r_L_law_487, r_L_law_488, r_L_law_489, r_L_law_490, r_L_law_491, r_L_law_492, r_L_law_493, r_L_law_494, r_L_law_495, r_L_law_496, r_L_law_497, r_L_law_498, r_L_law_501, r_L_law_502, r_L_law_503, r_L_law_504, r_L_law_505, r_L_law_506, r_L_law_507, r_L_law_508, r_L_law_509, r_L_law_510, r_L_law_511, r_L_law_512, r_L_law_515, r_L_law_518, r_L_law_519_0, r_L_law_519_1, r_L_law_794, r_L_law_797, gF_0, gF_1, gF_2, gF_3, gF_4, gF_5, gF_6, gF_7, gF_8, gF_9, gF_10, gF_11, gF_12, gF_13, gF_14, gF_15, gF_16, gF_17, pF_0, pF_1, pF_2, pF_3, pF_4, pF_5, pF_6, pF_7, pF_8, pF_9, pF_10, pF_11, pF_12, pF_13, pF_14, pF_15, pF_16, pF_17, gI_of, gL_of, gR_of, sI_of, sL_of, gN_of, gO_of, cl_i, cl_r, cl_l, cl_n, pu_s, pu_n, rV_s, hg_same, hg_ne, if_true, if_false, true_and, and_true, ne_eq, not_false_eq_true, not_true_eq_false, nI_add, e0, hm]
  refine ((pm h1 hM1).deep (by decide)).mono (fun v h2 hv => ?_)
  obtain ⟨rfl, hM2, hS2⟩ := hv
  simp (disch := first | omega | assumption) only [r_L_law_487, r_L_law_488, r_L_law_489, r_L_law_490, r_L_law_491, r_L_law_492, r_L_law_493, r_L_law_494, r_L_law_495, r_L_law_496, r_L_law_497, r_L_law_498, r_L_law_501, r_L_law_502, r_L_law_503, r_L_law_504, r_L_law_505, r_L_law_506, r_L_law_507, r_L_law_508, r_L_law_509, r_L_law_510, r_L_law_511, r_L_law_512, r_L_law_515, r_L_law_518, r_L_law_519_0, r_L_law_519_1, r_L_law_794, r_L_law_797, gF_0, gF_1, gF_2, gF_3, gF_4, gF_5, gF_6, gF_7, gF_8, gF_9, gF_10, gF_11, gF_12, gF_13, gF_14, gF_15, gF_16, gF_17, pF_0, pF_1, pF_2, pF_3, pF_4, pF_5, pF_6, pF_7, pF_8, pF_9, pF_10, pF_11, pF_12, pF_13, pF_14, pF_15, pF_16, pF_17, gI_of, gL_of, gR_of, sI_of, sL_of, gN_of, gO_of, cl_i, cl_r, cl_l, cl_n, pu_s, pu_n, rV_s, hg_same, hg_ne, if_true, if_false, true_and, and_true, ne_eq, not_false_eq_true, not_true_eq_false, nI_add]
  exact ih h2 s' (H.step hG hX1 hS1 hM2 hS2)
theorem law_going {L i : Nat} {xs : Nat → Int32} {h : j_H} {s : j_G} (hL : L ≤ 256) (hi : i + 4 ≤ L) (H : LI L xs h s) (hp : Pr mX10_going mX11_going [some (.int (xs (i + 1)))] [some (.int (xs (i + 1)))] s) (ih : ∀ h2 s2, LI L xs h2 s2 → LW (i + 4) h2) : WP 1000 mL_law 520 [some (.ref 0), some (.ref 1), some (.ref 88), some (.int (nI i))] [] h LQ := by
  obtain ⟨r, s', hG, px, pm⟩ := hp
  obtain ⟨hX, hM, hg0, h0, ha, hb⟩ := id H
  have x1 := hX.1
  simp (disch := first | omega | assumption) only [r_L_law_520, r_L_law_521, r_L_law_522, r_L_law_523, r_L_law_524, r_L_law_525, r_L_law_526, r_L_law_529, r_L_law_530, r_L_law_531, r_L_law_532, r_L_law_533, r_L_law_534, r_L_law_535, r_L_law_538, r_L_law_541, r_L_law_542_0, r_L_law_542_1, r_L_law_794, r_L_law_797, gF_0, gF_1, gF_2, gF_3, gF_4, gF_5, gF_6, gF_7, gF_8, gF_9, gF_10, gF_11, gF_12, gF_13, gF_14, gF_15, gF_16, gF_17, pF_0, pF_1, pF_2, pF_3, pF_4, pF_5, pF_6, pF_7, pF_8, pF_9, pF_10, pF_11, pF_12, pF_13, pF_14, pF_15, pF_16, pF_17, gI_of, gL_of, gR_of, sI_of, sL_of, gN_of, gO_of, cl_i, cl_r, cl_l, cl_n, pu_s, pu_n, rV_s, hg_same, hg_ne, if_true, if_false, true_and, and_true, ne_eq, not_false_eq_true, not_true_eq_false, nI_add, h0, x1]
  refine ((px h hX).deep (by decide)).mono (fun v h1 hv => ?_)
  obtain ⟨rfl, hX1, hS1⟩ := hv
  have e0 : hg h1 0 = some (aI L xs) := (hS1.at (by unfold sx; omega)).trans h0
  have hM1 : MI h1 s := hM.keep hS1 (fun b q => by unfold sx at q; omega)
  obtain ⟨m1, m2, m3, hm⟩ := hM1.1
  simp (disch := first | omega | assumption) only [r_L_law_520, r_L_law_521, r_L_law_522, r_L_law_523, r_L_law_524, r_L_law_525, r_L_law_526, r_L_law_529, r_L_law_530, r_L_law_531, r_L_law_532, r_L_law_533, r_L_law_534, r_L_law_535, r_L_law_538, r_L_law_541, r_L_law_542_0, r_L_law_542_1, r_L_law_794, r_L_law_797, gF_0, gF_1, gF_2, gF_3, gF_4, gF_5, gF_6, gF_7, gF_8, gF_9, gF_10, gF_11, gF_12, gF_13, gF_14, gF_15, gF_16, gF_17, pF_0, pF_1, pF_2, pF_3, pF_4, pF_5, pF_6, pF_7, pF_8, pF_9, pF_10, pF_11, pF_12, pF_13, pF_14, pF_15, pF_16, pF_17, gI_of, gL_of, gR_of, sI_of, sL_of, gN_of, gO_of, cl_i, cl_r, cl_l, cl_n, pu_s, pu_n, rV_s, hg_same, hg_ne, if_true, if_false, true_and, and_true, ne_eq, not_false_eq_true, not_true_eq_false, nI_add, e0, hm]
  refine ((pm h1 hM1).deep (by decide)).mono (fun v h2 hv => ?_)
  obtain ⟨rfl, hM2, hS2⟩ := hv
  simp (disch := first | omega | assumption) only [r_L_law_520, r_L_law_521, r_L_law_522, r_L_law_523, r_L_law_524, r_L_law_525, r_L_law_526, r_L_law_529, r_L_law_530, r_L_law_531, r_L_law_532, r_L_law_533, r_L_law_534, r_L_law_535, r_L_law_538, r_L_law_541, r_L_law_542_0, r_L_law_542_1, r_L_law_794, r_L_law_797, gF_0, gF_1, gF_2, gF_3, gF_4, gF_5, gF_6, gF_7, gF_8, gF_9, gF_10, gF_11, gF_12, gF_13, gF_14, gF_15, gF_16, gF_17, pF_0, pF_1, pF_2, pF_3, pF_4, pF_5, pF_6, pF_7, pF_8, pF_9, pF_10, pF_11, pF_12, pF_13, pF_14, pF_15, pF_16, pF_17, gI_of, gL_of, gR_of, sI_of, sL_of, gN_of, gO_of, cl_i, cl_r, cl_l, cl_n, pu_s, pu_n, rV_s, hg_same, hg_ne, if_true, if_false, true_and, and_true, ne_eq, not_false_eq_true, not_true_eq_false, nI_add]
  exact ih h2 s' (H.step hG hX1 hS1 hM2 hS2)
theorem law_prime {L i : Nat} {xs : Nat → Int32} {h : j_H} {s : j_G} (hL : L ≤ 256) (hi : i + 4 ≤ L) (H : LI L xs h s) (hp : Pr mX10_prime mX11_prime [some (.int (xs (i + 1))), none] [some (.int (xs (i + 1))), none] s) (ih : ∀ h2 s2, LI L xs h2 s2 → LW (i + 4) h2) : WP 1000 mL_law 543 [some (.ref 0), some (.ref 1), some (.ref 88), some (.int (nI i))] [] h LQ := by
  obtain ⟨r, s', hG, px, pm⟩ := hp
  obtain ⟨hX, hM, hg0, h0, ha, hb⟩ := id H
  have x1 := hX.1
  simp (disch := first | omega | assumption) only [r_L_law_543, r_L_law_544, r_L_law_545, r_L_law_546, r_L_law_547, r_L_law_548, r_L_law_549, r_L_law_552, r_L_law_553, r_L_law_554, r_L_law_555, r_L_law_556, r_L_law_557, r_L_law_558, r_L_law_561, r_L_law_564, r_L_law_565_0, r_L_law_565_1, r_L_law_794, r_L_law_797, gF_0, gF_1, gF_2, gF_3, gF_4, gF_5, gF_6, gF_7, gF_8, gF_9, gF_10, gF_11, gF_12, gF_13, gF_14, gF_15, gF_16, gF_17, pF_0, pF_1, pF_2, pF_3, pF_4, pF_5, pF_6, pF_7, pF_8, pF_9, pF_10, pF_11, pF_12, pF_13, pF_14, pF_15, pF_16, pF_17, gI_of, gL_of, gR_of, sI_of, sL_of, gN_of, gO_of, cl_i, cl_r, cl_l, cl_n, pu_s, pu_n, rV_s, hg_same, hg_ne, if_true, if_false, true_and, and_true, ne_eq, not_false_eq_true, not_true_eq_false, nI_add, h0, x1]
  refine ((px h hX).deep (by decide)).mono (fun v h1 hv => ?_)
  obtain ⟨rfl, hX1, hS1⟩ := hv
  have e0 : hg h1 0 = some (aI L xs) := (hS1.at (by unfold sx; omega)).trans h0
  have hM1 : MI h1 s := hM.keep hS1 (fun b q => by unfold sx at q; omega)
  obtain ⟨m1, m2, m3, hm⟩ := hM1.1
  simp (disch := first | omega | assumption) only [r_L_law_543, r_L_law_544, r_L_law_545, r_L_law_546, r_L_law_547, r_L_law_548, r_L_law_549, r_L_law_552, r_L_law_553, r_L_law_554, r_L_law_555, r_L_law_556, r_L_law_557, r_L_law_558, r_L_law_561, r_L_law_564, r_L_law_565_0, r_L_law_565_1, r_L_law_794, r_L_law_797, gF_0, gF_1, gF_2, gF_3, gF_4, gF_5, gF_6, gF_7, gF_8, gF_9, gF_10, gF_11, gF_12, gF_13, gF_14, gF_15, gF_16, gF_17, pF_0, pF_1, pF_2, pF_3, pF_4, pF_5, pF_6, pF_7, pF_8, pF_9, pF_10, pF_11, pF_12, pF_13, pF_14, pF_15, pF_16, pF_17, gI_of, gL_of, gR_of, sI_of, sL_of, gN_of, gO_of, cl_i, cl_r, cl_l, cl_n, pu_s, pu_n, rV_s, hg_same, hg_ne, if_true, if_false, true_and, and_true, ne_eq, not_false_eq_true, not_true_eq_false, nI_add, e0, hm]
  refine ((pm h1 hM1).deep (by decide)).mono (fun v h2 hv => ?_)
  obtain ⟨rfl, hM2, hS2⟩ := hv
  simp (disch := first | omega | assumption) only [r_L_law_543, r_L_law_544, r_L_law_545, r_L_law_546, r_L_law_547, r_L_law_548, r_L_law_549, r_L_law_552, r_L_law_553, r_L_law_554, r_L_law_555, r_L_law_556, r_L_law_557, r_L_law_558, r_L_law_561, r_L_law_564, r_L_law_565_0, r_L_law_565_1, r_L_law_794, r_L_law_797, gF_0, gF_1, gF_2, gF_3, gF_4, gF_5, gF_6, gF_7, gF_8, gF_9, gF_10, gF_11, gF_12, gF_13, gF_14, gF_15, gF_16, gF_17, pF_0, pF_1, pF_2, pF_3, pF_4, pF_5, pF_6, pF_7, pF_8, pF_9, pF_10, pF_11, pF_12, pF_13, pF_14, pF_15, pF_16, pF_17, gI_of, gL_of, gR_of, sI_of, sL_of, gN_of, gO_of, cl_i, cl_r, cl_l, cl_n, pu_s, pu_n, rV_s, hg_same, hg_ne, if_true, if_false, true_and, and_true, ne_eq, not_false_eq_true, not_true_eq_false, nI_add]
  exact ih h2 s' (H.step hG hX1 hS1 hM2 hS2)
theorem law_stop {L i : Nat} {xs : Nat → Int32} {h : j_H} {s : j_G} (hL : L ≤ 256) (hi : i + 4 ≤ L) (H : LI L xs h s) (hp : Pr mX10_stop mX11_stop [] [] s) (ih : ∀ h2 s2, LI L xs h2 s2 → LW (i + 4) h2) : WP 1000 mL_law 566 [some (.ref 0), some (.ref 1), some (.ref 88), some (.int (nI i))] [] h LQ := by
  obtain ⟨r, s', hG, px, pm⟩ := hp
  obtain ⟨hX, hM, hg0, h0, ha, hb⟩ := id H
  have x1 := hX.1
  simp (disch := first | omega | assumption) only [r_L_law_566, r_L_law_567, r_L_law_570, r_L_law_571, r_L_law_574, r_L_law_577, r_L_law_578_0, r_L_law_578_1, r_L_law_794, r_L_law_797, gF_0, gF_1, gF_2, gF_3, gF_4, gF_5, gF_6, gF_7, gF_8, gF_9, gF_10, gF_11, gF_12, gF_13, gF_14, gF_15, gF_16, gF_17, pF_0, pF_1, pF_2, pF_3, pF_4, pF_5, pF_6, pF_7, pF_8, pF_9, pF_10, pF_11, pF_12, pF_13, pF_14, pF_15, pF_16, pF_17, gI_of, gL_of, gR_of, sI_of, sL_of, gN_of, gO_of, cl_i, cl_r, cl_l, cl_n, pu_s, pu_n, rV_s, hg_same, hg_ne, if_true, if_false, true_and, and_true, ne_eq, not_false_eq_true, not_true_eq_false, nI_add, h0, x1]
  refine ((px h hX).deep (by decide)).mono (fun v h1 hv => ?_)
  obtain ⟨rfl, hX1, hS1⟩ := hv
  have e0 : hg h1 0 = some (aI L xs) := (hS1.at (by unfold sx; omega)).trans h0
  have hM1 : MI h1 s := hM.keep hS1 (fun b q => by unfold sx at q; omega)
  obtain ⟨m1, m2, m3, hm⟩ := hM1.1
  simp (disch := first | omega | assumption) only [r_L_law_566, r_L_law_567, r_L_law_570, r_L_law_571, r_L_law_574, r_L_law_577, r_L_law_578_0, r_L_law_578_1, r_L_law_794, r_L_law_797, gF_0, gF_1, gF_2, gF_3, gF_4, gF_5, gF_6, gF_7, gF_8, gF_9, gF_10, gF_11, gF_12, gF_13, gF_14, gF_15, gF_16, gF_17, pF_0, pF_1, pF_2, pF_3, pF_4, pF_5, pF_6, pF_7, pF_8, pF_9, pF_10, pF_11, pF_12, pF_13, pF_14, pF_15, pF_16, pF_17, gI_of, gL_of, gR_of, sI_of, sL_of, gN_of, gO_of, cl_i, cl_r, cl_l, cl_n, pu_s, pu_n, rV_s, hg_same, hg_ne, if_true, if_false, true_and, and_true, ne_eq, not_false_eq_true, not_true_eq_false, nI_add, e0, hm]
  refine ((pm h1 hM1).deep (by decide)).mono (fun v h2 hv => ?_)
  obtain ⟨rfl, hM2, hS2⟩ := hv
  simp (disch := first | omega | assumption) only [r_L_law_566, r_L_law_567, r_L_law_570, r_L_law_571, r_L_law_574, r_L_law_577, r_L_law_578_0, r_L_law_578_1, r_L_law_794, r_L_law_797, gF_0, gF_1, gF_2, gF_3, gF_4, gF_5, gF_6, gF_7, gF_8, gF_9, gF_10, gF_11, gF_12, gF_13, gF_14, gF_15, gF_16, gF_17, pF_0, pF_1, pF_2, pF_3, pF_4, pF_5, pF_6, pF_7, pF_8, pF_9, pF_10, pF_11, pF_12, pF_13, pF_14, pF_15, pF_16, pF_17, gI_of, gL_of, gR_of, sI_of, sL_of, gN_of, gO_of, cl_i, cl_r, cl_l, cl_n, pu_s, pu_n, rV_s, hg_same, hg_ne, if_true, if_false, true_and, and_true, ne_eq, not_false_eq_true, not_true_eq_false, nI_add]
  exact ih h2 s' (H.step hG hX1 hS1 hM2 hS2)
theorem law_factor {L i : Nat} {xs : Nat → Int32} {h : j_H} {s : j_G} (hL : L ≤ 256) (hi : i + 4 ≤ L) (H : LI L xs h s) (hp : Pr mX10_factor mX11_factor [some (.int (xs (i + 1))), some (.int (xs (i + 2))), some (.int (xs (i + 3))), none, none] [some (.int (xs (i + 1))), some (.int (xs (i + 2))), some (.int (xs (i + 3))), none, none] s) (ih : ∀ h2 s2, LI L xs h2 s2 → LW (i + 4) h2) : WP 1000 mL_law 579 [some (.ref 0), some (.ref 1), some (.ref 88), some (.int (nI i))] [] h LQ := by
  obtain ⟨r, s', hG, px, pm⟩ := hp
  obtain ⟨hX, hM, hg0, h0, ha, hb⟩ := id H
  have x1 := hX.1
  simp (disch := first | omega | assumption) only [r_L_law_579, r_L_law_580, r_L_law_581, r_L_law_582, r_L_law_583, r_L_law_584, r_L_law_585, r_L_law_586, r_L_law_587, r_L_law_588, r_L_law_589, r_L_law_590, r_L_law_591, r_L_law_592, r_L_law_593, r_L_law_594, r_L_law_595, r_L_law_598, r_L_law_599, r_L_law_600, r_L_law_601, r_L_law_602, r_L_law_603, r_L_law_604, r_L_law_605, r_L_law_606, r_L_law_607, r_L_law_608, r_L_law_609, r_L_law_610, r_L_law_611, r_L_law_612, r_L_law_613, r_L_law_614, r_L_law_617, r_L_law_620, r_L_law_621_0, r_L_law_621_1, r_L_law_794, r_L_law_797, gF_0, gF_1, gF_2, gF_3, gF_4, gF_5, gF_6, gF_7, gF_8, gF_9, gF_10, gF_11, gF_12, gF_13, gF_14, gF_15, gF_16, gF_17, pF_0, pF_1, pF_2, pF_3, pF_4, pF_5, pF_6, pF_7, pF_8, pF_9, pF_10, pF_11, pF_12, pF_13, pF_14, pF_15, pF_16, pF_17, gI_of, gL_of, gR_of, sI_of, sL_of, gN_of, gO_of, cl_i, cl_r, cl_l, cl_n, pu_s, pu_n, rV_s, hg_same, hg_ne, if_true, if_false, true_and, and_true, ne_eq, not_false_eq_true, not_true_eq_false, nI_add, h0, x1]
  refine ((px h hX).deep (by decide)).mono (fun v h1 hv => ?_)
  obtain ⟨rfl, hX1, hS1⟩ := hv
  have e0 : hg h1 0 = some (aI L xs) := (hS1.at (by unfold sx; omega)).trans h0
  have hM1 : MI h1 s := hM.keep hS1 (fun b q => by unfold sx at q; omega)
  obtain ⟨m1, m2, m3, hm⟩ := hM1.1
  simp (disch := first | omega | assumption) only [r_L_law_579, r_L_law_580, r_L_law_581, r_L_law_582, r_L_law_583, r_L_law_584, r_L_law_585, r_L_law_586, r_L_law_587, r_L_law_588, r_L_law_589, r_L_law_590, r_L_law_591, r_L_law_592, r_L_law_593, r_L_law_594, r_L_law_595, r_L_law_598, r_L_law_599, r_L_law_600, r_L_law_601, r_L_law_602, r_L_law_603, r_L_law_604, r_L_law_605, r_L_law_606, r_L_law_607, r_L_law_608, r_L_law_609, r_L_law_610, r_L_law_611, r_L_law_612, r_L_law_613, r_L_law_614, r_L_law_617, r_L_law_620, r_L_law_621_0, r_L_law_621_1, r_L_law_794, r_L_law_797, gF_0, gF_1, gF_2, gF_3, gF_4, gF_5, gF_6, gF_7, gF_8, gF_9, gF_10, gF_11, gF_12, gF_13, gF_14, gF_15, gF_16, gF_17, pF_0, pF_1, pF_2, pF_3, pF_4, pF_5, pF_6, pF_7, pF_8, pF_9, pF_10, pF_11, pF_12, pF_13, pF_14, pF_15, pF_16, pF_17, gI_of, gL_of, gR_of, sI_of, sL_of, gN_of, gO_of, cl_i, cl_r, cl_l, cl_n, pu_s, pu_n, rV_s, hg_same, hg_ne, if_true, if_false, true_and, and_true, ne_eq, not_false_eq_true, not_true_eq_false, nI_add, e0, hm]
  refine ((pm h1 hM1).deep (by decide)).mono (fun v h2 hv => ?_)
  obtain ⟨rfl, hM2, hS2⟩ := hv
  simp (disch := first | omega | assumption) only [r_L_law_579, r_L_law_580, r_L_law_581, r_L_law_582, r_L_law_583, r_L_law_584, r_L_law_585, r_L_law_586, r_L_law_587, r_L_law_588, r_L_law_589, r_L_law_590, r_L_law_591, r_L_law_592, r_L_law_593, r_L_law_594, r_L_law_595, r_L_law_598, r_L_law_599, r_L_law_600, r_L_law_601, r_L_law_602, r_L_law_603, r_L_law_604, r_L_law_605, r_L_law_606, r_L_law_607, r_L_law_608, r_L_law_609, r_L_law_610, r_L_law_611, r_L_law_612, r_L_law_613, r_L_law_614, r_L_law_617, r_L_law_620, r_L_law_621_0, r_L_law_621_1, r_L_law_794, r_L_law_797, gF_0, gF_1, gF_2, gF_3, gF_4, gF_5, gF_6, gF_7, gF_8, gF_9, gF_10, gF_11, gF_12, gF_13, gF_14, gF_15, gF_16, gF_17, pF_0, pF_1, pF_2, pF_3, pF_4, pF_5, pF_6, pF_7, pF_8, pF_9, pF_10, pF_11, pF_12, pF_13, pF_14, pF_15, pF_16, pF_17, gI_of, gL_of, gR_of, sI_of, sL_of, gN_of, gO_of, cl_i, cl_r, cl_l, cl_n, pu_s, pu_n, rV_s, hg_same, hg_ne, if_true, if_false, true_and, and_true, ne_eq, not_false_eq_true, not_true_eq_false, nI_add]
  exact ih h2 s' (H.step hG hX1 hS1 hM2 hS2)
theorem law_full {L i : Nat} {xs : Nat → Int32} {h : j_H} {s : j_G} (hL : L ≤ 256) (hi : i + 4 ≤ L) (H : LI L xs h s) (hp : Pr mX10_full mX11_full [] [none, none, none] s) (ih : ∀ h2 s2, LI L xs h2 s2 → LW (i + 4) h2) : WP 1000 mL_law 622 [some (.ref 0), some (.ref 1), some (.ref 88), some (.int (nI i))] [] h LQ := by
  obtain ⟨r, s', hG, px, pm⟩ := hp
  obtain ⟨hX, hM, hg0, h0, ha, hb⟩ := id H
  have x1 := hX.1
  simp (disch := first | omega | assumption) only [r_L_law_622, r_L_law_623, r_L_law_626, r_L_law_627, r_L_law_630, r_L_law_633, r_L_law_634_0, r_L_law_634_1, r_L_law_794, r_L_law_797, gF_0, gF_1, gF_2, gF_3, gF_4, gF_5, gF_6, gF_7, gF_8, gF_9, gF_10, gF_11, gF_12, gF_13, gF_14, gF_15, gF_16, gF_17, pF_0, pF_1, pF_2, pF_3, pF_4, pF_5, pF_6, pF_7, pF_8, pF_9, pF_10, pF_11, pF_12, pF_13, pF_14, pF_15, pF_16, pF_17, gI_of, gL_of, gR_of, sI_of, sL_of, gN_of, gO_of, cl_i, cl_r, cl_l, cl_n, pu_s, pu_n, rV_s, hg_same, hg_ne, if_true, if_false, true_and, and_true, ne_eq, not_false_eq_true, not_true_eq_false, nI_add, h0, x1]
  refine ((px h hX).deep (by decide)).mono (fun v h1 hv => ?_)
  obtain ⟨rfl, hX1, hS1⟩ := hv
  have e0 : hg h1 0 = some (aI L xs) := (hS1.at (by unfold sx; omega)).trans h0
  have hM1 : MI h1 s := hM.keep hS1 (fun b q => by unfold sx at q; omega)
  obtain ⟨m1, m2, m3, hm⟩ := hM1.1
  simp (disch := first | omega | assumption) only [r_L_law_622, r_L_law_623, r_L_law_626, r_L_law_627, r_L_law_630, r_L_law_633, r_L_law_634_0, r_L_law_634_1, r_L_law_794, r_L_law_797, gF_0, gF_1, gF_2, gF_3, gF_4, gF_5, gF_6, gF_7, gF_8, gF_9, gF_10, gF_11, gF_12, gF_13, gF_14, gF_15, gF_16, gF_17, pF_0, pF_1, pF_2, pF_3, pF_4, pF_5, pF_6, pF_7, pF_8, pF_9, pF_10, pF_11, pF_12, pF_13, pF_14, pF_15, pF_16, pF_17, gI_of, gL_of, gR_of, sI_of, sL_of, gN_of, gO_of, cl_i, cl_r, cl_l, cl_n, pu_s, pu_n, rV_s, hg_same, hg_ne, if_true, if_false, true_and, and_true, ne_eq, not_false_eq_true, not_true_eq_false, nI_add, e0, hm]
  refine ((pm h1 hM1).deep (by decide)).mono (fun v h2 hv => ?_)
  obtain ⟨rfl, hM2, hS2⟩ := hv
  simp (disch := first | omega | assumption) only [r_L_law_622, r_L_law_623, r_L_law_626, r_L_law_627, r_L_law_630, r_L_law_633, r_L_law_634_0, r_L_law_634_1, r_L_law_794, r_L_law_797, gF_0, gF_1, gF_2, gF_3, gF_4, gF_5, gF_6, gF_7, gF_8, gF_9, gF_10, gF_11, gF_12, gF_13, gF_14, gF_15, gF_16, gF_17, pF_0, pF_1, pF_2, pF_3, pF_4, pF_5, pF_6, pF_7, pF_8, pF_9, pF_10, pF_11, pF_12, pF_13, pF_14, pF_15, pF_16, pF_17, gI_of, gL_of, gR_of, sI_of, sL_of, gN_of, gO_of, cl_i, cl_r, cl_l, cl_n, pu_s, pu_n, rV_s, hg_same, hg_ne, if_true, if_false, true_and, and_true, ne_eq, not_false_eq_true, not_true_eq_false, nI_add]
  exact ih h2 s' (H.step hG hX1 hS1 hM2 hS2)
theorem law_determinant {L i : Nat} {xs : Nat → Int32} {h : j_H} {s : j_G} (hL : L ≤ 256) (hi : i + 4 ≤ L) (H : LI L xs h s) (hp : Pr mX10_determinant mX11_determinant [] [] s) (ih : ∀ h2 s2, LI L xs h2 s2 → LW (i + 4) h2) : WP 1000 mL_law 635 [some (.ref 0), some (.ref 1), some (.ref 88), some (.int (nI i))] [] h LQ := by
  obtain ⟨r, s', hG, px, pm⟩ := hp
  obtain ⟨hX, hM, hg0, h0, ha, hb⟩ := id H
  have x1 := hX.1
  simp (disch := first | omega | assumption) only [r_L_law_635, r_L_law_636, r_L_law_639, r_L_law_640, r_L_law_643, r_L_law_646, r_L_law_647_0, r_L_law_647_1, r_L_law_794, r_L_law_797, gF_0, gF_1, gF_2, gF_3, gF_4, gF_5, gF_6, gF_7, gF_8, gF_9, gF_10, gF_11, gF_12, gF_13, gF_14, gF_15, gF_16, gF_17, pF_0, pF_1, pF_2, pF_3, pF_4, pF_5, pF_6, pF_7, pF_8, pF_9, pF_10, pF_11, pF_12, pF_13, pF_14, pF_15, pF_16, pF_17, gI_of, gL_of, gR_of, sI_of, sL_of, gN_of, gO_of, cl_i, cl_r, cl_l, cl_n, pu_s, pu_n, rV_s, hg_same, hg_ne, if_true, if_false, true_and, and_true, ne_eq, not_false_eq_true, not_true_eq_false, nI_add, h0, x1]
  refine ((px h hX).deep (by decide)).mono (fun v h1 hv => ?_)
  obtain ⟨rfl, hX1, hS1⟩ := hv
  have e0 : hg h1 0 = some (aI L xs) := (hS1.at (by unfold sx; omega)).trans h0
  have hM1 : MI h1 s := hM.keep hS1 (fun b q => by unfold sx at q; omega)
  obtain ⟨m1, m2, m3, hm⟩ := hM1.1
  simp (disch := first | omega | assumption) only [r_L_law_635, r_L_law_636, r_L_law_639, r_L_law_640, r_L_law_643, r_L_law_646, r_L_law_647_0, r_L_law_647_1, r_L_law_794, r_L_law_797, gF_0, gF_1, gF_2, gF_3, gF_4, gF_5, gF_6, gF_7, gF_8, gF_9, gF_10, gF_11, gF_12, gF_13, gF_14, gF_15, gF_16, gF_17, pF_0, pF_1, pF_2, pF_3, pF_4, pF_5, pF_6, pF_7, pF_8, pF_9, pF_10, pF_11, pF_12, pF_13, pF_14, pF_15, pF_16, pF_17, gI_of, gL_of, gR_of, sI_of, sL_of, gN_of, gO_of, cl_i, cl_r, cl_l, cl_n, pu_s, pu_n, rV_s, hg_same, hg_ne, if_true, if_false, true_and, and_true, ne_eq, not_false_eq_true, not_true_eq_false, nI_add, e0, hm]
  refine ((pm h1 hM1).deep (by decide)).mono (fun v h2 hv => ?_)
  obtain ⟨rfl, hM2, hS2⟩ := hv
  simp (disch := first | omega | assumption) only [r_L_law_635, r_L_law_636, r_L_law_639, r_L_law_640, r_L_law_643, r_L_law_646, r_L_law_647_0, r_L_law_647_1, r_L_law_794, r_L_law_797, gF_0, gF_1, gF_2, gF_3, gF_4, gF_5, gF_6, gF_7, gF_8, gF_9, gF_10, gF_11, gF_12, gF_13, gF_14, gF_15, gF_16, gF_17, pF_0, pF_1, pF_2, pF_3, pF_4, pF_5, pF_6, pF_7, pF_8, pF_9, pF_10, pF_11, pF_12, pF_13, pF_14, pF_15, pF_16, pF_17, gI_of, gL_of, gR_of, sI_of, sL_of, gN_of, gO_of, cl_i, cl_r, cl_l, cl_n, pu_s, pu_n, rV_s, hg_same, hg_ne, if_true, if_false, true_and, and_true, ne_eq, not_false_eq_true, not_true_eq_false, nI_add]
  exact ih h2 s' (H.step hG hX1 hS1 hM2 hS2)
theorem law_rank {L i : Nat} {xs : Nat → Int32} {h : j_H} {s : j_G} (hL : L ≤ 256) (hi : i + 4 ≤ L) (H : LI L xs h s) (hp : Pr mX10_rank mX11_rank [] [none, none] s) (ih : ∀ h2 s2, LI L xs h2 s2 → LW (i + 4) h2) : WP 1000 mL_law 648 [some (.ref 0), some (.ref 1), some (.ref 88), some (.int (nI i))] [] h LQ := by
  obtain ⟨r, s', hG, px, pm⟩ := hp
  obtain ⟨hX, hM, hg0, h0, ha, hb⟩ := id H
  have x1 := hX.1
  simp (disch := first | omega | assumption) only [r_L_law_648, r_L_law_649, r_L_law_652, r_L_law_653, r_L_law_656, r_L_law_659, r_L_law_660_0, r_L_law_660_1, r_L_law_794, r_L_law_797, gF_0, gF_1, gF_2, gF_3, gF_4, gF_5, gF_6, gF_7, gF_8, gF_9, gF_10, gF_11, gF_12, gF_13, gF_14, gF_15, gF_16, gF_17, pF_0, pF_1, pF_2, pF_3, pF_4, pF_5, pF_6, pF_7, pF_8, pF_9, pF_10, pF_11, pF_12, pF_13, pF_14, pF_15, pF_16, pF_17, gI_of, gL_of, gR_of, sI_of, sL_of, gN_of, gO_of, cl_i, cl_r, cl_l, cl_n, pu_s, pu_n, rV_s, hg_same, hg_ne, if_true, if_false, true_and, and_true, ne_eq, not_false_eq_true, not_true_eq_false, nI_add, h0, x1]
  refine ((px h hX).deep (by decide)).mono (fun v h1 hv => ?_)
  obtain ⟨rfl, hX1, hS1⟩ := hv
  have e0 : hg h1 0 = some (aI L xs) := (hS1.at (by unfold sx; omega)).trans h0
  have hM1 : MI h1 s := hM.keep hS1 (fun b q => by unfold sx at q; omega)
  obtain ⟨m1, m2, m3, hm⟩ := hM1.1
  simp (disch := first | omega | assumption) only [r_L_law_648, r_L_law_649, r_L_law_652, r_L_law_653, r_L_law_656, r_L_law_659, r_L_law_660_0, r_L_law_660_1, r_L_law_794, r_L_law_797, gF_0, gF_1, gF_2, gF_3, gF_4, gF_5, gF_6, gF_7, gF_8, gF_9, gF_10, gF_11, gF_12, gF_13, gF_14, gF_15, gF_16, gF_17, pF_0, pF_1, pF_2, pF_3, pF_4, pF_5, pF_6, pF_7, pF_8, pF_9, pF_10, pF_11, pF_12, pF_13, pF_14, pF_15, pF_16, pF_17, gI_of, gL_of, gR_of, sI_of, sL_of, gN_of, gO_of, cl_i, cl_r, cl_l, cl_n, pu_s, pu_n, rV_s, hg_same, hg_ne, if_true, if_false, true_and, and_true, ne_eq, not_false_eq_true, not_true_eq_false, nI_add, e0, hm]
  refine ((pm h1 hM1).deep (by decide)).mono (fun v h2 hv => ?_)
  obtain ⟨rfl, hM2, hS2⟩ := hv
  simp (disch := first | omega | assumption) only [r_L_law_648, r_L_law_649, r_L_law_652, r_L_law_653, r_L_law_656, r_L_law_659, r_L_law_660_0, r_L_law_660_1, r_L_law_794, r_L_law_797, gF_0, gF_1, gF_2, gF_3, gF_4, gF_5, gF_6, gF_7, gF_8, gF_9, gF_10, gF_11, gF_12, gF_13, gF_14, gF_15, gF_16, gF_17, pF_0, pF_1, pF_2, pF_3, pF_4, pF_5, pF_6, pF_7, pF_8, pF_9, pF_10, pF_11, pF_12, pF_13, pF_14, pF_15, pF_16, pF_17, gI_of, gL_of, gR_of, sI_of, sL_of, gN_of, gO_of, cl_i, cl_r, cl_l, cl_n, pu_s, pu_n, rV_s, hg_same, hg_ne, if_true, if_false, true_and, and_true, ne_eq, not_false_eq_true, not_true_eq_false, nI_add]
  exact ih h2 s' (H.step hG hX1 hS1 hM2 hS2)
theorem law_solution {L i : Nat} {xs : Nat → Int32} {h : j_H} {s : j_G} (hL : L ≤ 256) (hi : i + 4 ≤ L) (H : LI L xs h s) (hp : Pr mX10_solution mX11_solution [some (.int (xs (i + 1))), none] [some (.int (xs (i + 1)))] s) (ih : ∀ h2 s2, LI L xs h2 s2 → LW (i + 4) h2) : WP 1000 mL_law 661 [some (.ref 0), some (.ref 1), some (.ref 88), some (.int (nI i))] [] h LQ := by
  obtain ⟨r, s', hG, px, pm⟩ := hp
  obtain ⟨hX, hM, hg0, h0, ha, hb⟩ := id H
  have x1 := hX.1
  simp (disch := first | omega | assumption) only [r_L_law_661, r_L_law_662, r_L_law_663, r_L_law_664, r_L_law_665, r_L_law_666, r_L_law_667, r_L_law_670, r_L_law_671, r_L_law_672, r_L_law_673, r_L_law_674, r_L_law_675, r_L_law_676, r_L_law_679, r_L_law_682, r_L_law_683_0, r_L_law_683_1, r_L_law_794, r_L_law_797, gF_0, gF_1, gF_2, gF_3, gF_4, gF_5, gF_6, gF_7, gF_8, gF_9, gF_10, gF_11, gF_12, gF_13, gF_14, gF_15, gF_16, gF_17, pF_0, pF_1, pF_2, pF_3, pF_4, pF_5, pF_6, pF_7, pF_8, pF_9, pF_10, pF_11, pF_12, pF_13, pF_14, pF_15, pF_16, pF_17, gI_of, gL_of, gR_of, sI_of, sL_of, gN_of, gO_of, cl_i, cl_r, cl_l, cl_n, pu_s, pu_n, rV_s, hg_same, hg_ne, if_true, if_false, true_and, and_true, ne_eq, not_false_eq_true, not_true_eq_false, nI_add, h0, x1]
  refine ((px h hX).deep (by decide)).mono (fun v h1 hv => ?_)
  obtain ⟨rfl, hX1, hS1⟩ := hv
  have e0 : hg h1 0 = some (aI L xs) := (hS1.at (by unfold sx; omega)).trans h0
  have hM1 : MI h1 s := hM.keep hS1 (fun b q => by unfold sx at q; omega)
  obtain ⟨m1, m2, m3, hm⟩ := hM1.1
  simp (disch := first | omega | assumption) only [r_L_law_661, r_L_law_662, r_L_law_663, r_L_law_664, r_L_law_665, r_L_law_666, r_L_law_667, r_L_law_670, r_L_law_671, r_L_law_672, r_L_law_673, r_L_law_674, r_L_law_675, r_L_law_676, r_L_law_679, r_L_law_682, r_L_law_683_0, r_L_law_683_1, r_L_law_794, r_L_law_797, gF_0, gF_1, gF_2, gF_3, gF_4, gF_5, gF_6, gF_7, gF_8, gF_9, gF_10, gF_11, gF_12, gF_13, gF_14, gF_15, gF_16, gF_17, pF_0, pF_1, pF_2, pF_3, pF_4, pF_5, pF_6, pF_7, pF_8, pF_9, pF_10, pF_11, pF_12, pF_13, pF_14, pF_15, pF_16, pF_17, gI_of, gL_of, gR_of, sI_of, sL_of, gN_of, gO_of, cl_i, cl_r, cl_l, cl_n, pu_s, pu_n, rV_s, hg_same, hg_ne, if_true, if_false, true_and, and_true, ne_eq, not_false_eq_true, not_true_eq_false, nI_add, e0, hm]
  refine ((pm h1 hM1).deep (by decide)).mono (fun v h2 hv => ?_)
  obtain ⟨rfl, hM2, hS2⟩ := hv
  simp (disch := first | omega | assumption) only [r_L_law_661, r_L_law_662, r_L_law_663, r_L_law_664, r_L_law_665, r_L_law_666, r_L_law_667, r_L_law_670, r_L_law_671, r_L_law_672, r_L_law_673, r_L_law_674, r_L_law_675, r_L_law_676, r_L_law_679, r_L_law_682, r_L_law_683_0, r_L_law_683_1, r_L_law_794, r_L_law_797, gF_0, gF_1, gF_2, gF_3, gF_4, gF_5, gF_6, gF_7, gF_8, gF_9, gF_10, gF_11, gF_12, gF_13, gF_14, gF_15, gF_16, gF_17, pF_0, pF_1, pF_2, pF_3, pF_4, pF_5, pF_6, pF_7, pF_8, pF_9, pF_10, pF_11, pF_12, pF_13, pF_14, pF_15, pF_16, pF_17, gI_of, gL_of, gR_of, sI_of, sL_of, gN_of, gO_of, cl_i, cl_r, cl_l, cl_n, pu_s, pu_n, rV_s, hg_same, hg_ne, if_true, if_false, true_and, and_true, ne_eq, not_false_eq_true, not_true_eq_false, nI_add]
  exact ih h2 s' (H.step hG hX1 hS1 hM2 hS2)
theorem law_inverse {L i : Nat} {xs : Nat → Int32} {h : j_H} {s : j_G} (hL : L ≤ 256) (hi : i + 4 ≤ L) (H : LI L xs h s) (hp : Pr mX10_inverse mX11_inverse [some (.int (xs (i + 1))), some (.int (xs (i + 2))), none] [some (.int (xs (i + 1))), some (.int (xs (i + 2)))] s) (ih : ∀ h2 s2, LI L xs h2 s2 → LW (i + 4) h2) : WP 1000 mL_law 684 [some (.ref 0), some (.ref 1), some (.ref 88), some (.int (nI i))] [] h LQ := by
  obtain ⟨r, s', hG, px, pm⟩ := hp
  obtain ⟨hX, hM, hg0, h0, ha, hb⟩ := id H
  have x1 := hX.1
  simp (disch := first | omega | assumption) only [r_L_law_684, r_L_law_685, r_L_law_686, r_L_law_687, r_L_law_688, r_L_law_689, r_L_law_690, r_L_law_691, r_L_law_692, r_L_law_693, r_L_law_694, r_L_law_695, r_L_law_698, r_L_law_699, r_L_law_700, r_L_law_701, r_L_law_702, r_L_law_703, r_L_law_704, r_L_law_705, r_L_law_706, r_L_law_707, r_L_law_708, r_L_law_709, r_L_law_712, r_L_law_715, r_L_law_716_0, r_L_law_716_1, r_L_law_794, r_L_law_797, gF_0, gF_1, gF_2, gF_3, gF_4, gF_5, gF_6, gF_7, gF_8, gF_9, gF_10, gF_11, gF_12, gF_13, gF_14, gF_15, gF_16, gF_17, pF_0, pF_1, pF_2, pF_3, pF_4, pF_5, pF_6, pF_7, pF_8, pF_9, pF_10, pF_11, pF_12, pF_13, pF_14, pF_15, pF_16, pF_17, gI_of, gL_of, gR_of, sI_of, sL_of, gN_of, gO_of, cl_i, cl_r, cl_l, cl_n, pu_s, pu_n, rV_s, hg_same, hg_ne, if_true, if_false, true_and, and_true, ne_eq, not_false_eq_true, not_true_eq_false, nI_add, h0, x1]
  refine ((px h hX).deep (by decide)).mono (fun v h1 hv => ?_)
  obtain ⟨rfl, hX1, hS1⟩ := hv
  have e0 : hg h1 0 = some (aI L xs) := (hS1.at (by unfold sx; omega)).trans h0
  have hM1 : MI h1 s := hM.keep hS1 (fun b q => by unfold sx at q; omega)
  obtain ⟨m1, m2, m3, hm⟩ := hM1.1
  simp (disch := first | omega | assumption) only [r_L_law_684, r_L_law_685, r_L_law_686, r_L_law_687, r_L_law_688, r_L_law_689, r_L_law_690, r_L_law_691, r_L_law_692, r_L_law_693, r_L_law_694, r_L_law_695, r_L_law_698, r_L_law_699, r_L_law_700, r_L_law_701, r_L_law_702, r_L_law_703, r_L_law_704, r_L_law_705, r_L_law_706, r_L_law_707, r_L_law_708, r_L_law_709, r_L_law_712, r_L_law_715, r_L_law_716_0, r_L_law_716_1, r_L_law_794, r_L_law_797, gF_0, gF_1, gF_2, gF_3, gF_4, gF_5, gF_6, gF_7, gF_8, gF_9, gF_10, gF_11, gF_12, gF_13, gF_14, gF_15, gF_16, gF_17, pF_0, pF_1, pF_2, pF_3, pF_4, pF_5, pF_6, pF_7, pF_8, pF_9, pF_10, pF_11, pF_12, pF_13, pF_14, pF_15, pF_16, pF_17, gI_of, gL_of, gR_of, sI_of, sL_of, gN_of, gO_of, cl_i, cl_r, cl_l, cl_n, pu_s, pu_n, rV_s, hg_same, hg_ne, if_true, if_false, true_and, and_true, ne_eq, not_false_eq_true, not_true_eq_false, nI_add, e0, hm]
  refine ((pm h1 hM1).deep (by decide)).mono (fun v h2 hv => ?_)
  obtain ⟨rfl, hM2, hS2⟩ := hv
  simp (disch := first | omega | assumption) only [r_L_law_684, r_L_law_685, r_L_law_686, r_L_law_687, r_L_law_688, r_L_law_689, r_L_law_690, r_L_law_691, r_L_law_692, r_L_law_693, r_L_law_694, r_L_law_695, r_L_law_698, r_L_law_699, r_L_law_700, r_L_law_701, r_L_law_702, r_L_law_703, r_L_law_704, r_L_law_705, r_L_law_706, r_L_law_707, r_L_law_708, r_L_law_709, r_L_law_712, r_L_law_715, r_L_law_716_0, r_L_law_716_1, r_L_law_794, r_L_law_797, gF_0, gF_1, gF_2, gF_3, gF_4, gF_5, gF_6, gF_7, gF_8, gF_9, gF_10, gF_11, gF_12, gF_13, gF_14, gF_15, gF_16, gF_17, pF_0, pF_1, pF_2, pF_3, pF_4, pF_5, pF_6, pF_7, pF_8, pF_9, pF_10, pF_11, pF_12, pF_13, pF_14, pF_15, pF_16, pF_17, gI_of, gL_of, gR_of, sI_of, sL_of, gN_of, gO_of, cl_i, cl_r, cl_l, cl_n, pu_s, pu_n, rV_s, hg_same, hg_ne, if_true, if_false, true_and, and_true, ne_eq, not_false_eq_true, not_true_eq_false, nI_add]
  exact ih h2 s' (H.step hG hX1 hS1 hM2 hS2)
theorem law_changed {L i : Nat} {xs : Nat → Int32} {h : j_H} {s : j_G} (hL : L ≤ 256) (hi : i + 4 ≤ L) (H : LI L xs h s) (hp : Pr mX10_changed mX11_changed [some (.int (xs (i + 1))), some (.int (xs (i + 2))), some (.int (xs (i + 3)))] [some (.int (xs (i + 1))), some (.int (xs (i + 2))), some (.int (xs (i + 3)))] s) (ih : ∀ h2 s2, LI L xs h2 s2 → LW (i + 4) h2) : WP 1000 mL_law 717 [some (.ref 0), some (.ref 1), some (.ref 88), some (.int (nI i))] [] h LQ := by
  obtain ⟨r, s', hG, px, pm⟩ := hp
  obtain ⟨hX, hM, hg0, h0, ha, hb⟩ := id H
  have x1 := hX.1
  simp (disch := first | omega | assumption) only [r_L_law_717, r_L_law_718, r_L_law_719, r_L_law_720, r_L_law_721, r_L_law_722, r_L_law_723, r_L_law_724, r_L_law_725, r_L_law_726, r_L_law_727, r_L_law_728, r_L_law_729, r_L_law_730, r_L_law_731, r_L_law_732, r_L_law_733, r_L_law_736, r_L_law_737, r_L_law_738, r_L_law_739, r_L_law_740, r_L_law_741, r_L_law_742, r_L_law_743, r_L_law_744, r_L_law_745, r_L_law_746, r_L_law_747, r_L_law_748, r_L_law_749, r_L_law_750, r_L_law_751, r_L_law_752, r_L_law_755, r_L_law_758, r_L_law_759_0, r_L_law_759_1, r_L_law_794, r_L_law_797, gF_0, gF_1, gF_2, gF_3, gF_4, gF_5, gF_6, gF_7, gF_8, gF_9, gF_10, gF_11, gF_12, gF_13, gF_14, gF_15, gF_16, gF_17, pF_0, pF_1, pF_2, pF_3, pF_4, pF_5, pF_6, pF_7, pF_8, pF_9, pF_10, pF_11, pF_12, pF_13, pF_14, pF_15, pF_16, pF_17, gI_of, gL_of, gR_of, sI_of, sL_of, gN_of, gO_of, cl_i, cl_r, cl_l, cl_n, pu_s, pu_n, rV_s, hg_same, hg_ne, if_true, if_false, true_and, and_true, ne_eq, not_false_eq_true, not_true_eq_false, nI_add, h0, x1]
  refine ((px h hX).deep (by decide)).mono (fun v h1 hv => ?_)
  obtain ⟨rfl, hX1, hS1⟩ := hv
  have e0 : hg h1 0 = some (aI L xs) := (hS1.at (by unfold sx; omega)).trans h0
  have hM1 : MI h1 s := hM.keep hS1 (fun b q => by unfold sx at q; omega)
  obtain ⟨m1, m2, m3, hm⟩ := hM1.1
  simp (disch := first | omega | assumption) only [r_L_law_717, r_L_law_718, r_L_law_719, r_L_law_720, r_L_law_721, r_L_law_722, r_L_law_723, r_L_law_724, r_L_law_725, r_L_law_726, r_L_law_727, r_L_law_728, r_L_law_729, r_L_law_730, r_L_law_731, r_L_law_732, r_L_law_733, r_L_law_736, r_L_law_737, r_L_law_738, r_L_law_739, r_L_law_740, r_L_law_741, r_L_law_742, r_L_law_743, r_L_law_744, r_L_law_745, r_L_law_746, r_L_law_747, r_L_law_748, r_L_law_749, r_L_law_750, r_L_law_751, r_L_law_752, r_L_law_755, r_L_law_758, r_L_law_759_0, r_L_law_759_1, r_L_law_794, r_L_law_797, gF_0, gF_1, gF_2, gF_3, gF_4, gF_5, gF_6, gF_7, gF_8, gF_9, gF_10, gF_11, gF_12, gF_13, gF_14, gF_15, gF_16, gF_17, pF_0, pF_1, pF_2, pF_3, pF_4, pF_5, pF_6, pF_7, pF_8, pF_9, pF_10, pF_11, pF_12, pF_13, pF_14, pF_15, pF_16, pF_17, gI_of, gL_of, gR_of, sI_of, sL_of, gN_of, gO_of, cl_i, cl_r, cl_l, cl_n, pu_s, pu_n, rV_s, hg_same, hg_ne, if_true, if_false, true_and, and_true, ne_eq, not_false_eq_true, not_true_eq_false, nI_add, e0, hm]
  refine ((pm h1 hM1).deep (by decide)).mono (fun v h2 hv => ?_)
  obtain ⟨rfl, hM2, hS2⟩ := hv
  simp (disch := first | omega | assumption) only [r_L_law_717, r_L_law_718, r_L_law_719, r_L_law_720, r_L_law_721, r_L_law_722, r_L_law_723, r_L_law_724, r_L_law_725, r_L_law_726, r_L_law_727, r_L_law_728, r_L_law_729, r_L_law_730, r_L_law_731, r_L_law_732, r_L_law_733, r_L_law_736, r_L_law_737, r_L_law_738, r_L_law_739, r_L_law_740, r_L_law_741, r_L_law_742, r_L_law_743, r_L_law_744, r_L_law_745, r_L_law_746, r_L_law_747, r_L_law_748, r_L_law_749, r_L_law_750, r_L_law_751, r_L_law_752, r_L_law_755, r_L_law_758, r_L_law_759_0, r_L_law_759_1, r_L_law_794, r_L_law_797, gF_0, gF_1, gF_2, gF_3, gF_4, gF_5, gF_6, gF_7, gF_8, gF_9, gF_10, gF_11, gF_12, gF_13, gF_14, gF_15, gF_16, gF_17, pF_0, pF_1, pF_2, pF_3, pF_4, pF_5, pF_6, pF_7, pF_8, pF_9, pF_10, pF_11, pF_12, pF_13, pF_14, pF_15, pF_16, pF_17, gI_of, gL_of, gR_of, sI_of, sL_of, gN_of, gO_of, cl_i, cl_r, cl_l, cl_n, pu_s, pu_n, rV_s, hg_same, hg_ne, if_true, if_false, true_and, and_true, ne_eq, not_false_eq_true, not_true_eq_false, nI_add]
  exact ih h2 s' (H.step hG hX1 hS1 hM2 hS2)
theorem law_exact {L i : Nat} {xs : Nat → Int32} {h : j_H} {s : j_G} (hL : L ≤ 256) (hi : i + 4 ≤ L) (H : LI L xs h s) (hp : PrL mX10_exact mX11_exact [some (.int (xs (i + 1))), some (.int (xs (i + 2))), none, none, none, none] [some (.int (xs (i + 1))), some (.int (xs (i + 2))), none, none, none, none, none, none] s) (ih : ∀ h2 s2, LI L xs h2 s2 → LW (i + 4) h2) : WP 1000 mL_law 760 [some (.ref 0), some (.ref 1), some (.ref 88), some (.int (nI i))] [] h LQ := by
  obtain ⟨r, s', hG, px, pm⟩ := hp
  obtain ⟨hX, hM, hg0, h0, ha, hb⟩ := id H
  have x1 := hX.1
  simp (disch := first | omega | assumption) only [r_L_law_760, r_L_law_761, r_L_law_762, r_L_law_763, r_L_law_764, r_L_law_765, r_L_law_766, r_L_law_767, r_L_law_768, r_L_law_769, r_L_law_770, r_L_law_771, r_L_law_774, r_L_law_775, r_L_law_776, r_L_law_777, r_L_law_778, r_L_law_779, r_L_law_780, r_L_law_781, r_L_law_782, r_L_law_783, r_L_law_784, r_L_law_785, r_L_law_788, r_L_law_789, r_L_law_792, r_L_law_793_0, r_L_law_793_1, r_L_law_794, r_L_law_797, gF_0, gF_1, gF_2, gF_3, gF_4, gF_5, gF_6, gF_7, gF_8, gF_9, gF_10, gF_11, gF_12, gF_13, gF_14, gF_15, gF_16, gF_17, pF_0, pF_1, pF_2, pF_3, pF_4, pF_5, pF_6, pF_7, pF_8, pF_9, pF_10, pF_11, pF_12, pF_13, pF_14, pF_15, pF_16, pF_17, gI_of, gL_of, gR_of, sI_of, sL_of, gN_of, gO_of, cl_i, cl_r, cl_l, cl_n, pu_s, pu_n, rV_s, hg_same, hg_ne, if_true, if_false, true_and, and_true, ne_eq, not_false_eq_true, not_true_eq_false, nI_add, h0, x1]
  refine ((px h hX).deep (by decide)).mono (fun v h1 hv => ?_)
  obtain ⟨rfl, hX1, hS1⟩ := hv
  have e0 : hg h1 0 = some (aI L xs) := (hS1.at (by unfold sx; omega)).trans h0
  have hM1 : MI h1 s := hM.keep hS1 (fun b q => by unfold sx at q; omega)
  obtain ⟨m1, m2, m3, hm⟩ := hM1.1
  simp (disch := first | omega | assumption) only [r_L_law_760, r_L_law_761, r_L_law_762, r_L_law_763, r_L_law_764, r_L_law_765, r_L_law_766, r_L_law_767, r_L_law_768, r_L_law_769, r_L_law_770, r_L_law_771, r_L_law_774, r_L_law_775, r_L_law_776, r_L_law_777, r_L_law_778, r_L_law_779, r_L_law_780, r_L_law_781, r_L_law_782, r_L_law_783, r_L_law_784, r_L_law_785, r_L_law_788, r_L_law_789, r_L_law_792, r_L_law_793_0, r_L_law_793_1, r_L_law_794, r_L_law_797, gF_0, gF_1, gF_2, gF_3, gF_4, gF_5, gF_6, gF_7, gF_8, gF_9, gF_10, gF_11, gF_12, gF_13, gF_14, gF_15, gF_16, gF_17, pF_0, pF_1, pF_2, pF_3, pF_4, pF_5, pF_6, pF_7, pF_8, pF_9, pF_10, pF_11, pF_12, pF_13, pF_14, pF_15, pF_16, pF_17, gI_of, gL_of, gR_of, sI_of, sL_of, gN_of, gO_of, cl_i, cl_r, cl_l, cl_n, pu_s, pu_n, rV_s, hg_same, hg_ne, if_true, if_false, true_and, and_true, ne_eq, not_false_eq_true, not_true_eq_false, nI_add, e0, hm]
  refine ((pm h1 hM1).deep (by decide)).mono (fun v h2 hv => ?_)
  obtain ⟨rfl, hM2, hS2⟩ := hv
  simp (disch := first | omega | assumption) only [r_L_law_760, r_L_law_761, r_L_law_762, r_L_law_763, r_L_law_764, r_L_law_765, r_L_law_766, r_L_law_767, r_L_law_768, r_L_law_769, r_L_law_770, r_L_law_771, r_L_law_774, r_L_law_775, r_L_law_776, r_L_law_777, r_L_law_778, r_L_law_779, r_L_law_780, r_L_law_781, r_L_law_782, r_L_law_783, r_L_law_784, r_L_law_785, r_L_law_788, r_L_law_789, r_L_law_792, r_L_law_793_0, r_L_law_793_1, r_L_law_794, r_L_law_797, gF_0, gF_1, gF_2, gF_3, gF_4, gF_5, gF_6, gF_7, gF_8, gF_9, gF_10, gF_11, gF_12, gF_13, gF_14, gF_15, gF_16, gF_17, pF_0, pF_1, pF_2, pF_3, pF_4, pF_5, pF_6, pF_7, pF_8, pF_9, pF_10, pF_11, pF_12, pF_13, pF_14, pF_15, pF_16, pF_17, gI_of, gL_of, gR_of, sI_of, sL_of, gN_of, gO_of, cl_i, cl_r, cl_l, cl_n, pu_s, pu_n, rV_s, hg_same, hg_ne, if_true, if_false, true_and, and_true, ne_eq, not_false_eq_true, not_true_eq_false, nI_add, lg_cmp_self]
  exact ih h2 s' (H.step hG hX1 hS1 hM2 hS2)
theorem law_step (hA : AllP) {L i : Nat} {xs : Nat → Int32} {h : j_H} {s : j_G} (hL : L ≤ 256) (hi : i + 4 ≤ L) (H : LI L xs h s) (ih : ∀ h2 s2, LI L xs h2 s2 → LW (i + 4) h2) : WP 1000 mL_law 26 [some (.ref 0), some (.ref 1), some (.ref 88), some (.int (nI i))] [] h LQ := by
  obtain ⟨hX, hM, hg0, h0, ha, hb⟩ := id H
  obtain ⟨j, hj, ej⟩ := pk_andE (xs i) (m := nI 31) 5 (by decide +kernel)
  have hP := hA s hg0
  obtain ⟨p0, p1, p2, p3, p4, p5, p6, p7, p8, p9, p10, p11, p12, p13, p14, p15, p16, p17, p18, p19, p20, p21, p22, p23, p24⟩ := hP
  simp (disch := first | omega | assumption) only [r_L_law_26, r_L_law_27, r_L_law_28, r_L_law_29, r_L_law_31, gF_0, gF_1, gF_2, gF_3, gF_4, gF_5, gF_6, gF_7, gF_8, gF_9, gF_10, gF_11, gF_12, gF_13, gF_14, gF_15, gF_16, gF_17, pF_0, pF_1, pF_2, pF_3, pF_4, pF_5, pF_6, pF_7, pF_8, pF_9, pF_10, pF_11, pF_12, pF_13, pF_14, pF_15, pF_16, pF_17, gI_of, gL_of, gR_of, sI_of, sL_of, gN_of, gO_of, cl_i, cl_r, cl_l, cl_n, pu_s, pu_n, rV_s, hg_same, hg_ne, if_true, if_false, true_and, and_true, ne_eq, not_false_eq_true, not_true_eq_false, h0, ej]
  match j, hj with
  | 0, _ => rw [r_L_law_32_0]; exact law_size hL hi H (p0 _) ih
  | 1, _ => rw [r_L_law_32_1]; exact law_set hL hi H (p1 _ _ _) ih
  | 2, _ => rw [r_L_law_32_2]; exact law_cell hL hi H (p2 _ _) ih
  | 3, _ => rw [r_L_law_32_3]; exact law_side hL hi H (p3 _ _) ih
  | 4, _ => rw [r_L_law_32_4]; exact law_count hL hi H (p4 _) ih
  | 5, _ => rw [r_L_law_32_5]; exact law_matched hL hi H (p5 _) ih
  | 6, _ => rw [r_L_law_32_6]; exact law_heap hL hi H (p6) ih
  | 7, _ => rw [r_L_law_32_7]; exact law_columns hL hi H (p7 _) ih
  | 8, _ => rw [r_L_law_32_8]; exact law_block hL hi H (p8 _) ih
  | 9, _ => rw [r_L_law_32_9]; exact law_rows hL hi H (p9 _) ih
  | 10, _ => rw [r_L_law_32_10]; exact law_joined hL hi H (p10 _) ih
  | 11, _ => rw [r_L_law_32_11]; exact law_order hL hi H (p11 _) ih
  | 12, _ => rw [r_L_law_32_12]; exact law_change hL hi H (p12 _ _) ih
  | 13, _ => rw [r_L_law_32_13]; exact law_node hL hi H (p13 _ _) ih
  | 14, _ => rw [r_L_law_32_14]; exact law_going hL hi H (p14 _) ih
  | 15, _ => rw [r_L_law_32_15]; exact law_prime hL hi H (p15 _) ih
  | 16, _ => rw [r_L_law_32_16]; exact law_stop hL hi H (p16) ih
  | 17, _ => rw [r_L_law_32_17]; exact law_factor hL hi H (p17 _ _ _) ih
  | 18, _ => rw [r_L_law_32_18]; exact law_full hL hi H (p18) ih
  | 19, _ => rw [r_L_law_32_19]; exact law_determinant hL hi H (p19) ih
  | 20, _ => rw [r_L_law_32_20]; exact law_rank hL hi H (p20) ih
  | 21, _ => rw [r_L_law_32_21]; exact law_solution hL hi H (p21 _) ih
  | 22, _ => rw [r_L_law_32_22]; exact law_inverse hL hi H (p22 _ _) ih
  | 23, _ => rw [r_L_law_32_23]; exact law_changed hL hi H (p23 _ _ _) ih
  | 24, _ => rw [r_L_law_32_24]; exact law_exact hL hi H (p24 _ _) ih
  | j + 25, hj =>
    rw [r_L_law_32_d (by right; rw [nI_toInt (by omega)]; omega)]
    simp (disch := first | omega | assumption) only [r_L_law_794, r_L_law_797, gF_0, gF_1, gF_2, gF_3, gF_4, gF_5, gF_6, gF_7, gF_8, gF_9, gF_10, gF_11, gF_12, gF_13, gF_14, gF_15, gF_16, gF_17, pF_0, pF_1, pF_2, pF_3, pF_4, pF_5, pF_6, pF_7, pF_8, pF_9, pF_10, pF_11, pF_12, pF_13, pF_14, pF_15, pF_16, pF_17, gI_of, gL_of, gR_of, sI_of, sL_of, gN_of, gO_of, cl_i, cl_r, cl_l, cl_n, pu_s, pu_n, rV_s, hg_same, hg_ne, if_true, if_false, true_and, and_true, ne_eq, not_false_eq_true, not_true_eq_false, nI_add]
    exact ih h s H
theorem law_loop (hA : AllP) {L : Nat} {xs : Nat → Int32} (hL : L ≤ 256) : ∀ (k i : Nat), i ≤ L + 3 → L + 4 - i < k → ∀ h s, LI L xs h s → LW i h := by
  intro k
  induction k with
  | zero => intro i _ h0; omega
  | succ k ih =>
    intro i hi1 hk h s H
    obtain ⟨hX, hM, hg0, h0, ha, hb⟩ := id H
    unfold LW
    rw [r_L_law_18]
    simp (disch := first | omega | assumption) only [r_L_law_19, r_L_law_20, r_L_law_21, r_L_law_22, r_L_law_23, gF_0, gF_1, gF_2, gF_3, gF_4, gF_5, gF_6, gF_7, gF_8, gF_9, gF_10, gF_11, gF_12, gF_13, gF_14, gF_15, gF_16, gF_17, pF_0, pF_1, pF_2, pF_3, pF_4, pF_5, pF_6, pF_7, pF_8, pF_9, pF_10, pF_11, pF_12, pF_13, pF_14, pF_15, pF_16, pF_17, gI_of, gL_of, gR_of, sI_of, sL_of, gN_of, gO_of, cl_i, cl_r, cl_l, cl_n, pu_s, pu_n, rV_s, hg_same, hg_ne, if_true, if_false, true_and, and_true, ne_eq, not_false_eq_true, not_true_eq_false, h0]
    have e : (nI L - nI 4 < nI i) = (L < i + 4) := by
      rw [Int32.lt_iff_toInt_lt, pk_sub_toInt (by omega) (by omega), nI_toInt (by omega)]
      exact propext ⟨fun h => by omega, fun h => by omega⟩
    by_cases hc : L < i + 4
    · rw [if_pos (show nI L - nI 4 < nI i by rw [e]; exact hc)]
      simp only [r_L_law_800, r_L_law_801_1]
      exact ⟨rfl, ha, hb⟩
    · rw [if_neg (show ¬ nI L - nI 4 < nI i by rw [e]; exact hc)]
      exact law_step hA hL (by omega) H (fun h2 s2 H2 => ih (i + 4) (by omega) (by omega) h2 s2 H2)
