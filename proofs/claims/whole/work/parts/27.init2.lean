theorem xM.eq {h h' : j_H} (H : xM h) (k : ∀ b, 27 ≤ b → b < 32 → hg h' b = hg h b) : xM h' := by
  obtain ⟨⟨v, h0⟩, h1, h2, h3, h4⟩ := H
  exact ⟨⟨v, (k 27 (by omega) (by omega)).trans h0⟩, h1.keep (k _ (by omega) (by omega)), h2.keep (k _ (by omega) (by omega)), h3.keep (k _ (by omega) (by omega)), h4.keep (k _ (by omega) (by omega))⟩
theorem xB.eq {h h' : j_H} (H : xB h) (k : ∀ b, 32 ≤ b → b < 35 → hg h' b = hg h b) : xB h' := by
  obtain ⟨⟨v, h0⟩, h1, h2⟩ := H
  exact ⟨⟨v, (k 32 (by omega) (by omega)).trans h0⟩, h1.keep (k _ (by omega) (by omega)), h2.keep (k _ (by omega) (by omega))⟩
theorem xO.eq {h h' : j_H} {n : Nat} {o : Nat → Nat} (H : xO h n o) (k : ∀ b, 35 ≤ b → b < 37 → hg h' b = hg h b) : xO h' n o := by
  exact ⟨(k 35 (by omega) (by omega)).trans H.1, H.2.keep (k _ (by omega) (by omega))⟩
theorem xE.eq {h h' : j_H} (H : xE h) (k : ∀ b, 37 ≤ b → b < 44 → hg h' b = hg h b) : xE h' := by
  obtain ⟨⟨a, b, c, e, h0⟩, ⟨v, h1⟩, h2, h3, h4, h5, h6⟩ := H
  exact ⟨⟨a, b, c, e, (k 37 (by omega) (by omega)).trans h0⟩, ⟨v, (k 38 (by omega) (by omega)).trans h1⟩, h2.keep (k _ (by omega) (by omega)), h3.keep (k _ (by omega) (by omega)), h4.keep (k _ (by omega) (by omega)), h5.keep (k _ (by omega) (by omega)), h6.keep (k _ (by omega) (by omega))⟩
theorem xD.eq {h h' : j_H} (H : xD h) (k : ∀ b, 44 ≤ b → b < 47 → hg h' b = hg h b) : xD h' := by
  obtain ⟨h0, ⟨v, h1⟩, h2⟩ := H
  exact ⟨(k 44 (by omega) (by omega)).trans h0, ⟨v, (k 45 (by omega) (by omega)).trans h1⟩, h2.keep (k _ (by omega) (by omega))⟩
theorem xL.eq {h h' : j_H} (H : xL h) (k : ∀ b, 47 ≤ b → b < 63 → hg h' b = hg h b) : xL h' := by
  obtain ⟨⟨v, h0⟩, h1, ⟨R, h2, h3⟩, h4⟩ := H
  exact ⟨⟨v, (k 47 (by omega) (by omega)).trans h0⟩, h1.keep (k _ (by omega) (by omega)), ⟨R, (k 49 (by omega) (by omega)).trans h2, h3⟩, fun i hi => (h4 i hi).keep (k _ (by omega) (by omega))⟩
theorem xR.eq {h h' : j_H} {p : Nat} (H : xR h p) (k : ∀ b, 63 ≤ b → b < 86 → hg h' b = hg h b) : xR h' p := by
  obtain ⟨⟨v, h0⟩, ⟨R, q, h1, h2, h3⟩, h4, h5⟩ := H
  exact ⟨⟨v, (k 63 (by omega) (by omega)).trans h0⟩, ⟨R, q, (k 64 (by omega) (by omega)).trans h1, h2, h3⟩, fun i hi => (h4 i hi).keep (k _ (by omega) (by omega)), h5.keep (k _ (by omega) (by omega))⟩
theorem xF.eq {h h' : j_H} (H : xF h) (k : ∀ b, 86 ≤ b → b < 88 → hg h' b = hg h b) : xF h' := by
  exact ⟨(k 86 (by omega) (by omega)).trans H.1, H.2.keep (k _ (by omega) (by omega))⟩
theorem xT.eq {h h' : j_H} {n : Nat} {C : Nat → Nat → Int32} (hT : xT h n C) (k : ∀ b, 2 ≤ b → b < 27 → hg h' b = hg h b) : xT h' n C := by
  obtain ⟨h1, ⟨R, h2, h3⟩, h4, h5, h6⟩ := hT
  exact ⟨(k 2 (by omega) (by omega)).trans h1, ⟨R, (k 3 (by omega) (by omega)).trans h2, h3⟩, fun i hi => (h4 i hi).keep (k _ (by omega) (by omega)), h5.keep (k _ (by omega) (by omega)), h6.keep (k _ (by omega) (by omega))⟩
theorem jn_0 : j_nf 0 = 3 := rfl
theorem jn_1 : j_nf 1 = 9 := rfl
theorem jn_2 : j_nf 2 = 1 := rfl
theorem jn_3 : j_nf 3 = 2 := rfl
theorem jn_4 : j_nf 4 = 3 := rfl
theorem jn_5 : j_nf 5 = 5 := rfl
theorem jn_6 : j_nf 6 = 1 := rfl
theorem jn_7 : j_nf 7 = 4 := rfl
theorem jn_8 : j_nf 8 = 1 := rfl
theorem jn_9 : j_nf 9 = 5 := rfl
theorem jn_10 : j_nf 10 = 9 := rfl
theorem jn_11 : j_nf 11 = 18 := rfl
theorem x_setAsTheyAre {d n : Nat} {h : j_H} {Q : Option Value → j_H → Prop} {f : Nat → Int32} (h1 : hg h 35 = some (oB 8 [.ref 36])) (h2 : hg h 36 = some (aI 20 f)) (hn : n ≤ 20) (k : ∀ g, (∀ i, i < n → g i = nI i) → Q none (hs h 36 (aI 20 g))) : WP d mX8_setAsTheyAre 0 [some (.ref 35), some (.int (nI n)), none] [] h Q := by
  simp (disch := first | omega | assumption) only [r_X8_setAsTheyAre_0, r_X8_setAsTheyAre_1, r_X8_setAsTheyAre_3, r_X8_setAsTheyAre_4, r_X8_setAsTheyAre_7, r_X8_setAsTheyAre_8, r_X8_setAsTheyAre_11, r_X8_setAsTheyAre_12, r_X8_setAsTheyAre_13, r_X8_setAsTheyAre_14, r_X8_setAsTheyAre_17, r_X8_setAsTheyAre_20, gF_0, gF_1, gF_2, gF_3, gF_4, gF_5, gF_6, gF_7, gF_8, gF_9, gF_10, gF_11, gF_12, gF_13, gF_14, gF_15, gF_16, gF_17, pF_0, pF_1, pF_2, pF_3, pF_4, pF_5, pF_6, pF_7, pF_8, pF_9, pF_10, pF_11, pF_12, pF_13, pF_14, pF_15, pF_16, pF_17, gI_of, gL_of, gR_of, sI_of, sL_of, gN_of, gO_of, cl_i, cl_r, cl_l, cl_n, pu_s, pu_n, rV_s, hg_same, hg_ne, if_true, if_false, true_and, and_true, ne_eq, not_false_eq_true, not_true_eq_false]
  have key : ∀ i, i ≤ n → ∀ g, (∀ j, j < i → g j = nI j) → WP d mX8_setAsTheyAre 2 [some (.ref 35), some (.int (nI n)), some (.int (nI i))] [] (hs h 36 (aI 20 g)) Q := by
    refine lup (P := fun i => ∀ g, (∀ j, j < i → g j = nI j) → WP d mX8_setAsTheyAre 2 [some (.ref 35), some (.int (nI n)), some (.int (nI i))] [] (hs h 36 (aI 20 g)) Q) ?_ ?_
    · intro g hg
      rw [r_X8_setAsTheyAre_2]
      simp (disch := first | omega | assumption) only [r_X8_setAsTheyAre_0, r_X8_setAsTheyAre_1, r_X8_setAsTheyAre_3, r_X8_setAsTheyAre_4, r_X8_setAsTheyAre_7, r_X8_setAsTheyAre_8, r_X8_setAsTheyAre_11, r_X8_setAsTheyAre_12, r_X8_setAsTheyAre_13, r_X8_setAsTheyAre_14, r_X8_setAsTheyAre_17, r_X8_setAsTheyAre_20, gF_0, gF_1, gF_2, gF_3, gF_4, gF_5, gF_6, gF_7, gF_8, gF_9, gF_10, gF_11, gF_12, gF_13, gF_14, gF_15, gF_16, gF_17, pF_0, pF_1, pF_2, pF_3, pF_4, pF_5, pF_6, pF_7, pF_8, pF_9, pF_10, pF_11, pF_12, pF_13, pF_14, pF_15, pF_16, pF_17, gI_of, gL_of, gR_of, sI_of, sL_of, gN_of, gO_of, cl_i, cl_r, cl_l, cl_n, pu_s, pu_n, rV_s, hg_same, hg_ne, if_true, if_false, true_and, and_true, ne_eq, not_false_eq_true, not_true_eq_false, nI_add, n_mul, n_sub, n_div, n_dec, n_dif, n_shl1, n_bit, n_eq0, n_0eq, n_eq, n_lt, n_le, n_lt0, n_ge0, n_gt0, n_le0, n_em1, n_m1e, n_m1lt0, n_m1ge0, n_m1gt0, n_m1eq0, n_m1lt, bI_eq0, bI_ne0, tb_eq0, tb_eq1, Nat.le_refl]
      exact k g hg
    · intro i hi ih g hg
      rw [r_X8_setAsTheyAre_2]
      simp (disch := first | omega | assumption) only [r_X8_setAsTheyAre_0, r_X8_setAsTheyAre_1, r_X8_setAsTheyAre_3, r_X8_setAsTheyAre_4, r_X8_setAsTheyAre_7, r_X8_setAsTheyAre_8, r_X8_setAsTheyAre_11, r_X8_setAsTheyAre_12, r_X8_setAsTheyAre_13, r_X8_setAsTheyAre_14, r_X8_setAsTheyAre_17, r_X8_setAsTheyAre_20, gF_0, gF_1, gF_2, gF_3, gF_4, gF_5, gF_6, gF_7, gF_8, gF_9, gF_10, gF_11, gF_12, gF_13, gF_14, gF_15, gF_16, gF_17, pF_0, pF_1, pF_2, pF_3, pF_4, pF_5, pF_6, pF_7, pF_8, pF_9, pF_10, pF_11, pF_12, pF_13, pF_14, pF_15, pF_16, pF_17, gI_of, gL_of, gR_of, sI_of, sL_of, gN_of, gO_of, cl_i, cl_r, cl_l, cl_n, pu_s, pu_n, rV_s, hg_same, hg_ne, if_true, if_false, true_and, and_true, ne_eq, not_false_eq_true, not_true_eq_false, nI_add, n_mul, n_sub, n_div, n_dec, n_dif, n_shl1, n_bit, n_eq0, n_0eq, n_eq, n_lt, n_le, n_lt0, n_ge0, n_gt0, n_le0, n_em1, n_m1e, n_m1lt0, n_m1ge0, n_m1gt0, n_m1eq0, n_m1lt, bI_eq0, bI_ne0, tb_eq0, tb_eq1, show ¬ n ≤ i by omega, h1, hs_hs]
      refine ih _ (fun j hj => ?_)
      by_cases e : j = i
      · subst e; exact up_same _ _ _
      · rw [up_ne e]; exact hg j (by omega)
  have := key 0 (by omega) f (fun j hj => by omega)
  rw [hs_self h2] at this
  exact this
theorem i_Elim {d : Nat} {h : j_H} {Q : Option Value → j_H → Prop} (h2 : hg h 37 = some (oB 1 (j_df 1))) (hz : h.1 = 38)
    (k : ∀ h1, Nw 37 6 102 h h1 → hg h1 37 = some (oB 1 [.int 0, .int 0, .int 0, .int 0, .ref 38, .ref 40, .ref 41, .ref 42, .ref 43]) → hg h1 38 = some (oB 3 [.int 0, .ref 39]) → (∀ b, 39 ≤ b → b < 44 → hg h1 b = some (aI 20 (fun _ => 0))) → Q none h1) : WP (d + 2) mX1_init 0 [some (.ref 37)] [] h Q := by
  rw [jd_1] at h2
  simp (disch := first | omega | (simp only [hn_1, hm_1, hs_sz, hz]; omega) | (simp only [hn_1, hm_1, hs_sz, hz]; done) | assumption) only [r_X1_init_0, r_X1_init_1, r_X1_init_4, r_X1_init_5, r_X1_init_8, r_X1_init_9, r_X1_init_12, r_X1_init_15, r_X1_init_16, r_X1_init_18, r_X1_init_20, r_X1_init_23, r_X1_init_24, r_X1_init_26, r_X1_init_28, r_X1_init_31, r_X1_init_32, r_X1_init_34, r_X1_init_36, r_X1_init_39, r_X1_init_40, r_X1_init_42, r_X1_init_44, r_X1_init_47, gF_0, gF_1, gF_2, gF_3, gF_4, gF_5, gF_6, gF_7, gF_8, gF_9, gF_10, gF_11, gF_12, gF_13, gF_14, gF_15, gF_16, gF_17, pF_0, pF_1, pF_2, pF_3, pF_4, pF_5, pF_6, pF_7, pF_8, pF_9, pF_10, pF_11, pF_12, pF_13, pF_14, pF_15, pF_16, pF_17, gI_of, gL_of, gR_of, sI_of, sL_of, gN_of, gO_of, cl_i, cl_r, cl_l, cl_n, pu_s, pu_n, rV_s, hg_same, hg_ne, if_true, if_false, true_and, and_true, ne_eq, not_false_eq_true, not_true_eq_false, h2, hg_hn_ne, hn_1, hs_sz, hz, Nat.reduceAdd]
  refine i_Graph1 (hg_hn_eq hz.symm) (by simp only [hn_1, hz]) (fun h1 nw g1 g2 => ?_)
  have z1 : h1.1 = 40 := by rw [nw.1]; simp only [hn_1, hz]
  have s1 : h1.2.1 = h.2.1 + 2 + 20 := by rw [nw.2.1]; simp only [hn_2, jn_3]
  have old : ∀ b, b < 38 → hg h1 b = hg h b := fun b hb => (nw.2.2 b (by simp only [hn_1, hz]; omega) (by omega)).trans (hg_hn_ne (by omega))
  have o37 := (old 37 (by omega)).trans h2
  have g39 := g2 39 (by omega) (by omega)
  simp (disch := first | omega | (simp only [hn_1, hm_1, hs_sz, z1]; omega) | (simp only [hn_1, hm_1, hs_sz, z1]; done) | assumption) only [r_X1_init_0, r_X1_init_1, r_X1_init_4, r_X1_init_5, r_X1_init_8, r_X1_init_9, r_X1_init_12, r_X1_init_15, r_X1_init_16, r_X1_init_18, r_X1_init_20, r_X1_init_23, r_X1_init_24, r_X1_init_26, r_X1_init_28, r_X1_init_31, r_X1_init_32, r_X1_init_34, r_X1_init_36, r_X1_init_39, r_X1_init_40, r_X1_init_42, r_X1_init_44, r_X1_init_47, gF_0, gF_1, gF_2, gF_3, gF_4, gF_5, gF_6, gF_7, gF_8, gF_9, gF_10, gF_11, gF_12, gF_13, gF_14, gF_15, gF_16, gF_17, pF_0, pF_1, pF_2, pF_3, pF_4, pF_5, pF_6, pF_7, pF_8, pF_9, pF_10, pF_11, pF_12, pF_13, pF_14, pF_15, pF_16, pF_17, gI_of, gL_of, gR_of, sI_of, sL_of, gN_of, gO_of, cl_i, cl_r, cl_l, cl_n, pu_s, pu_n, rV_s, hg_same, hg_ne, if_true, if_false, true_and, and_true, ne_eq, not_false_eq_true, not_true_eq_false, o37, hg_hn_ne, hn_1, hs_sz, z1, Nat.reduceAdd]
  refine k _ ⟨?_, ?_, fun b hb hne => ?_⟩ ?_ ?_ ?_
  · simp only [hn_1, hs_sz, z1, hz]
  · simp only [hn_2, hs_sl, s1]
  · rw [hz] at hb
    simp (disch := first | omega | (simp only [hn_1, hm_1, hs_sz, z1]; omega) | (simp only [hn_1, hm_1, hs_sz, z1]; done) | assumption) only [hg_ne, hg_hn_ne, old]
  · simp only [hg_same]
  · simp (disch := first | omega | (simp only [hn_1, hm_1, hs_sz, z1]; omega) | (simp only [hn_1, hm_1, hs_sz, z1]; done) | assumption) only [hg_ne, hg_hn_ne, g1]
  · intro b q1 q2
    rcases (show b = 39 ∨ b = 40 ∨ b = 41 ∨ b = 42 ∨ b = 43 by omega) with rfl | rfl | rfl | rfl | rfl <;> simp (disch := first | omega | (simp only [hn_1, hm_1, hs_sz, z1]; omega) | (simp only [hn_1, hm_1, hs_sz, z1]; done) | assumption) only [hg_ne, hg_hn_ne, hg_hn_eq, g39]
theorem i_OrderMaker {d : Nat} {h : j_H} {Q : Option Value → j_H → Prop} (h2 : hg h 44 = some (oB 6 (j_df 6))) (hz : h.1 = 45)
    (k : ∀ h1, Nw 44 2 22 h h1 → hg h1 44 = some (oB 6 [.ref 45]) → hg h1 45 = some (oB 3 [.int 0, .ref 46]) → hg h1 46 = some (aI 20 (fun _ => 0)) → Q none h1) : WP (d + 2) mX6_init 0 [some (.ref 44)] [] h Q := by
  rw [jd_6] at h2
  simp (disch := first | omega | (simp only [hn_1, hm_1, hs_sz, hz]; omega) | (simp only [hn_1, hm_1, hs_sz, hz]; done) | assumption) only [r_X6_init_0, r_X6_init_1, r_X6_init_4, r_X6_init_5, r_X6_init_8, r_X6_init_9, r_X6_init_12, r_X6_init_15, gF_0, gF_1, gF_2, gF_3, gF_4, gF_5, gF_6, gF_7, gF_8, gF_9, gF_10, gF_11, gF_12, gF_13, gF_14, gF_15, gF_16, gF_17, pF_0, pF_1, pF_2, pF_3, pF_4, pF_5, pF_6, pF_7, pF_8, pF_9, pF_10, pF_11, pF_12, pF_13, pF_14, pF_15, pF_16, pF_17, gI_of, gL_of, gR_of, sI_of, sL_of, gN_of, gO_of, cl_i, cl_r, cl_l, cl_n, pu_s, pu_n, rV_s, hg_same, hg_ne, if_true, if_false, true_and, and_true, ne_eq, not_false_eq_true, not_true_eq_false, h2, hg_hn_ne, hn_1, hs_sz, hz, Nat.reduceAdd]
  refine i_Graph2 (hg_hn_eq hz.symm) (by simp only [hn_1, hz]) (fun h1 nw g1 g2 => ?_)
  have z1 : h1.1 = 47 := by rw [nw.1]; simp only [hn_1, hz]
  have s1 : h1.2.1 = h.2.1 + 2 + 20 := by rw [nw.2.1]; simp only [hn_2, jn_3]
  have old : ∀ b, b < 45 → hg h1 b = hg h b := fun b hb => (nw.2.2 b (by simp only [hn_1, hz]; omega) (by omega)).trans (hg_hn_ne (by omega))
  have o37 := (old 44 (by omega)).trans h2
  have g39 := g2 46 (by omega) (by omega)
  simp (disch := first | omega | assumption) only [r_X6_init_0, r_X6_init_1, r_X6_init_4, r_X6_init_5, r_X6_init_8, r_X6_init_9, r_X6_init_12, r_X6_init_15, gF_0, gF_1, gF_2, gF_3, gF_4, gF_5, gF_6, gF_7, gF_8, gF_9, gF_10, gF_11, gF_12, gF_13, gF_14, gF_15, gF_16, gF_17, pF_0, pF_1, pF_2, pF_3, pF_4, pF_5, pF_6, pF_7, pF_8, pF_9, pF_10, pF_11, pF_12, pF_13, pF_14, pF_15, pF_16, pF_17, gI_of, gL_of, gR_of, sI_of, sL_of, gN_of, gO_of, cl_i, cl_r, cl_l, cl_n, pu_s, pu_n, rV_s, hg_same, hg_ne, if_true, if_false, true_and, and_true, ne_eq, not_false_eq_true, not_true_eq_false, o37]
  refine k _ ⟨?_, ?_, fun b hb hne => ?_⟩ ?_ ?_ ?_
  · simp only [hn_1, hs_sz, z1, hz]
  · simp only [hn_2, hs_sl, s1]
  · rw [hz] at hb
    simp (disch := first | omega | assumption) only [hg_ne, old]
  · simp only [hg_same]
  · simp (disch := first | omega | assumption) only [hg_ne, g1]
  · simp (disch := first | omega | assumption) only [hg_ne, g39]
