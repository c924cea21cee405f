theorem mW.less {h : j_H} {n w w' : Nat} {A B : Nat → Nat → Nat} (H : mW h n w A) (hw : w' ≤ w) (hE : ∀ i j, i < n → j < w' → A i j = B i j) : mW h n w' B := by
  obtain ⟨f, f1, f2⟩ := H
  exact ⟨f, f1, fun i j hi hj => by rw [f2 i j hi (by omega), hE i j hi hj]⟩
theorem ly_L0 {p n i c : Nat} {C : Nat → Nat → Int32} {b : Nat → Int32} {z : Bool} (h : c < n) : ly p n C b z i c = L0 p C i c := by unfold ly; rw [if_pos h]
theorem cm_lt {n e c : Nat} (h : c < n) : cm n e c = c := if_pos h
theorem L0_lt {p : Nat} {C : Nat → Nat → Int32} (hp : 2 ≤ p) (i c : Nat) : L0 p C i c < p := rs_lt (by omega) _
theorem p_determinant {s : j_G} (hG : Gd s) : Pr mX10_determinant mX11_determinant [] [] s := by
  obtain ⟨n, C, b, o, p⟩ := s
  have hn : 1 ≤ n ∧ n ≤ 20 := hG.1
  have hP : isP p := hG.2.2.2.2.2
  have hp := hP.1
  have hp2 := hP.2.1
  have rel := cS_mR (e := 0) (A := L0 p C) (B := L0 p C) hp (Nat.le_refl n) (fun i c hi hc => by rw [cm_lt hc]) n (Nat.le_refl n)
  refine ⟨nI (mR p n (L0 p C) n).2.2, Pv.same hG (fun h hX => ?_) (fun h hM => ?_)⟩
  · obtain ⟨x0, xt, x24, x3, x4, x5, x6, x7, x8, x9, x10⟩ := id hX
    obtain ⟨v, R, q, r1, r2⟩ := xR.work x9
    have x2 : hg h 2 = _ := xt.1
    simp (disch := first | omega | assumption) only [r_X10_determinant_0, r_X10_determinant_1, r_X10_determinant_4, r_X10_determinant_5, r_X10_determinant_8, r_X10_determinant_11, r_X10_determinant_12, r_X10_determinant_15, r_X10_determinant_16, r_X10_determinant_19, r_X10_determinant_22, r_X10_determinant_23, r_X10_determinant_26, r_X10_determinant_29, r_X10_determinant_32, r_X10_determinant_33, r_X10_determinant_34, r_X10_determinant_37, r_X10_determinant_40, gF_0, gF_1, gF_2, gF_3, gF_4, gF_5, gF_6, gF_7, gF_8, gF_9, gF_10, gF_11, gF_12, gF_13, gF_14, gF_15, gF_16, gF_17, pF_0, pF_1, pF_2, pF_3, pF_4, pF_5, pF_6, pF_7, pF_8, pF_9, pF_10, pF_11, pF_12, pF_13, pF_14, pF_15, pF_16, pF_17, gI_of, gL_of, gR_of, sI_of, sL_of, gN_of, gO_of, cl_i, cl_r, cl_l, cl_n, pu_s, pu_n, rV_s, hg_same, hg_ne, if_true, if_false, true_and, and_true, ne_eq, not_false_eq_true, not_true_eq_false, eq_self, reduceCtorEq, Nat.reduceAdd, x0, r1]
    refine x_load xt r1 r2 hp hp2 hn (fun h1 H1 hS1 => ?_)
    have y0 := (hS1.at (b := 1) (by omega)).trans x0
    have y2 : hg h1 2 = some (oB 9 [.int (nI n), .ref 3, .ref 24, .ref 25, .ref 26]) := (hS1.at (b := 2) (by omega)).trans x2
    have y63 := (hS1.at (b := 63) (by omega)).trans r1
    simp (disch := first | omega | assumption) only [r_X10_determinant_0, r_X10_determinant_1, r_X10_determinant_4, r_X10_determinant_5, r_X10_determinant_8, r_X10_determinant_11, r_X10_determinant_12, r_X10_determinant_15, r_X10_determinant_16, r_X10_determinant_19, r_X10_determinant_22, r_X10_determinant_23, r_X10_determinant_26, r_X10_determinant_29, r_X10_determinant_32, r_X10_determinant_33, r_X10_determinant_34, r_X10_determinant_37, r_X10_determinant_40, gF_0, gF_1, gF_2, gF_3, gF_4, gF_5, gF_6, gF_7, gF_8, gF_9, gF_10, gF_11, gF_12, gF_13, gF_14, gF_15, gF_16, gF_17, pF_0, pF_1, pF_2, pF_3, pF_4, pF_5, pF_6, pF_7, pF_8, pF_9, pF_10, pF_11, pF_12, pF_13, pF_14, pF_15, pF_16, pF_17, gI_of, gL_of, gR_of, sI_of, sL_of, gN_of, gO_of, cl_i, cl_r, cl_l, cl_n, pu_s, pu_n, rV_s, hg_same, hg_ne, if_true, if_false, true_and, and_true, ne_eq, not_false_eq_true, not_true_eq_false, eq_self, reduceCtorEq, Nat.reduceAdd, y0, y2, y63]
    refine x_clearBelow y63 H1 hp hp2 hn.2 (by omega) (Nat.le_refl n) (fun a b _ _ => L0_lt hp a b) (fun h2 R1 q1 H2 z63 hS2 => ?_)
    have z0 := (hS2.at (b := 1) (by omega)).trans y0
    simp (disch := first | omega | assumption) only [r_X10_determinant_0, r_X10_determinant_1, r_X10_determinant_4, r_X10_determinant_5, r_X10_determinant_8, r_X10_determinant_11, r_X10_determinant_12, r_X10_determinant_15, r_X10_determinant_16, r_X10_determinant_19, r_X10_determinant_22, r_X10_determinant_23, r_X10_determinant_26, r_X10_determinant_29, r_X10_determinant_32, r_X10_determinant_33, r_X10_determinant_34, r_X10_determinant_37, r_X10_determinant_40, gF_0, gF_1, gF_2, gF_3, gF_4, gF_5, gF_6, gF_7, gF_8, gF_9, gF_10, gF_11, gF_12, gF_13, gF_14, gF_15, gF_16, gF_17, pF_0, pF_1, pF_2, pF_3, pF_4, pF_5, pF_6, pF_7, pF_8, pF_9, pF_10, pF_11, pF_12, pF_13, pF_14, pF_15, pF_16, pF_17, gI_of, gL_of, gR_of, sI_of, sL_of, gN_of, gO_of, cl_i, cl_r, cl_l, cl_n, pu_s, pu_n, rV_s, hg_same, hg_ne, if_true, if_false, true_and, and_true, ne_eq, not_false_eq_true, not_true_eq_false, eq_self, reduceCtorEq, Nat.reduceAdd, z0, z63, rel.2.1]
    have hS := hS1.m63.trans hS2
    exact hX.rests (hS.mono (fun x q => by omega)) (H2.xR (h' := h2) z63 (x9.2.2.2.keep (hS.at (by omega))))
  · obtain ⟨⟨a, b1, c, m0⟩, m1, m2, m3, m4⟩ := id hM
    simp (disch := first | omega | assumption) only [r_X11_determinant_0, r_X11_determinant_1, r_X11_determinant_2, r_X11_determinant_5, r_X11_determinant_6, r_X11_determinant_7, r_X11_determinant_10, r_X11_determinant_13, r_X11_determinant_14, gF_0, gF_1, gF_2, gF_3, gF_4, gF_5, gF_6, gF_7, gF_8, gF_9, gF_10, gF_11, gF_12, gF_13, gF_14, gF_15, gF_16, gF_17, pF_0, pF_1, pF_2, pF_3, pF_4, pF_5, pF_6, pF_7, pF_8, pF_9, pF_10, pF_11, pF_12, pF_13, pF_14, pF_15, pF_16, pF_17, gI_of, gL_of, gR_of, sI_of, sL_of, gN_of, gO_of, cl_i, cl_r, cl_l, cl_n, pu_s, pu_n, rV_s, hg_same, hg_ne, if_true, if_false, true_and, and_true, ne_eq, not_false_eq_true, not_true_eq_false, eq_self, reduceCtorEq, Nat.reduceAdd, m0]
    refine m_lay (z := false) m0 m1 m2 m4.2.2.2.2.2.2.2.2.1 hp hp2 hn (fun h1 H1 hS1 => ?_)
    have y0 := (hS1.at (b := 88) (by omega)).trans m0
    simp (disch := first | omega | assumption) only [r_X11_determinant_0, r_X11_determinant_1, r_X11_determinant_2, r_X11_determinant_5, r_X11_determinant_6, r_X11_determinant_7, r_X11_determinant_10, r_X11_determinant_13, r_X11_determinant_14, gF_0, gF_1, gF_2, gF_3, gF_4, gF_5, gF_6, gF_7, gF_8, gF_9, gF_10, gF_11, gF_12, gF_13, gF_14, gF_15, gF_16, gF_17, pF_0, pF_1, pF_2, pF_3, pF_4, pF_5, pF_6, pF_7, pF_8, pF_9, pF_10, pF_11, pF_12, pF_13, pF_14, pF_15, pF_16, pF_17, gI_of, gL_of, gR_of, sI_of, sL_of, gN_of, gO_of, cl_i, cl_r, cl_l, cl_n, pu_s, pu_n, rV_s, hg_same, hg_ne, if_true, if_false, true_and, and_true, ne_eq, not_false_eq_true, not_true_eq_false, eq_self, reduceCtorEq, Nat.reduceAdd, y0]
    refine m_reduce y0 (H1.less (w' := n) (B := L0 p C) (by omega) (fun i j hi hj => ly_L0 hj)) hp hp2 hn (by omega) (Nat.le_refl n) (fun a b _ _ => L0_lt hp a b) (fun h2 H2 z0 hS2 => ?_)
    simp (disch := first | omega | assumption) only [r_X11_determinant_0, r_X11_determinant_1, r_X11_determinant_2, r_X11_determinant_5, r_X11_determinant_6, r_X11_determinant_7, r_X11_determinant_10, r_X11_determinant_13, r_X11_determinant_14, gF_0, gF_1, gF_2, gF_3, gF_4, gF_5, gF_6, gF_7, gF_8, gF_9, gF_10, gF_11, gF_12, gF_13, gF_14, gF_15, gF_16, gF_17, pF_0, pF_1, pF_2, pF_3, pF_4, pF_5, pF_6, pF_7, pF_8, pF_9, pF_10, pF_11, pF_12, pF_13, pF_14, pF_15, pF_16, pF_17, gI_of, gL_of, gR_of, sI_of, sL_of, gN_of, gO_of, cl_i, cl_r, cl_l, cl_n, pu_s, pu_n, rV_s, hg_same, hg_ne, if_true, if_false, true_and, and_true, ne_eq, not_false_eq_true, not_true_eq_false, eq_self, reduceCtorEq, Nat.reduceAdd, lI_i]
    exact hM.put ((hS1.mono (fun x q => Or.inr q)).trans hS2) z0.mO H2.is
theorem p_rank {s : j_G} (hG : Gd s) : Pr mX10_rank mX11_rank [] [none, none] s := by
  obtain ⟨n, C, b, o, p⟩ := s
  have hn : 1 ≤ n ∧ n ≤ 20 := hG.1
  have hP : isP p := hG.2.2.2.2.2
  have hp := hP.1
  have hp2 := hP.2.1
  have rel := cS_mR (e := 0) (A := L0 p C) (B := L0 p C) hp (Nat.le_refl n) (fun i c hi hc => by rw [cm_lt hc]) n (Nat.le_refl n)
  refine ⟨nI (mR p n (L0 p C) n).2.1, Pv.same hG (fun h hX => ?_) (fun h hM => ?_)⟩
  · obtain ⟨x0, xt, x24, x3, x4, x5, x6, x7, x8, x9, x10⟩ := id hX
    obtain ⟨v, R, q, r1, r2⟩ := xR.work x9
    have x2 : hg h 2 = _ := xt.1
    simp (disch := first | omega | assumption) only [r_X10_rank_0, r_X10_rank_1, r_X10_rank_4, r_X10_rank_5, r_X10_rank_8, r_X10_rank_11, r_X10_rank_12, r_X10_rank_15, r_X10_rank_16, r_X10_rank_19, r_X10_rank_22, r_X10_rank_23, r_X10_rank_26, r_X10_rank_29, r_X10_rank_32, gF_0, gF_1, gF_2, gF_3, gF_4, gF_5, gF_6, gF_7, gF_8, gF_9, gF_10, gF_11, gF_12, gF_13, gF_14, gF_15, gF_16, gF_17, pF_0, pF_1, pF_2, pF_3, pF_4, pF_5, pF_6, pF_7, pF_8, pF_9, pF_10, pF_11, pF_12, pF_13, pF_14, pF_15, pF_16, pF_17, gI_of, gL_of, gR_of, sI_of, sL_of, gN_of, gO_of, cl_i, cl_r, cl_l, cl_n, pu_s, pu_n, rV_s, hg_same, hg_ne, if_true, if_false, true_and, and_true, ne_eq, not_false_eq_true, not_true_eq_false, eq_self, reduceCtorEq, Nat.reduceAdd, x0, r1]
    refine x_load xt r1 r2 hp hp2 hn (fun h1 H1 hS1 => ?_)
    have y0 := (hS1.at (b := 1) (by omega)).trans x0
    have y2 : hg h1 2 = some (oB 9 [.int (nI n), .ref 3, .ref 24, .ref 25, .ref 26]) := (hS1.at (b := 2) (by omega)).trans x2
    have y63 := (hS1.at (b := 63) (by omega)).trans r1
    simp (disch := first | omega | assumption) only [r_X10_rank_0, r_X10_rank_1, r_X10_rank_4, r_X10_rank_5, r_X10_rank_8, r_X10_rank_11, r_X10_rank_12, r_X10_rank_15, r_X10_rank_16, r_X10_rank_19, r_X10_rank_22, r_X10_rank_23, r_X10_rank_26, r_X10_rank_29, r_X10_rank_32, gF_0, gF_1, gF_2, gF_3, gF_4, gF_5, gF_6, gF_7, gF_8, gF_9, gF_10, gF_11, gF_12, gF_13, gF_14, gF_15, gF_16, gF_17, pF_0, pF_1, pF_2, pF_3, pF_4, pF_5, pF_6, pF_7, pF_8, pF_9, pF_10, pF_11, pF_12, pF_13, pF_14, pF_15, pF_16, pF_17, gI_of, gL_of, gR_of, sI_of, sL_of, gN_of, gO_of, cl_i, cl_r, cl_l, cl_n, pu_s, pu_n, rV_s, hg_same, hg_ne, if_true, if_false, true_and, and_true, ne_eq, not_false_eq_true, not_true_eq_false, eq_self, reduceCtorEq, Nat.reduceAdd, y0, y2, y63]
    refine x_clearBelow y63 H1 hp hp2 hn.2 (by omega) (Nat.le_refl n) (fun a b _ _ => L0_lt hp a b) (fun h2 R1 q1 H2 z63 hS2 => ?_)
    simp (disch := first | omega | assumption) only [r_X10_rank_0, r_X10_rank_1, r_X10_rank_4, r_X10_rank_5, r_X10_rank_8, r_X10_rank_11, r_X10_rank_12, r_X10_rank_15, r_X10_rank_16, r_X10_rank_19, r_X10_rank_22, r_X10_rank_23, r_X10_rank_26, r_X10_rank_29, r_X10_rank_32, gF_0, gF_1, gF_2, gF_3, gF_4, gF_5, gF_6, gF_7, gF_8, gF_9, gF_10, gF_11, gF_12, gF_13, gF_14, gF_15, gF_16, gF_17, pF_0, pF_1, pF_2, pF_3, pF_4, pF_5, pF_6, pF_7, pF_8, pF_9, pF_10, pF_11, pF_12, pF_13, pF_14, pF_15, pF_16, pF_17, gI_of, gL_of, gR_of, sI_of, sL_of, gN_of, gO_of, cl_i, cl_r, cl_l, cl_n, pu_s, pu_n, rV_s, hg_same, hg_ne, if_true, if_false, true_and, and_true, ne_eq, not_false_eq_true, not_true_eq_false, eq_self, reduceCtorEq, Nat.reduceAdd, rel.1]
    have hS := hS1.m63.trans hS2
    exact hX.rests (hS.mono (fun x q => by omega)) (H2.xR (h' := h2) z63 (x9.2.2.2.keep (hS.at (by omega))))
  · obtain ⟨⟨a, b1, c, m0⟩, m1, m2, m3, m4⟩ := id hM
    simp (disch := first | omega | assumption) only [r_X11_rank_0, r_X11_rank_1, r_X11_rank_2, r_X11_rank_5, r_X11_rank_6, r_X11_rank_7, r_X11_rank_10, r_X11_rank_13, r_X11_rank_14, r_X11_rank_15, r_X11_rank_18, gF_0, gF_1, gF_2, gF_3, gF_4, gF_5, gF_6, gF_7, gF_8, gF_9, gF_10, gF_11, gF_12, gF_13, gF_14, gF_15, gF_16, gF_17, pF_0, pF_1, pF_2, pF_3, pF_4, pF_5, pF_6, pF_7, pF_8, pF_9, pF_10, pF_11, pF_12, pF_13, pF_14, pF_15, pF_16, pF_17, gI_of, gL_of, gR_of, sI_of, sL_of, gN_of, gO_of, cl_i, cl_r, cl_l, cl_n, pu_s, pu_n, rV_s, hg_same, hg_ne, if_true, if_false, true_and, and_true, ne_eq, not_false_eq_true, not_true_eq_false, eq_self, reduceCtorEq, Nat.reduceAdd, m0]
    refine m_lay (z := false) m0 m1 m2 m4.2.2.2.2.2.2.2.2.1 hp hp2 hn (fun h1 H1 hS1 => ?_)
    have y0 := (hS1.at (b := 88) (by omega)).trans m0
    simp (disch := first | omega | assumption) only [r_X11_rank_0, r_X11_rank_1, r_X11_rank_2, r_X11_rank_5, r_X11_rank_6, r_X11_rank_7, r_X11_rank_10, r_X11_rank_13, r_X11_rank_14, r_X11_rank_15, r_X11_rank_18, gF_0, gF_1, gF_2, gF_3, gF_4, gF_5, gF_6, gF_7, gF_8, gF_9, gF_10, gF_11, gF_12, gF_13, gF_14, gF_15, gF_16, gF_17, pF_0, pF_1, pF_2, pF_3, pF_4, pF_5, pF_6, pF_7, pF_8, pF_9, pF_10, pF_11, pF_12, pF_13, pF_14, pF_15, pF_16, pF_17, gI_of, gL_of, gR_of, sI_of, sL_of, gN_of, gO_of, cl_i, cl_r, cl_l, cl_n, pu_s, pu_n, rV_s, hg_same, hg_ne, if_true, if_false, true_and, and_true, ne_eq, not_false_eq_true, not_true_eq_false, eq_self, reduceCtorEq, Nat.reduceAdd, y0]
    refine m_reduce y0 (H1.less (w' := n) (B := L0 p C) (by omega) (fun i j hi hj => ly_L0 hj)) hp hp2 hn (by omega) (Nat.le_refl n) (fun a b _ _ => L0_lt hp a b) (fun h2 H2 z0 hS2 => ?_)
    have z0' := z0
    unfold oM at z0'
    simp (disch := first | omega | assumption) only [r_X11_rank_0, r_X11_rank_1, r_X11_rank_2, r_X11_rank_5, r_X11_rank_6, r_X11_rank_7, r_X11_rank_10, r_X11_rank_13, r_X11_rank_14, r_X11_rank_15, r_X11_rank_18, gF_0, gF_1, gF_2, gF_3, gF_4, gF_5, gF_6, gF_7, gF_8, gF_9, gF_10, gF_11, gF_12, gF_13, gF_14, gF_15, gF_16, gF_17, pF_0, pF_1, pF_2, pF_3, pF_4, pF_5, pF_6, pF_7, pF_8, pF_9, pF_10, pF_11, pF_12, pF_13, pF_14, pF_15, pF_16, pF_17, gI_of, gL_of, gR_of, sI_of, sL_of, gN_of, gO_of, cl_i, cl_r, cl_l, cl_n, pu_s, pu_n, rV_s, hg_same, hg_ne, if_true, if_false, true_and, and_true, ne_eq, not_false_eq_true, not_true_eq_false, eq_self, reduceCtorEq, Nat.reduceAdd, z0']
    exact hM.put ((hS1.mono (fun x q => Or.inr q)).trans hS2) z0.mO H2.is
