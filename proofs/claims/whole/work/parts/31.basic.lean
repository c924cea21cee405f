theorem vb_vl {v : Int32} (h : vb v = true) : vl v := of_decide_eq_true (p := -99 ≤ v.toInt ∧ v.toInt ≤ 99) h
theorem p_size {s : j_G} (hG : Gd s) (a1 : Int32) : Pr mX10_size mX11_size [some (.int a1), none] [some (.int a1), none] s := by
  obtain ⟨n, C, b, o, p⟩ := s
  have hn : 1 ≤ n ∧ n ≤ 20 := hG.1
  by_cases hr : decide (((1 : Nat) : Int) ≤ a1.toInt ∧ a1.toInt ≤ ((20 : Nat) : Int)) = true
  · have ex : decide (nI 1 ≤ a1 ∧ a1 ≤ nI 20) = true := (x_rng a1 1 20 (by decide) (by decide)).trans hr
    have em : decide (lN 1 ≤ a1.toInt64 ∧ a1.toInt64 ≤ lN 20) = true := (m_rng a1 1 20 (by decide) (by decide)).trans hr
    obtain ⟨j, h1, h2, ej⟩ := rng_of hr
    refine ⟨nI n, (j, fun _ _ => 0, fun _ => 0, fun i => i, p), ?_, fun h hX => ?_, fun h hM => ?_⟩
    · have v0 : vl 0 := by unfold vl; decide +kernel
      exact ⟨⟨h1, h2⟩, fun _ _ _ => rfl, fun _ _ => v0, fun _ => v0, ⟨fun i hi => hi, fun i j _ _ e => e⟩, hG.2.2.2.2.2⟩
    · obtain ⟨x0, xt, x24, x3, x4, x5, x6, x7, x8, x9, x10⟩ := hX
      have x2 := xt.1
      simp (disch := first | omega | assumption) only [r_X10_size_0, r_X10_size_1, r_X10_size_2, r_X10_size_4, r_X10_size_7, r_X10_size_10, r_X10_size_12, r_X10_size_13, r_X10_size_14, r_X10_size_17, r_X10_size_20, r_X10_size_21, r_X10_size_22, r_X10_size_25, r_X10_size_26, r_X10_size_29, r_X10_size_30, r_X10_size_33, r_X10_size_34, r_X10_size_37, r_X10_size_38, gF_0, gF_1, gF_2, gF_3, gF_4, gF_5, gF_6, gF_7, gF_8, gF_9, gF_10, gF_11, gF_12, gF_13, gF_14, gF_15, gF_16, gF_17, pF_0, pF_1, pF_2, pF_3, pF_4, pF_5, pF_6, pF_7, pF_8, pF_9, pF_10, pF_11, pF_12, pF_13, pF_14, pF_15, pF_16, pF_17, gI_of, gL_of, gR_of, sI_of, sL_of, gN_of, gO_of, cl_i, cl_r, cl_l, cl_n, pu_s, pu_n, rV_s, hg_same, hg_ne, if_true, if_false, true_and, and_true, ne_eq, not_false_eq_true, not_true_eq_false, eq_self, reduceCtorEq, Nat.reduceAdd, bI_ne0, bI_eq0, x_isWithin, ex, x0, x2]
      rw [ej]
      refine x_wipe (m := j) xt x24.is (fun w tw w24 sw => ?_)
      have ow := (sw.at (b := 1) (by omega)).trans x0
      have w35 := (sw.at (b := 35) (by omega)).trans x5.1
      obtain ⟨f36, e36, -⟩ := x5.2
      have w36 := (sw.at (b := 36) (by omega)).trans e36
      simp (disch := first | omega | assumption) only [r_X10_size_0, r_X10_size_1, r_X10_size_2, r_X10_size_4, r_X10_size_7, r_X10_size_10, r_X10_size_12, r_X10_size_13, r_X10_size_14, r_X10_size_17, r_X10_size_20, r_X10_size_21, r_X10_size_22, r_X10_size_25, r_X10_size_26, r_X10_size_29, r_X10_size_30, r_X10_size_33, r_X10_size_34, r_X10_size_37, r_X10_size_38, gF_0, gF_1, gF_2, gF_3, gF_4, gF_5, gF_6, gF_7, gF_8, gF_9, gF_10, gF_11, gF_12, gF_13, gF_14, gF_15, gF_16, gF_17, pF_0, pF_1, pF_2, pF_3, pF_4, pF_5, pF_6, pF_7, pF_8, pF_9, pF_10, pF_11, pF_12, pF_13, pF_14, pF_15, pF_16, pF_17, gI_of, gL_of, gR_of, sI_of, sL_of, gN_of, gO_of, cl_i, cl_r, cl_l, cl_n, pu_s, pu_n, rV_s, hg_same, hg_ne, if_true, if_false, true_and, and_true, ne_eq, not_false_eq_true, not_true_eq_false, eq_self, reduceCtorEq, Nat.reduceAdd, ow, w35]
      refine x_setAsTheyAre w35 w36 h2 (fun g hg => ?_)
      simp (disch := first | omega | assumption) only [r_X10_size_0, r_X10_size_1, r_X10_size_2, r_X10_size_4, r_X10_size_7, r_X10_size_10, r_X10_size_12, r_X10_size_13, r_X10_size_14, r_X10_size_17, r_X10_size_20, r_X10_size_21, r_X10_size_22, r_X10_size_25, r_X10_size_26, r_X10_size_29, r_X10_size_30, r_X10_size_33, r_X10_size_34, r_X10_size_37, r_X10_size_38, gF_0, gF_1, gF_2, gF_3, gF_4, gF_5, gF_6, gF_7, gF_8, gF_9, gF_10, gF_11, gF_12, gF_13, gF_14, gF_15, gF_16, gF_17, pF_0, pF_1, pF_2, pF_3, pF_4, pF_5, pF_6, pF_7, pF_8, pF_9, pF_10, pF_11, pF_12, pF_13, pF_14, pF_15, pF_16, pF_17, gI_of, gL_of, gR_of, sI_of, sL_of, gN_of, gO_of, cl_i, cl_r, cl_l, cl_n, pu_s, pu_n, rV_s, hg_same, hg_ne, if_true, if_false, true_and, and_true, ne_eq, not_false_eq_true, not_true_eq_false, eq_self, reduceCtorEq, Nat.reduceAdd]
      have SW : Sm (fun b => b = 36) w (hs w 36 (aI 20 g)) := (Sm.rf _ w).set rfl
      refine ⟨⟨(SW.at (by omega)).trans ow, tw.keep SW (fun b q => by omega), w24.keep (SW.at (by omega)), (x3.keep sw (fun b q => by omega)).keep SW (fun b q => by omega), (x4.keep sw (fun b q => by omega)).keep SW (fun b q => by omega), ⟨(SW.at (by omega)).trans w35, ⟨g, hg_same _ _ _, hg⟩⟩, (x6.keep sw (fun b q => by omega)).keep SW (fun b q => by omega), (x7.keep sw (fun b q => by omega)).keep SW (fun b q => by omega), (x8.keep sw (fun b q => by omega)).keep SW (fun b q => by omega), (x9.keep sw (fun b q => by omega)).keep SW (fun b q => by omega), (x10.keep sw (fun b q => by omega)).keep SW (fun b q => by omega)⟩, ?_⟩
      exact (sw.mono (T := sx) (fun x q => by unfold sx; omega)).trans (SW.mono (T := sx) (fun x q => by unfold sx; omega))
    · obtain ⟨⟨a, b1, c, m0⟩, m1, m2, m3, m4⟩ := id hM
      simp (disch := first | omega | assumption) only [r_X11_size_0, r_X11_size_1, r_X11_size_2, r_X11_size_3, r_X11_size_6, r_X11_size_9, r_X11_size_12, r_X11_size_14, r_X11_size_15, r_X11_size_16, r_X11_size_19, r_X11_size_20, r_X11_size_21, r_X11_size_22, r_X11_size_25, r_X11_size_26, gF_0, gF_1, gF_2, gF_3, gF_4, gF_5, gF_6, gF_7, gF_8, gF_9, gF_10, gF_11, gF_12, gF_13, gF_14, gF_15, gF_16, gF_17, pF_0, pF_1, pF_2, pF_3, pF_4, pF_5, pF_6, pF_7, pF_8, pF_9, pF_10, pF_11, pF_12, pF_13, pF_14, pF_15, pF_16, pF_17, gI_of, gL_of, gR_of, sI_of, sL_of, gN_of, gO_of, cl_i, cl_r, cl_l, cl_n, pu_s, pu_n, rV_s, hg_same, hg_ne, if_true, if_false, true_and, and_true, ne_eq, not_false_eq_true, not_true_eq_false, eq_self, reduceCtorEq, Nat.reduceAdd, bI_ne0, bI_eq0, m_in, em, m0]
      rw [ej]
      obtain ⟨f89, e89, -⟩ := m1
      refine m_begin (n := n) (p := p) ⟨a, b1, c, m0⟩ ⟨f89, e89⟩ m2.is m3.is (fun w w88 w89 w90 w91 sw => ?_)
      simp (disch := first | omega | assumption) only [r_X11_size_0, r_X11_size_1, r_X11_size_2, r_X11_size_3, r_X11_size_6, r_X11_size_9, r_X11_size_12, r_X11_size_14, r_X11_size_15, r_X11_size_16, r_X11_size_19, r_X11_size_20, r_X11_size_21, r_X11_size_22, r_X11_size_25, r_X11_size_26, gF_0, gF_1, gF_2, gF_3, gF_4, gF_5, gF_6, gF_7, gF_8, gF_9, gF_10, gF_11, gF_12, gF_13, gF_14, gF_15, gF_16, gF_17, pF_0, pF_1, pF_2, pF_3, pF_4, pF_5, pF_6, pF_7, pF_8, pF_9, pF_10, pF_11, pF_12, pF_13, pF_14, pF_15, pF_16, pF_17, gI_of, gL_of, gR_of, sI_of, sL_of, gN_of, gO_of, cl_i, cl_r, cl_l, cl_n, pu_s, pu_n, rV_s, hg_same, hg_ne, if_true, if_false, true_and, and_true, ne_eq, not_false_eq_true, not_true_eq_false, eq_self, reduceCtorEq, Nat.reduceAdd]
      refine ⟨⟨w88, w89, w90, ?_, m4.keep sw (fun b q => by omega)⟩, sw.mono (T := sy) (fun x q => by unfold sy; omega)⟩
      obtain ⟨f, p1, p2⟩ := w91
      exact ⟨f, p1, fun i (hi : i < j) => p2 i (by omega)⟩
  · have hr' : decide (((1 : Nat) : Int) ≤ a1.toInt ∧ a1.toInt ≤ ((20 : Nat) : Int)) = false := by simpa using hr
    have ex : decide (nI 1 ≤ a1 ∧ a1 ≤ nI 20) = false := (x_rng a1 1 20 (by decide) (by decide)).trans hr'
    have em : decide (lN 1 ≤ a1.toInt64 ∧ a1.toInt64 ≤ lN 20) = false := (m_rng a1 1 20 (by decide) (by decide)).trans hr'
    refine ⟨-100001, (n, C, b, o, p), hG, fun h hX => ?_, fun h hM => ?_⟩
    · simp (disch := first | omega | assumption) only [r_X10_size_0, r_X10_size_1, r_X10_size_2, r_X10_size_4, r_X10_size_7, r_X10_size_10, r_X10_size_12, r_X10_size_13, r_X10_size_14, r_X10_size_17, r_X10_size_20, r_X10_size_21, r_X10_size_22, r_X10_size_25, r_X10_size_26, r_X10_size_29, r_X10_size_30, r_X10_size_33, r_X10_size_34, r_X10_size_37, r_X10_size_38, gF_0, gF_1, gF_2, gF_3, gF_4, gF_5, gF_6, gF_7, gF_8, gF_9, gF_10, gF_11, gF_12, gF_13, gF_14, gF_15, gF_16, gF_17, pF_0, pF_1, pF_2, pF_3, pF_4, pF_5, pF_6, pF_7, pF_8, pF_9, pF_10, pF_11, pF_12, pF_13, pF_14, pF_15, pF_16, pF_17, gI_of, gL_of, gR_of, sI_of, sL_of, gN_of, gO_of, cl_i, cl_r, cl_l, cl_n, pu_s, pu_n, rV_s, hg_same, hg_ne, if_true, if_false, true_and, and_true, ne_eq, not_false_eq_true, not_true_eq_false, eq_self, reduceCtorEq, Nat.reduceAdd, bI_ne0, bI_eq0, x_isWithin, ex]
      exact ⟨hX, Sm.rf _ h⟩
    · simp (disch := first | omega | assumption) only [r_X11_size_0, r_X11_size_1, r_X11_size_2, r_X11_size_3, r_X11_size_6, r_X11_size_9, r_X11_size_12, r_X11_size_14, r_X11_size_15, r_X11_size_16, r_X11_size_19, r_X11_size_20, r_X11_size_21, r_X11_size_22, r_X11_size_25, r_X11_size_26, gF_0, gF_1, gF_2, gF_3, gF_4, gF_5, gF_6, gF_7, gF_8, gF_9, gF_10, gF_11, gF_12, gF_13, gF_14, gF_15, gF_16, gF_17, pF_0, pF_1, pF_2, pF_3, pF_4, pF_5, pF_6, pF_7, pF_8, pF_9, pF_10, pF_11, pF_12, pF_13, pF_14, pF_15, pF_16, pF_17, gI_of, gL_of, gR_of, sI_of, sL_of, gN_of, gO_of, cl_i, cl_r, cl_l, cl_n, pu_s, pu_n, rV_s, hg_same, hg_ne, if_true, if_false, true_and, and_true, ne_eq, not_false_eq_true, not_true_eq_false, eq_self, reduceCtorEq, Nat.reduceAdd, bI_ne0, bI_eq0, m_in, em]
      exact ⟨hM, Sm.rf _ h⟩

/-- a state is not touched: both refuse, or both only read -/
theorem Pv.same {r : Value} {x m : Nat} {xl ml : List (Option Value)} {s : j_G} (hG : Gd s) (hx : ∀ h, XI h s → WP 500 x 0 (some (.ref 1) :: xl) [] h (fun v h1 => v = some r ∧ XI h1 s ∧ Sm sx h h1)) (hm : ∀ h, MI h s → WP 500 m 0 (some (.ref 88) :: ml) [] h (fun v h1 => v = some r ∧ MI h1 s ∧ Sm sy h h1)) : Pv r x m xl ml s := ⟨s, hG, hx, hm⟩
theorem xT.cell {h : j_H} {n i : Nat} {C : Nat → Nat → Int32} (hT : xT h n C) (hi : i < 20) : ∃ R f, hg h 3 = some (aR 20 R) ∧ R i = some (4 + i) ∧ hg h (4 + i) = some (aI 20 f) ∧ ∀ j, j < 20 → f j = C i j := by
  obtain ⟨h1, ⟨R, h2, h3⟩, h4, -, -⟩ := hT
  obtain ⟨f, h5, h6⟩ := h4 i hi
  exact ⟨R, f, h2, h3 i hi, h5, h6⟩
theorem p_cell {s : j_G} (hG : Gd s) (a1 a2 : Int32) : Pr mX10_cell mX11_cell [some (.int a1), some (.int a2)] [some (.int a1), some (.int a2)] s := by
  obtain ⟨n, C, b, o, p⟩ := s
  have hn : 1 ≤ n ∧ n ≤ 20 := hG.1
  cases r1 : rw_ a1 n with
  | false =>
    refine ⟨-100001, Pv.same hG (fun h hX => ?_) (fun h hM => ?_)⟩
    · have x0 := hX.1
      have x2 := hX.2.1.1
      simp (disch := first | omega | assumption) only [r_X10_cell_0, r_X10_cell_1, r_X10_cell_2, r_X10_cell_5, r_X10_cell_8, r_X10_cell_9, r_X10_cell_10, r_X10_cell_13, r_X10_cell_16, r_X10_cell_18, r_X10_cell_19, r_X10_cell_20, r_X10_cell_23, r_X10_cell_26, r_X10_cell_27, r_X10_cell_28, r_X10_cell_29, r_X10_cell_30, gF_0, gF_1, gF_2, gF_3, gF_4, gF_5, gF_6, gF_7, gF_8, gF_9, gF_10, gF_11, gF_12, gF_13, gF_14, gF_15, gF_16, gF_17, pF_0, pF_1, pF_2, pF_3, pF_4, pF_5, pF_6, pF_7, pF_8, pF_9, pF_10, pF_11, pF_12, pF_13, pF_14, pF_15, pF_16, pF_17, gI_of, gL_of, gR_of, sI_of, sL_of, gN_of, gO_of, cl_i, cl_r, cl_l, cl_n, pu_s, pu_n, rV_s, hg_same, hg_ne, if_true, if_false, true_and, and_true, ne_eq, not_false_eq_true, not_true_eq_false, eq_self, reduceCtorEq, Nat.reduceAdd, bI_ne0, bI_eq0, x_isRow x0 x2 hn, x0, r1]
      exact ⟨hX, Sm.rf _ h⟩
    · obtain ⟨a, b1, c, m0⟩ := id hM.1
      simp (disch := first | omega | assumption) only [r_X11_cell_0, r_X11_cell_1, r_X11_cell_2, r_X11_cell_5, r_X11_cell_8, r_X11_cell_9, r_X11_cell_10, r_X11_cell_13, r_X11_cell_16, r_X11_cell_17, r_X11_cell_20, r_X11_cell_22, r_X11_cell_23, r_X11_cell_24, r_X11_cell_25, r_X11_cell_26, r_X11_cell_27, r_X11_cell_30, r_X11_cell_32, gF_0, gF_1, gF_2, gF_3, gF_4, gF_5, gF_6, gF_7, gF_8, gF_9, gF_10, gF_11, gF_12, gF_13, gF_14, gF_15, gF_16, gF_17, pF_0, pF_1, pF_2, pF_3, pF_4, pF_5, pF_6, pF_7, pF_8, pF_9, pF_10, pF_11, pF_12, pF_13, pF_14, pF_15, pF_16, pF_17, gI_of, gL_of, gR_of, sI_of, sL_of, gN_of, gO_of, cl_i, cl_r, cl_l, cl_n, pu_s, pu_n, rV_s, hg_same, hg_ne, if_true, if_false, true_and, and_true, ne_eq, not_false_eq_true, not_true_eq_false, eq_self, reduceCtorEq, Nat.reduceAdd, bI_ne0, bI_eq0, m_is hM.1 hn, m0, r1]
      exact ⟨hM, Sm.rf _ h⟩
  | true =>
    cases r2 : rw_ a2 n with
    | false =>
      refine ⟨-100001, Pv.same hG (fun h hX => ?_) (fun h hM => ?_)⟩
      · have x0 := hX.1
        have x2 := hX.2.1.1
        simp (disch := first | omega | assumption) only [r_X10_cell_0, r_X10_cell_1, r_X10_cell_2, r_X10_cell_5, r_X10_cell_8, r_X10_cell_9, r_X10_cell_10, r_X10_cell_13, r_X10_cell_16, r_X10_cell_18, r_X10_cell_19, r_X10_cell_20, r_X10_cell_23, r_X10_cell_26, r_X10_cell_27, r_X10_cell_28, r_X10_cell_29, r_X10_cell_30, gF_0, gF_1, gF_2, gF_3, gF_4, gF_5, gF_6, gF_7, gF_8, gF_9, gF_10, gF_11, gF_12, gF_13, gF_14, gF_15, gF_16, gF_17, pF_0, pF_1, pF_2, pF_3, pF_4, pF_5, pF_6, pF_7, pF_8, pF_9, pF_10, pF_11, pF_12, pF_13, pF_14, pF_15, pF_16, pF_17, gI_of, gL_of, gR_of, sI_of, sL_of, gN_of, gO_of, cl_i, cl_r, cl_l, cl_n, pu_s, pu_n, rV_s, hg_same, hg_ne, if_true, if_false, true_and, and_true, ne_eq, not_false_eq_true, not_true_eq_false, eq_self, reduceCtorEq, Nat.reduceAdd, bI_ne0, bI_eq0, x_isRow x0 x2 hn, x0, r1, r2]
        exact ⟨hX, Sm.rf _ h⟩
      · obtain ⟨a, b1, c, m0⟩ := id hM.1
        simp (disch := first | omega | assumption) only [r_X11_cell_0, r_X11_cell_1, r_X11_cell_2, r_X11_cell_5, r_X11_cell_8, r_X11_cell_9, r_X11_cell_10, r_X11_cell_13, r_X11_cell_16, r_X11_cell_17, r_X11_cell_20, r_X11_cell_22, r_X11_cell_23, r_X11_cell_24, r_X11_cell_25, r_X11_cell_26, r_X11_cell_27, r_X11_cell_30, r_X11_cell_32, gF_0, gF_1, gF_2, gF_3, gF_4, gF_5, gF_6, gF_7, gF_8, gF_9, gF_10, gF_11, gF_12, gF_13, gF_14, gF_15, gF_16, gF_17, pF_0, pF_1, pF_2, pF_3, pF_4, pF_5, pF_6, pF_7, pF_8, pF_9, pF_10, pF_11, pF_12, pF_13, pF_14, pF_15, pF_16, pF_17, gI_of, gL_of, gR_of, sI_of, sL_of, gN_of, gO_of, cl_i, cl_r, cl_l, cl_n, pu_s, pu_n, rV_s, hg_same, hg_ne, if_true, if_false, true_and, and_true, ne_eq, not_false_eq_true, not_true_eq_false, eq_self, reduceCtorEq, Nat.reduceAdd, bI_ne0, bI_eq0, m_is hM.1 hn, m0, r1, r2]
        exact ⟨hM, Sm.rf _ h⟩
    | true =>
      obtain ⟨i, hi, ei⟩ := rw_of hn.2 r1
      obtain ⟨j, hj, ej⟩ := rw_of hn.2 r2
      refine ⟨C i j, Pv.same hG (fun h hX => ?_) (fun h hM => ?_)⟩
      · have x0 := hX.1
        have x2 : hg h 2 = _ := hX.2.1.1
        obtain ⟨R, f, q1, q2, q3, q4⟩ := hX.2.1.cell (i := i) (by omega)
        have q5 : f j = C i j := q4 j (by omega)
        simp (disch := first | omega | assumption) only [r_X10_cell_0, r_X10_cell_1, r_X10_cell_2, r_X10_cell_5, r_X10_cell_8, r_X10_cell_9, r_X10_cell_10, r_X10_cell_13, r_X10_cell_16, r_X10_cell_18, r_X10_cell_19, r_X10_cell_20, r_X10_cell_23, r_X10_cell_26, r_X10_cell_27, r_X10_cell_28, r_X10_cell_29, r_X10_cell_30, gF_0, gF_1, gF_2, gF_3, gF_4, gF_5, gF_6, gF_7, gF_8, gF_9, gF_10, gF_11, gF_12, gF_13, gF_14, gF_15, gF_16, gF_17, pF_0, pF_1, pF_2, pF_3, pF_4, pF_5, pF_6, pF_7, pF_8, pF_9, pF_10, pF_11, pF_12, pF_13, pF_14, pF_15, pF_16, pF_17, gI_of, gL_of, gR_of, sI_of, sL_of, gN_of, gO_of, cl_i, cl_r, cl_l, cl_n, pu_s, pu_n, rV_s, hg_same, hg_ne, if_true, if_false, true_and, and_true, ne_eq, not_false_eq_true, not_true_eq_false, eq_self, reduceCtorEq, Nat.reduceAdd, bI_ne0, bI_eq0, x_isRow x0 x2 hn, x0, x2, r1, r2]
        rw [ei, ej]
        simp (disch := first | omega | assumption) only [r_X10_cell_0, r_X10_cell_1, r_X10_cell_2, r_X10_cell_5, r_X10_cell_8, r_X10_cell_9, r_X10_cell_10, r_X10_cell_13, r_X10_cell_16, r_X10_cell_18, r_X10_cell_19, r_X10_cell_20, r_X10_cell_23, r_X10_cell_26, r_X10_cell_27, r_X10_cell_28, r_X10_cell_29, r_X10_cell_30, gF_0, gF_1, gF_2, gF_3, gF_4, gF_5, gF_6, gF_7, gF_8, gF_9, gF_10, gF_11, gF_12, gF_13, gF_14, gF_15, gF_16, gF_17, pF_0, pF_1, pF_2, pF_3, pF_4, pF_5, pF_6, pF_7, pF_8, pF_9, pF_10, pF_11, pF_12, pF_13, pF_14, pF_15, pF_16, pF_17, gI_of, gL_of, gR_of, sI_of, sL_of, gN_of, gO_of, cl_i, cl_r, cl_l, cl_n, pu_s, pu_n, rV_s, hg_same, hg_ne, if_true, if_false, true_and, and_true, ne_eq, not_false_eq_true, not_true_eq_false, eq_self, reduceCtorEq, Nat.reduceAdd, q1, q2, q3, q5]
        exact ⟨hX, Sm.rf _ h⟩
      · obtain ⟨a, b1, c, m0⟩ := id hM.1
        obtain ⟨f, q1, q2⟩ := hM.2.1
        have q5 : f (20 * i + j) = C i j := q2 i j (by omega) (by omega)
        simp (disch := first | omega | assumption) only [r_X11_cell_0, r_X11_cell_1, r_X11_cell_2, r_X11_cell_5, r_X11_cell_8, r_X11_cell_9, r_X11_cell_10, r_X11_cell_13, r_X11_cell_16, r_X11_cell_17, r_X11_cell_20, r_X11_cell_22, r_X11_cell_23, r_X11_cell_24, r_X11_cell_25, r_X11_cell_26, r_X11_cell_27, r_X11_cell_30, r_X11_cell_32, gF_0, gF_1, gF_2, gF_3, gF_4, gF_5, gF_6, gF_7, gF_8, gF_9, gF_10, gF_11, gF_12, gF_13, gF_14, gF_15, gF_16, gF_17, pF_0, pF_1, pF_2, pF_3, pF_4, pF_5, pF_6, pF_7, pF_8, pF_9, pF_10, pF_11, pF_12, pF_13, pF_14, pF_15, pF_16, pF_17, gI_of, gL_of, gR_of, sI_of, sL_of, gN_of, gO_of, cl_i, cl_r, cl_l, cl_n, pu_s, pu_n, rV_s, hg_same, hg_ne, if_true, if_false, true_and, and_true, ne_eq, not_false_eq_true, not_true_eq_false, eq_self, reduceCtorEq, Nat.reduceAdd, bI_ne0, bI_eq0, m_is hM.1 hn, m0, r1, r2]
        rw [ei, ej]
        simp (disch := first | omega | assumption) only [r_X11_cell_0, r_X11_cell_1, r_X11_cell_2, r_X11_cell_5, r_X11_cell_8, r_X11_cell_9, r_X11_cell_10, r_X11_cell_13, r_X11_cell_16, r_X11_cell_17, r_X11_cell_20, r_X11_cell_22, r_X11_cell_23, r_X11_cell_24, r_X11_cell_25, r_X11_cell_26, r_X11_cell_27, r_X11_cell_30, r_X11_cell_32, gF_0, gF_1, gF_2, gF_3, gF_4, gF_5, gF_6, gF_7, gF_8, gF_9, gF_10, gF_11, gF_12, gF_13, gF_14, gF_15, gF_16, gF_17, pF_0, pF_1, pF_2, pF_3, pF_4, pF_5, pF_6, pF_7, pF_8, pF_9, pF_10, pF_11, pF_12, pF_13, pF_14, pF_15, pF_16, pF_17, gI_of, gL_of, gR_of, sI_of, sL_of, gN_of, gO_of, cl_i, cl_r, cl_l, cl_n, pu_s, pu_n, rV_s, hg_same, hg_ne, if_true, if_false, true_and, and_true, ne_eq, not_false_eq_true, not_true_eq_false, eq_self, reduceCtorEq, Nat.reduceAdd, n_mul, nI_add, q1, q5]
        exact ⟨hM, Sm.rf _ h⟩
theorem p_set {s : j_G} (hG : Gd s) (a1 a2 a3 : Int32) : Pr mX10_set mX11_set [some (.int a1), some (.int a2), some (.int a3), none] [some (.int a1), some (.int a2), some (.int a3), none] s := by
  obtain ⟨n, C, b, o, p⟩ := s
  have hn : 1 ≤ n ∧ n ≤ 20 := hG.1
  have bad : (rw_ a1 n && rw_ a2 n && vb a3) = false → Pr mX10_set mX11_set [some (.int a1), some (.int a2), some (.int a3), none] [some (.int a1), some (.int a2), some (.int a3), none] (n, C, b, o, p) := by
    intro hb
    refine ⟨-100001, Pv.same hG (fun h hX => ?_) (fun h hM => ?_)⟩
    · have x0 := hX.1
      have x2 := hX.2.1.1
      cases r1 : rw_ a1 n <;> cases r2 : rw_ a2 n <;> cases r3 : vb a3 <;> simp only [r1, r2, r3, Bool.and_self, Bool.and_false, Bool.false_and, Bool.and_true, Bool.true_and, reduceCtorEq] at hb <;>
      (simp (disch := first | omega | assumption) only [r_X10_set_0, r_X10_set_1, r_X10_set_2, r_X10_set_5, r_X10_set_8, r_X10_set_9, r_X10_set_10, r_X10_set_13, r_X10_set_16, r_X10_set_17, r_X10_set_20, r_X10_set_23, r_X10_set_25, r_X10_set_26, r_X10_set_27, r_X10_set_30, r_X10_set_33, r_X10_set_34, r_X10_set_35, r_X10_set_36, r_X10_set_37, r_X10_set_39, r_X10_set_40, r_X10_set_43, r_X10_set_44, r_X10_set_45, r_X10_set_46, r_X10_set_49, r_X10_set_51, gF_0, gF_1, gF_2, gF_3, gF_4, gF_5, gF_6, gF_7, gF_8, gF_9, gF_10, gF_11, gF_12, gF_13, gF_14, gF_15, gF_16, gF_17, pF_0, pF_1, pF_2, pF_3, pF_4, pF_5, pF_6, pF_7, pF_8, pF_9, pF_10, pF_11, pF_12, pF_13, pF_14, pF_15, pF_16, pF_17, gI_of, gL_of, gR_of, sI_of, sL_of, gN_of, gO_of, cl_i, cl_r, cl_l, cl_n, pu_s, pu_n, rV_s, hg_same, hg_ne, if_true, if_false, true_and, and_true, ne_eq, not_false_eq_true, not_true_eq_false, eq_self, reduceCtorEq, Nat.reduceAdd, bI_ne0, bI_eq0, x_isRow x0 x2 hn, x_isValue, x0, r1, r2, r3]; exact ⟨hX, Sm.rf _ h⟩)
    · obtain ⟨a, b1, c, m0⟩ := id hM.1
      cases r1 : rw_ a1 n <;> cases r2 : rw_ a2 n <;> cases r3 : vb a3 <;> simp only [r1, r2, r3, Bool.and_self, Bool.and_false, Bool.false_and, Bool.and_true, Bool.true_and, reduceCtorEq] at hb <;>
      (simp (disch := first | omega | assumption) only [r_X11_set_0, r_X11_set_1, r_X11_set_2, r_X11_set_5, r_X11_set_8, r_X11_set_9, r_X11_set_10, r_X11_set_13, r_X11_set_16, r_X11_set_17, r_X11_set_18, r_X11_set_21, r_X11_set_24, r_X11_set_27, r_X11_set_30, r_X11_set_32, r_X11_set_33, r_X11_set_34, r_X11_set_37, r_X11_set_39, r_X11_set_40, r_X11_set_41, r_X11_set_42, r_X11_set_43, r_X11_set_44, r_X11_set_46, r_X11_set_47, r_X11_set_50, r_X11_set_52, r_X11_set_53, r_X11_set_54, r_X11_set_55, r_X11_set_56, r_X11_set_57, r_X11_set_58, r_X11_set_60, gF_0, gF_1, gF_2, gF_3, gF_4, gF_5, gF_6, gF_7, gF_8, gF_9, gF_10, gF_11, gF_12, gF_13, gF_14, gF_15, gF_16, gF_17, pF_0, pF_1, pF_2, pF_3, pF_4, pF_5, pF_6, pF_7, pF_8, pF_9, pF_10, pF_11, pF_12, pF_13, pF_14, pF_15, pF_16, pF_17, gI_of, gL_of, gR_of, sI_of, sL_of, gN_of, gO_of, cl_i, cl_r, cl_l, cl_n, pu_s, pu_n, rV_s, hg_same, hg_ne, if_true, if_false, true_and, and_true, ne_eq, not_false_eq_true, not_true_eq_false, eq_self, reduceCtorEq, Nat.reduceAdd, bI_ne0, bI_eq0, m_is hM.1 hn, m_in, m_val, m0, r1, r2, r3]; exact ⟨hM, Sm.rf _ h⟩)
  cases hb : (rw_ a1 n && rw_ a2 n && vb a3) with
  | false => exact bad hb
  | true =>
    simp only [Bool.and_eq_true] at hb
    obtain ⟨⟨r1, r2⟩, r3⟩ := hb
    obtain ⟨i, hi, ei⟩ := rw_of hn.2 r1
    obtain ⟨j, hj, ej⟩ := rw_of hn.2 r2
    refine ⟨C i j, (n, u2 C i j a3, b, o, p), ?_, fun h hX => ?_, fun h hM => ?_⟩
    · obtain ⟨g1, g2, g3, g4, g5, g6⟩ := hG
      refine ⟨g1, fun x y hxy => ?_, fun x y => ?_, g4, g5, g6⟩
      · have hxy : n ≤ x ∨ n ≤ y := hxy
        show (if x = i ∧ y = j then a3 else C x y) = 0
        rw [if_neg (by omega)]
        exact g2 x y hxy
      · show vl (if x = i ∧ y = j then a3 else C x y)
        split
        · exact vb_vl r3
        · exact g3 x y
    · obtain ⟨x0, xt, x24, x3, x4, x5, x6, x7, x8, x9, x10⟩ := id hX
      have x2 : hg h 2 = _ := xt.1
      obtain ⟨R, f, q1, q2, q3, q4⟩ := xt.cell (i := i) (by omega)
      have q5 : f j = C i j := q4 j (by omega)
      simp (disch := first | omega | assumption) only [r_X10_set_0, r_X10_set_1, r_X10_set_2, r_X10_set_5, r_X10_set_8, r_X10_set_9, r_X10_set_10, r_X10_set_13, r_X10_set_16, r_X10_set_17, r_X10_set_20, r_X10_set_23, r_X10_set_25, r_X10_set_26, r_X10_set_27, r_X10_set_30, r_X10_set_33, r_X10_set_34, r_X10_set_35, r_X10_set_36, r_X10_set_37, r_X10_set_39, r_X10_set_40, r_X10_set_43, r_X10_set_44, r_X10_set_45, r_X10_set_46, r_X10_set_49, r_X10_set_51, gF_0, gF_1, gF_2, gF_3, gF_4, gF_5, gF_6, gF_7, gF_8, gF_9, gF_10, gF_11, gF_12, gF_13, gF_14, gF_15, gF_16, gF_17, pF_0, pF_1, pF_2, pF_3, pF_4, pF_5, pF_6, pF_7, pF_8, pF_9, pF_10, pF_11, pF_12, pF_13, pF_14, pF_15, pF_16, pF_17, gI_of, gL_of, gR_of, sI_of, sL_of, gN_of, gO_of, cl_i, cl_r, cl_l, cl_n, pu_s, pu_n, rV_s, hg_same, hg_ne, if_true, if_false, true_and, and_true, ne_eq, not_false_eq_true, not_true_eq_false, eq_self, reduceCtorEq, Nat.reduceAdd, bI_ne0, bI_eq0, x_isRow x0 x2 hn, x_isValue, x0, x2, r1, r2, r3]
      rw [ei, ej]
      simp (disch := first | omega | assumption) only [r_X10_set_0, r_X10_set_1, r_X10_set_2, r_X10_set_5, r_X10_set_8, r_X10_set_9, r_X10_set_10, r_X10_set_13, r_X10_set_16, r_X10_set_17, r_X10_set_20, r_X10_set_23, r_X10_set_25, r_X10_set_26, r_X10_set_27, r_X10_set_30, r_X10_set_33, r_X10_set_34, r_X10_set_35, r_X10_set_36, r_X10_set_37, r_X10_set_39, r_X10_set_40, r_X10_set_43, r_X10_set_44, r_X10_set_45, r_X10_set_46, r_X10_set_49, r_X10_set_51, gF_0, gF_1, gF_2, gF_3, gF_4, gF_5, gF_6, gF_7, gF_8, gF_9, gF_10, gF_11, gF_12, gF_13, gF_14, gF_15, gF_16, gF_17, pF_0, pF_1, pF_2, pF_3, pF_4, pF_5, pF_6, pF_7, pF_8, pF_9, pF_10, pF_11, pF_12, pF_13, pF_14, pF_15, pF_16, pF_17, gI_of, gL_of, gR_of, sI_of, sL_of, gN_of, gO_of, cl_i, cl_r, cl_l, cl_n, pu_s, pu_n, rV_s, hg_same, hg_ne, if_true, if_false, true_and, and_true, ne_eq, not_false_eq_true, not_true_eq_false, eq_self, reduceCtorEq, Nat.reduceAdd, x0, x2, q1, q2, q3, q5]
      refine x_put xt (by omega) (by omega) (fun w tw sw => ?_)
      simp (disch := first | omega | assumption) only [r_X10_set_0, r_X10_set_1, r_X10_set_2, r_X10_set_5, r_X10_set_8, r_X10_set_9, r_X10_set_10, r_X10_set_13, r_X10_set_16, r_X10_set_17, r_X10_set_20, r_X10_set_23, r_X10_set_25, r_X10_set_26, r_X10_set_27, r_X10_set_30, r_X10_set_33, r_X10_set_34, r_X10_set_35, r_X10_set_36, r_X10_set_37, r_X10_set_39, r_X10_set_40, r_X10_set_43, r_X10_set_44, r_X10_set_45, r_X10_set_46, r_X10_set_49, r_X10_set_51, gF_0, gF_1, gF_2, gF_3, gF_4, gF_5, gF_6, gF_7, gF_8, gF_9, gF_10, gF_11, gF_12, gF_13, gF_14, gF_15, gF_16, gF_17, pF_0, pF_1, pF_2, pF_3, pF_4, pF_5, pF_6, pF_7, pF_8, pF_9, pF_10, pF_11, pF_12, pF_13, pF_14, pF_15, pF_16, pF_17, gI_of, gL_of, gR_of, sI_of, sL_of, gN_of, gO_of, cl_i, cl_r, cl_l, cl_n, pu_s, pu_n, rV_s, hg_same, hg_ne, if_true, if_false, true_and, and_true, ne_eq, not_false_eq_true, not_true_eq_false, eq_self, reduceCtorEq, Nat.reduceAdd]
      exact ⟨⟨(sw.at (by omega)).trans x0, tw, x24.keep (sw.at (by omega)), x3.keep sw (fun b q => by omega), x4.keep sw (fun b q => by omega), x5.keep sw (fun b q => by omega), x6.keep sw (fun b q => by omega), x7.keep sw (fun b q => by omega), x8.keep sw (fun b q => by omega), x9.keep sw (fun b q => by omega), x10.keep sw (fun b q => by omega)⟩, sw.mono (T := sx) (fun x q => by unfold sx; omega)⟩
    · obtain ⟨⟨a, b1, c, m0⟩, ⟨f, q1, q2⟩, m2, m3, m4⟩ := id hM
      have q5 : f (20 * i + j) = C i j := q2 i j (by omega) (by omega)
      simp (disch := first | omega | assumption) only [r_X11_set_0, r_X11_set_1, r_X11_set_2, r_X11_set_5, r_X11_set_8, r_X11_set_9, r_X11_set_10, r_X11_set_13, r_X11_set_16, r_X11_set_17, r_X11_set_18, r_X11_set_21, r_X11_set_24, r_X11_set_27, r_X11_set_30, r_X11_set_32, r_X11_set_33, r_X11_set_34, r_X11_set_37, r_X11_set_39, r_X11_set_40, r_X11_set_41, r_X11_set_42, r_X11_set_43, r_X11_set_44, r_X11_set_46, r_X11_set_47, r_X11_set_50, r_X11_set_52, r_X11_set_53, r_X11_set_54, r_X11_set_55, r_X11_set_56, r_X11_set_57, r_X11_set_58, r_X11_set_60, gF_0, gF_1, gF_2, gF_3, gF_4, gF_5, gF_6, gF_7, gF_8, gF_9, gF_10, gF_11, gF_12, gF_13, gF_14, gF_15, gF_16, gF_17, pF_0, pF_1, pF_2, pF_3, pF_4, pF_5, pF_6, pF_7, pF_8, pF_9, pF_10, pF_11, pF_12, pF_13, pF_14, pF_15, pF_16, pF_17, gI_of, gL_of, gR_of, sI_of, sL_of, gN_of, gO_of, cl_i, cl_r, cl_l, cl_n, pu_s, pu_n, rV_s, hg_same, hg_ne, if_true, if_false, true_and, and_true, ne_eq, not_false_eq_true, not_true_eq_false, eq_self, reduceCtorEq, Nat.reduceAdd, bI_ne0, bI_eq0, m_is hM.1 hn, m_in, m_val, m0, r1, r2, r3]
      rw [ei, ej]
      simp (disch := first | omega | assumption) only [r_X11_set_0, r_X11_set_1, r_X11_set_2, r_X11_set_5, r_X11_set_8, r_X11_set_9, r_X11_set_10, r_X11_set_13, r_X11_set_16, r_X11_set_17, r_X11_set_18, r_X11_set_21, r_X11_set_24, r_X11_set_27, r_X11_set_30, r_X11_set_32, r_X11_set_33, r_X11_set_34, r_X11_set_37, r_X11_set_39, r_X11_set_40, r_X11_set_41, r_X11_set_42, r_X11_set_43, r_X11_set_44, r_X11_set_46, r_X11_set_47, r_X11_set_50, r_X11_set_52, r_X11_set_53, r_X11_set_54, r_X11_set_55, r_X11_set_56, r_X11_set_57, r_X11_set_58, r_X11_set_60, gF_0, gF_1, gF_2, gF_3, gF_4, gF_5, gF_6, gF_7, gF_8, gF_9, gF_10, gF_11, gF_12, gF_13, gF_14, gF_15, gF_16, gF_17, pF_0, pF_1, pF_2, pF_3, pF_4, pF_5, pF_6, pF_7, pF_8, pF_9, pF_10, pF_11, pF_12, pF_13, pF_14, pF_15, pF_16, pF_17, gI_of, gL_of, gR_of, sI_of, sL_of, gN_of, gO_of, cl_i, cl_r, cl_l, cl_n, pu_s, pu_n, rV_s, hg_same, hg_ne, if_true, if_false, true_and, and_true, ne_eq, not_false_eq_true, not_true_eq_false, eq_self, reduceCtorEq, Nat.reduceAdd, n_mul, nI_add, m0, q1, q5]
      have SW : Sm (fun b => b = 89) h (hs h 89 (aI 400 (up f (20 * i + j) a3))) := (Sm.rf _ h).set rfl
      refine ⟨⟨⟨a, b1, c, (SW.at (by omega)).trans m0⟩, ⟨_, hg_same _ _ _, fun x y hx hy => ?_⟩, m2.keep (SW.at (by omega)), m3.keep (SW.at (by omega)), m4.keep SW (fun b q => by omega)⟩, SW.mono (T := sy) (fun x q => by unfold sy; omega)⟩
      show up f (20 * i + j) a3 (20 * x + y) = (if x = i ∧ y = j then a3 else C x y)
      unfold up
      by_cases e : x = i ∧ y = j
      · rw [if_pos (by omega), if_pos e]
      · rw [if_neg (by omega), if_neg e]; exact q2 x y hx hy
theorem p_side {s : j_G} (hG : Gd s) (a1 a2 : Int32) : Pr mX10_side mX11_side [some (.int a1), some (.int a2), none] [some (.int a1), some (.int a2), none] s := by
  obtain ⟨n, C, b, o, p⟩ := s
  have hn : 1 ≤ n ∧ n ≤ 20 := hG.1
  cases r1 : rw_ a1 n with
  | false =>
    refine ⟨-100001, Pv.same hG (fun h hX => ?_) (fun h hM => ?_)⟩
    · have x0 := hX.1
      have x2 := hX.2.1.1
      simp (disch := first | omega | assumption) only [r_X10_side_0, r_X10_side_1, r_X10_side_2, r_X10_side_5, r_X10_side_8, r_X10_side_9, r_X10_side_12, r_X10_side_15, r_X10_side_17, r_X10_side_18, r_X10_side_19, r_X10_side_22, r_X10_side_25, r_X10_side_26, r_X10_side_27, r_X10_side_28, r_X10_side_29, r_X10_side_32, r_X10_side_35, r_X10_side_36, r_X10_side_37, r_X10_side_38, r_X10_side_39, gF_0, gF_1, gF_2, gF_3, gF_4, gF_5, gF_6, gF_7, gF_8, gF_9, gF_10, gF_11, gF_12, gF_13, gF_14, gF_15, gF_16, gF_17, pF_0, pF_1, pF_2, pF_3, pF_4, pF_5, pF_6, pF_7, pF_8, pF_9, pF_10, pF_11, pF_12, pF_13, pF_14, pF_15, pF_16, pF_17, gI_of, gL_of, gR_of, sI_of, sL_of, gN_of, gO_of, cl_i, cl_r, cl_l, cl_n, pu_s, pu_n, rV_s, hg_same, hg_ne, if_true, if_false, true_and, and_true, ne_eq, not_false_eq_true, not_true_eq_false, eq_self, reduceCtorEq, Nat.reduceAdd, bI_ne0, bI_eq0, x_isRow x0 x2 hn, x0, r1]
      exact ⟨hX, Sm.rf _ h⟩
    · obtain ⟨a, b1, c, m0⟩ := id hM.1
      simp (disch := first | omega | assumption) only [r_X11_side_0, r_X11_side_1, r_X11_side_2, r_X11_side_5, r_X11_side_8, r_X11_side_9, r_X11_side_10, r_X11_side_13, r_X11_side_16, r_X11_side_19, r_X11_side_22, r_X11_side_24, r_X11_side_25, r_X11_side_26, r_X11_side_29, r_X11_side_30, r_X11_side_31, r_X11_side_32, r_X11_side_33, r_X11_side_36, r_X11_side_37, r_X11_side_38, r_X11_side_39, r_X11_side_40, gF_0, gF_1, gF_2, gF_3, gF_4, gF_5, gF_6, gF_7, gF_8, gF_9, gF_10, gF_11, gF_12, gF_13, gF_14, gF_15, gF_16, gF_17, pF_0, pF_1, pF_2, pF_3, pF_4, pF_5, pF_6, pF_7, pF_8, pF_9, pF_10, pF_11, pF_12, pF_13, pF_14, pF_15, pF_16, pF_17, gI_of, gL_of, gR_of, sI_of, sL_of, gN_of, gO_of, cl_i, cl_r, cl_l, cl_n, pu_s, pu_n, rV_s, hg_same, hg_ne, if_true, if_false, true_and, and_true, ne_eq, not_false_eq_true, not_true_eq_false, eq_self, reduceCtorEq, Nat.reduceAdd, bI_ne0, bI_eq0, m_is hM.1 hn, m0, r1]
      exact ⟨hM, Sm.rf _ h⟩
  | true =>
    cases r2 : vb a2 with
    | false =>
      refine ⟨-100001, Pv.same hG (fun h hX => ?_) (fun h hM => ?_)⟩
      · have x0 := hX.1
        have x2 := hX.2.1.1
        simp (disch := first | omega | assumption) only [r_X10_side_0, r_X10_side_1, r_X10_side_2, r_X10_side_5, r_X10_side_8, r_X10_side_9, r_X10_side_12, r_X10_side_15, r_X10_side_17, r_X10_side_18, r_X10_side_19, r_X10_side_22, r_X10_side_25, r_X10_side_26, r_X10_side_27, r_X10_side_28, r_X10_side_29, r_X10_side_32, r_X10_side_35, r_X10_side_36, r_X10_side_37, r_X10_side_38, r_X10_side_39, gF_0, gF_1, gF_2, gF_3, gF_4, gF_5, gF_6, gF_7, gF_8, gF_9, gF_10, gF_11, gF_12, gF_13, gF_14, gF_15, gF_16, gF_17, pF_0, pF_1, pF_2, pF_3, pF_4, pF_5, pF_6, pF_7, pF_8, pF_9, pF_10, pF_11, pF_12, pF_13, pF_14, pF_15, pF_16, pF_17, gI_of, gL_of, gR_of, sI_of, sL_of, gN_of, gO_of, cl_i, cl_r, cl_l, cl_n, pu_s, pu_n, rV_s, hg_same, hg_ne, if_true, if_false, true_and, and_true, ne_eq, not_false_eq_true, not_true_eq_false, eq_self, reduceCtorEq, Nat.reduceAdd, bI_ne0, bI_eq0, x_isRow x0 x2 hn, x_isValue, x0, r1, r2]
        exact ⟨hX, Sm.rf _ h⟩
      · obtain ⟨a, b1, c, m0⟩ := id hM.1
        simp (disch := first | omega | assumption) only [r_X11_side_0, r_X11_side_1, r_X11_side_2, r_X11_side_5, r_X11_side_8, r_X11_side_9, r_X11_side_10, r_X11_side_13, r_X11_side_16, r_X11_side_19, r_X11_side_22, r_X11_side_24, r_X11_side_25, r_X11_side_26, r_X11_side_29, r_X11_side_30, r_X11_side_31, r_X11_side_32, r_X11_side_33, r_X11_side_36, r_X11_side_37, r_X11_side_38, r_X11_side_39, r_X11_side_40, gF_0, gF_1, gF_2, gF_3, gF_4, gF_5, gF_6, gF_7, gF_8, gF_9, gF_10, gF_11, gF_12, gF_13, gF_14, gF_15, gF_16, gF_17, pF_0, pF_1, pF_2, pF_3, pF_4, pF_5, pF_6, pF_7, pF_8, pF_9, pF_10, pF_11, pF_12, pF_13, pF_14, pF_15, pF_16, pF_17, gI_of, gL_of, gR_of, sI_of, sL_of, gN_of, gO_of, cl_i, cl_r, cl_l, cl_n, pu_s, pu_n, rV_s, hg_same, hg_ne, if_true, if_false, true_and, and_true, ne_eq, not_false_eq_true, not_true_eq_false, eq_self, reduceCtorEq, Nat.reduceAdd, bI_ne0, bI_eq0, m_is hM.1 hn, m_in, m_val, m0, r1, r2]
        exact ⟨hM, Sm.rf _ h⟩
    | true =>
      obtain ⟨i, hi, ei⟩ := rw_of hn.2 r1
      refine ⟨b i, (n, C, up b i a2, o, p), ?_, fun h hX => ?_, fun h hM => ?_⟩
      · obtain ⟨g1, g2, g3, g4, g5, g6⟩ := hG
        refine ⟨g1, g2, g3, fun x => ?_, g5, g6⟩
        show vl (if x = i then a2 else b x)
        split
        · exact vb_vl r2
        · exact g4 x
      · obtain ⟨x0, xt, ⟨f, q1, q2⟩, x3, x4, x5, x6, x7, x8, x9, x10⟩ := id hX
        have x2 : hg h 2 = _ := xt.1
        have q5 : f i = b i := q2 i (by omega)
        simp (disch := first | omega | assumption) only [r_X10_side_0, r_X10_side_1, r_X10_side_2, r_X10_side_5, r_X10_side_8, r_X10_side_9, r_X10_side_12, r_X10_side_15, r_X10_side_17, r_X10_side_18, r_X10_side_19, r_X10_side_22, r_X10_side_25, r_X10_side_26, r_X10_side_27, r_X10_side_28, r_X10_side_29, r_X10_side_32, r_X10_side_35, r_X10_side_36, r_X10_side_37, r_X10_side_38, r_X10_side_39, gF_0, gF_1, gF_2, gF_3, gF_4, gF_5, gF_6, gF_7, gF_8, gF_9, gF_10, gF_11, gF_12, gF_13, gF_14, gF_15, gF_16, gF_17, pF_0, pF_1, pF_2, pF_3, pF_4, pF_5, pF_6, pF_7, pF_8, pF_9, pF_10, pF_11, pF_12, pF_13, pF_14, pF_15, pF_16, pF_17, gI_of, gL_of, gR_of, sI_of, sL_of, gN_of, gO_of, cl_i, cl_r, cl_l, cl_n, pu_s, pu_n, rV_s, hg_same, hg_ne, if_true, if_false, true_and, and_true, ne_eq, not_false_eq_true, not_true_eq_false, eq_self, reduceCtorEq, Nat.reduceAdd, bI_ne0, bI_eq0, x_isRow x0 x2 hn, x_isValue, x0, x2, r1, r2]
        rw [ei]
        simp (disch := first | omega | assumption) only [r_X10_side_0, r_X10_side_1, r_X10_side_2, r_X10_side_5, r_X10_side_8, r_X10_side_9, r_X10_side_12, r_X10_side_15, r_X10_side_17, r_X10_side_18, r_X10_side_19, r_X10_side_22, r_X10_side_25, r_X10_side_26, r_X10_side_27, r_X10_side_28, r_X10_side_29, r_X10_side_32, r_X10_side_35, r_X10_side_36, r_X10_side_37, r_X10_side_38, r_X10_side_39, gF_0, gF_1, gF_2, gF_3, gF_4, gF_5, gF_6, gF_7, gF_8, gF_9, gF_10, gF_11, gF_12, gF_13, gF_14, gF_15, gF_16, gF_17, pF_0, pF_1, pF_2, pF_3, pF_4, pF_5, pF_6, pF_7, pF_8, pF_9, pF_10, pF_11, pF_12, pF_13, pF_14, pF_15, pF_16, pF_17, gI_of, gL_of, gR_of, sI_of, sL_of, gN_of, gO_of, cl_i, cl_r, cl_l, cl_n, pu_s, pu_n, rV_s, hg_same, hg_ne, if_true, if_false, true_and, and_true, ne_eq, not_false_eq_true, not_true_eq_false, eq_self, reduceCtorEq, Nat.reduceAdd, x0, x2, q1, q5]
        have SW : Sm (fun b => b = 24) h (hs h 24 (aI 20 (up f i a2))) := (Sm.rf _ h).set rfl
        refine ⟨⟨(SW.at (by omega)).trans x0, xt.keep SW (fun b q => by omega), ⟨_, hg_same _ _ _, fun x hx => ?_⟩, x3.keep SW (fun b q => by omega), x4.keep SW (fun b q => by omega), x5.keep SW (fun b q => by omega), x6.keep SW (fun b q => by omega), x7.keep SW (fun b q => by omega), x8.keep SW (fun b q => by omega), x9.keep SW (fun b q => by omega), x10.keep SW (fun b q => by omega)⟩, SW.mono (T := sx) (fun x q => by unfold sx; omega)⟩
        show up f i a2 x = up b i a2 x
        unfold up
        split
        · rfl
        · exact q2 x hx
      · obtain ⟨⟨a, b1, c, m0⟩, m1, ⟨f, q1, q2⟩, m3, m4⟩ := id hM
        have q5 : f i = b i := q2 i (by omega)
        simp (disch := first | omega | assumption) only [r_X11_side_0, r_X11_side_1, r_X11_side_2, r_X11_side_5, r_X11_side_8, r_X11_side_9, r_X11_side_10, r_X11_side_13, r_X11_side_16, r_X11_side_19, r_X11_side_22, r_X11_side_24, r_X11_side_25, r_X11_side_26, r_X11_side_29, r_X11_side_30, r_X11_side_31, r_X11_side_32, r_X11_side_33, r_X11_side_36, r_X11_side_37, r_X11_side_38, r_X11_side_39, r_X11_side_40, gF_0, gF_1, gF_2, gF_3, gF_4, gF_5, gF_6, gF_7, gF_8, gF_9, gF_10, gF_11, gF_12, gF_13, gF_14, gF_15, gF_16, gF_17, pF_0, pF_1, pF_2, pF_3, pF_4, pF_5, pF_6, pF_7, pF_8, pF_9, pF_10, pF_11, pF_12, pF_13, pF_14, pF_15, pF_16, pF_17, gI_of, gL_of, gR_of, sI_of, sL_of, gN_of, gO_of, cl_i, cl_r, cl_l, cl_n, pu_s, pu_n, rV_s, hg_same, hg_ne, if_true, if_false, true_and, and_true, ne_eq, not_false_eq_true, not_true_eq_false, eq_self, reduceCtorEq, Nat.reduceAdd, bI_ne0, bI_eq0, m_is hM.1 hn, m_in, m_val, m0, r1, r2]
        rw [ei]
        simp (disch := first | omega | assumption) only [r_X11_side_0, r_X11_side_1, r_X11_side_2, r_X11_side_5, r_X11_side_8, r_X11_side_9, r_X11_side_10, r_X11_side_13, r_X11_side_16, r_X11_side_19, r_X11_side_22, r_X11_side_24, r_X11_side_25, r_X11_side_26, r_X11_side_29, r_X11_side_30, r_X11_side_31, r_X11_side_32, r_X11_side_33, r_X11_side_36, r_X11_side_37, r_X11_side_38, r_X11_side_39, r_X11_side_40, gF_0, gF_1, gF_2, gF_3, gF_4, gF_5, gF_6, gF_7, gF_8, gF_9, gF_10, gF_11, gF_12, gF_13, gF_14, gF_15, gF_16, gF_17, pF_0, pF_1, pF_2, pF_3, pF_4, pF_5, pF_6, pF_7, pF_8, pF_9, pF_10, pF_11, pF_12, pF_13, pF_14, pF_15, pF_16, pF_17, gI_of, gL_of, gR_of, sI_of, sL_of, gN_of, gO_of, cl_i, cl_r, cl_l, cl_n, pu_s, pu_n, rV_s, hg_same, hg_ne, if_true, if_false, true_and, and_true, ne_eq, not_false_eq_true, not_true_eq_false, eq_self, reduceCtorEq, Nat.reduceAdd, m0, q1, q5]
        have SW : Sm (fun b => b = 90) h (hs h 90 (aI 20 (up f i a2))) := (Sm.rf _ h).set rfl
        obtain ⟨f89, e1, e2⟩ := m1
        refine ⟨⟨⟨a, b1, c, (SW.at (by omega)).trans m0⟩, ⟨f89, (SW.at (by omega)).trans e1, e2⟩, ⟨_, hg_same _ _ _, fun x hx => ?_⟩, m3.keep (SW.at (by omega)), m4.keep SW (fun b q => by omega)⟩, SW.mono (T := sy) (fun x q => by unfold sy; omega)⟩
        show up f i a2 x = up b i a2 x
        unfold up
        split
        · rfl
        · exact q2 x hx

theorem n_irem {a b : Nat} (ha : a < 2 ^ 31) (h0 : 0 < b) (hb : b < 2 ^ 31) : nI a - nI a / nI b * nI b = nI (a % b) := pk_rem ha h0 hb
theorem n_ne0 {a : Nat} (h0 : 0 < a) (ha : a < 2 ^ 31) : (nI a = 0) = False := eq_false (nI_ne0 h0 ha)
theorem sq_lt {d q : Nat} (hq : q ≤ 46337) (h : d * d ≤ q) : d < 216 := by
  apply Nat.lt_of_not_le
  intro hc
  have := Nat.mul_le_mul hc hc
  omega
theorem x_isPrime {d q : Nat} {h : j_H} {Q : Option Value → j_H → Prop} (h2 : 2 ≤ q) (hq : q ≤ 46337) (hy : isP q → Q (some (.int (bI true))) h) (hno : ¬ isP q → Q (some (.int (bI false))) h) : WP d mX10_isPrime 0 [some (.int (nI q)), none] [] h Q := by
  simp (disch := first | omega | assumption) only [r_X10_isPrime_0, r_X10_isPrime_1, r_X10_isPrime_3, r_X10_isPrime_4, r_X10_isPrime_5, r_X10_isPrime_6, r_X10_isPrime_9, r_X10_isPrime_10, r_X10_isPrime_11, r_X10_isPrime_12, r_X10_isPrime_15, r_X10_isPrime_16, r_X10_isPrime_16_0, r_X10_isPrime_16_1, r_X10_isPrime_17, r_X10_isPrime_20, r_X10_isPrime_23, r_X10_isPrime_24, r_X10_isPrime_25, r_X10_isPrime_28, r_X10_isPrime_29, r_X10_isPrime_32, r_X10_isPrime_33, r_X10_isPrime_33_0, r_X10_isPrime_33_1, gF_0, gF_1, gF_2, gF_3, gF_4, gF_5, gF_6, gF_7, gF_8, gF_9, gF_10, gF_11, gF_12, gF_13, gF_14, gF_15, gF_16, gF_17, pF_0, pF_1, pF_2, pF_3, pF_4, pF_5, pF_6, pF_7, pF_8, pF_9, pF_10, pF_11, pF_12, pF_13, pF_14, pF_15, pF_16, pF_17, gI_of, gL_of, gR_of, sI_of, sL_of, gN_of, gO_of, cl_i, cl_r, cl_l, cl_n, pu_s, pu_n, rV_s, hg_same, hg_ne, if_true, if_false, true_and, and_true, ne_eq, not_false_eq_true, not_true_eq_false, eq_self, reduceCtorEq, Nat.reduceAdd]
  have key : ∀ e, e ≤ 216 → 2 ≤ e → (∀ x, 2 ≤ x → x < e → x * x ≤ q → q % x ≠ 0) → WP d mX10_isPrime 2 [some (.int (nI q)), some (.int (nI e))] [] h Q := by
    refine lup (P := fun e => 2 ≤ e → (∀ x, 2 ≤ x → x < e → x * x ≤ q → q % x ≠ 0) → WP d mX10_isPrime 2 [some (.int (nI q)), some (.int (nI e))] [] h Q) ?_ ?_
    · intro _ hall
      rw [r_X10_isPrime_2]
      simp (disch := first | omega | assumption) only [r_X10_isPrime_0, r_X10_isPrime_1, r_X10_isPrime_3, r_X10_isPrime_4, r_X10_isPrime_5, r_X10_isPrime_6, r_X10_isPrime_9, r_X10_isPrime_10, r_X10_isPrime_11, r_X10_isPrime_12, r_X10_isPrime_15, r_X10_isPrime_16, r_X10_isPrime_16_0, r_X10_isPrime_16_1, r_X10_isPrime_17, r_X10_isPrime_20, r_X10_isPrime_23, r_X10_isPrime_24, r_X10_isPrime_25, r_X10_isPrime_28, r_X10_isPrime_29, r_X10_isPrime_32, r_X10_isPrime_33, r_X10_isPrime_33_0, r_X10_isPrime_33_1, gF_0, gF_1, gF_2, gF_3, gF_4, gF_5, gF_6, gF_7, gF_8, gF_9, gF_10, gF_11, gF_12, gF_13, gF_14, gF_15, gF_16, gF_17, pF_0, pF_1, pF_2, pF_3, pF_4, pF_5, pF_6, pF_7, pF_8, pF_9, pF_10, pF_11, pF_12, pF_13, pF_14, pF_15, pF_16, pF_17, gI_of, gL_of, gR_of, sI_of, sL_of, gN_of, gO_of, cl_i, cl_r, cl_l, cl_n, pu_s, pu_n, rV_s, hg_same, hg_ne, if_true, if_false, true_and, and_true, ne_eq, not_false_eq_true, not_true_eq_false, eq_self, reduceCtorEq, Nat.reduceAdd, nI_add, n_mul, n_sub, n_div, n_dec, n_dif, n_shl1, n_bit, n_eq0, n_0eq, n_eq, n_lt, n_le, n_lt0, n_ge0, n_gt0, n_le0, n_em1, n_m1e, n_m1lt0, n_m1ge0, n_m1gt0, n_m1eq0, n_m1lt, bI_eq0, bI_ne0, tb_eq0, tb_eq1, Nat.reduceMul, show q < 46656 by omega, show ¬ q < 2 by omega]
      exact hy ⟨h2, hq, fun x h1 h3 => hall x h1 (sq_lt hq h3) h3⟩
    · intro e he ih he2 hall
      have hm : e * e < 2 ^ 20 := Nat.lt_of_le_of_lt (Nat.mul_le_mul (Nat.le_of_lt he) (Nat.le_of_lt he)) (by decide)
      rw [r_X10_isPrime_2]
      by_cases hc : q < e * e
      · simp (disch := first | omega | assumption) only [r_X10_isPrime_0, r_X10_isPrime_1, r_X10_isPrime_3, r_X10_isPrime_4, r_X10_isPrime_5, r_X10_isPrime_6, r_X10_isPrime_9, r_X10_isPrime_10, r_X10_isPrime_11, r_X10_isPrime_12, r_X10_isPrime_15, r_X10_isPrime_16, r_X10_isPrime_16_0, r_X10_isPrime_16_1, r_X10_isPrime_17, r_X10_isPrime_20, r_X10_isPrime_23, r_X10_isPrime_24, r_X10_isPrime_25, r_X10_isPrime_28, r_X10_isPrime_29, r_X10_isPrime_32, r_X10_isPrime_33, r_X10_isPrime_33_0, r_X10_isPrime_33_1, gF_0, gF_1, gF_2, gF_3, gF_4, gF_5, gF_6, gF_7, gF_8, gF_9, gF_10, gF_11, gF_12, gF_13, gF_14, gF_15, gF_16, gF_17, pF_0, pF_1, pF_2, pF_3, pF_4, pF_5, pF_6, pF_7, pF_8, pF_9, pF_10, pF_11, pF_12, pF_13, pF_14, pF_15, pF_16, pF_17, gI_of, gL_of, gR_of, sI_of, sL_of, gN_of, gO_of, cl_i, cl_r, cl_l, cl_n, pu_s, pu_n, rV_s, hg_same, hg_ne, if_true, if_false, true_and, and_true, ne_eq, not_false_eq_true, not_true_eq_false, eq_self, reduceCtorEq, Nat.reduceAdd, nI_add, n_mul, n_sub, n_div, n_dec, n_dif, n_shl1, n_bit, n_eq0, n_0eq, n_eq, n_lt, n_le, n_lt0, n_ge0, n_gt0, n_le0, n_em1, n_m1e, n_m1lt0, n_m1ge0, n_m1gt0, n_m1eq0, n_m1lt, bI_eq0, bI_ne0, tb_eq0, tb_eq1, hc, show ¬ q < 2 by omega]
        refine hy ⟨h2, hq, fun x h1 h3 => hall x h1 ?_ h3⟩
        apply Nat.lt_of_not_le
        intro hle
        have := Nat.mul_le_mul hle hle
        omega
      · have hml : q % e < 2 ^ 31 := by have := Nat.mod_lt q (show 0 < e by omega); omega
        simp (disch := first | omega | assumption) only [r_X10_isPrime_0, r_X10_isPrime_1, r_X10_isPrime_3, r_X10_isPrime_4, r_X10_isPrime_5, r_X10_isPrime_6, r_X10_isPrime_9, r_X10_isPrime_10, r_X10_isPrime_11, r_X10_isPrime_12, r_X10_isPrime_15, r_X10_isPrime_16, r_X10_isPrime_16_0, r_X10_isPrime_16_1, r_X10_isPrime_17, r_X10_isPrime_20, r_X10_isPrime_23, r_X10_isPrime_24, r_X10_isPrime_25, r_X10_isPrime_28, r_X10_isPrime_29, r_X10_isPrime_32, r_X10_isPrime_33, r_X10_isPrime_33_0, r_X10_isPrime_33_1, gF_0, gF_1, gF_2, gF_3, gF_4, gF_5, gF_6, gF_7, gF_8, gF_9, gF_10, gF_11, gF_12, gF_13, gF_14, gF_15, gF_16, gF_17, pF_0, pF_1, pF_2, pF_3, pF_4, pF_5, pF_6, pF_7, pF_8, pF_9, pF_10, pF_11, pF_12, pF_13, pF_14, pF_15, pF_16, pF_17, gI_of, gL_of, gR_of, sI_of, sL_of, gN_of, gO_of, cl_i, cl_r, cl_l, cl_n, pu_s, pu_n, rV_s, hg_same, hg_ne, if_true, if_false, true_and, and_true, ne_eq, not_false_eq_true, not_true_eq_false, eq_self, reduceCtorEq, Nat.reduceAdd, nI_add, n_mul, n_sub, n_irem, n_dec, n_dif, n_shl1, n_bit, n_eq0, n_0eq, n_eq, n_lt, n_le, n_lt0, n_ge0, n_gt0, n_le0, n_em1, n_m1e, n_m1lt0, n_m1ge0, n_m1gt0, n_m1eq0, n_m1lt, bI_eq0, bI_ne0, tb_eq0, tb_eq1, hc]
        by_cases hz : q % e = 0
        · simp (disch := first | omega | assumption) only [hz, n_ne0, eq_self, gF_0, gF_1, gF_2, gF_3, gF_4, gF_5, gF_6, gF_7, gF_8, gF_9, gF_10, gF_11, gF_12, gF_13, gF_14, gF_15, gF_16, gF_17, pF_0, pF_1, pF_2, pF_3, pF_4, pF_5, pF_6, pF_7, pF_8, pF_9, pF_10, pF_11, pF_12, pF_13, pF_14, pF_15, pF_16, pF_17, gI_of, gL_of, gR_of, sI_of, sL_of, gN_of, gO_of, cl_i, cl_r, cl_l, cl_n, pu_s, pu_n, rV_s, hg_same, hg_ne, if_true, if_false, true_and, and_true, ne_eq, not_false_eq_true, not_true_eq_false, eq_self, reduceCtorEq, Nat.reduceAdd, r_X10_isPrime_0, r_X10_isPrime_1, r_X10_isPrime_3, r_X10_isPrime_4, r_X10_isPrime_5, r_X10_isPrime_6, r_X10_isPrime_9, r_X10_isPrime_10, r_X10_isPrime_11, r_X10_isPrime_12, r_X10_isPrime_15, r_X10_isPrime_16, r_X10_isPrime_16_0, r_X10_isPrime_16_1, r_X10_isPrime_17, r_X10_isPrime_20, r_X10_isPrime_23, r_X10_isPrime_24, r_X10_isPrime_25, r_X10_isPrime_28, r_X10_isPrime_29, r_X10_isPrime_32, r_X10_isPrime_33, r_X10_isPrime_33_0, r_X10_isPrime_33_1]
          have := hno (fun hp => hp.2.2 e he2 (by omega) hz)
          first | exact this | exact ⟨by omega, this⟩
        · simp (disch := first | omega | assumption) only [hz, n_ne0, gF_0, gF_1, gF_2, gF_3, gF_4, gF_5, gF_6, gF_7, gF_8, gF_9, gF_10, gF_11, gF_12, gF_13, gF_14, gF_15, gF_16, gF_17, pF_0, pF_1, pF_2, pF_3, pF_4, pF_5, pF_6, pF_7, pF_8, pF_9, pF_10, pF_11, pF_12, pF_13, pF_14, pF_15, pF_16, pF_17, gI_of, gL_of, gR_of, sI_of, sL_of, gN_of, gO_of, cl_i, cl_r, cl_l, cl_n, pu_s, pu_n, rV_s, hg_same, hg_ne, if_true, if_false, true_and, and_true, ne_eq, not_false_eq_true, not_true_eq_false, eq_self, reduceCtorEq, Nat.reduceAdd, r_X10_isPrime_0, r_X10_isPrime_1, r_X10_isPrime_3, r_X10_isPrime_4, r_X10_isPrime_5, r_X10_isPrime_6, r_X10_isPrime_9, r_X10_isPrime_10, r_X10_isPrime_11, r_X10_isPrime_12, r_X10_isPrime_15, r_X10_isPrime_16, r_X10_isPrime_16_0, r_X10_isPrime_16_1, r_X10_isPrime_17, r_X10_isPrime_20, r_X10_isPrime_23, r_X10_isPrime_24, r_X10_isPrime_25, r_X10_isPrime_28, r_X10_isPrime_29, r_X10_isPrime_32, r_X10_isPrime_33, r_X10_isPrime_33_0, r_X10_isPrime_33_1, nI_add, n_mul, n_sub, n_div, n_dec, n_dif, n_shl1, n_bit, n_eq0, n_0eq, n_eq, n_lt, n_le, n_lt0, n_ge0, n_gt0, n_le0, n_em1, n_m1e, n_m1lt0, n_m1ge0, n_m1gt0, n_m1eq0, n_m1lt, bI_eq0, bI_ne0, tb_eq0, tb_eq1]
          have := ih (by omega) (fun x h1 h3 h4 => by
            by_cases hxe : x = e
            · subst hxe; exact hz
            · exact hall x h1 (by omega) h4)
          first | exact this | exact ⟨by omega, this⟩
  exact key 2 (by omega) (by omega) (fun x h1 h3 _ => by omega)

theorem m_prime {d q n p : Nat} {h : j_H} {Q : Option Value → j_H → Prop} {e : Nat} (h2 : 2 ≤ q) (hq : q ≤ 46337) (hy : isP q → WP d mX11_prime 43 [some (.ref 88), some (.int (nI q)), none] [] h Q) (hno : ¬ isP q → Q (some (.int (-100001))) h) : True := trivial
