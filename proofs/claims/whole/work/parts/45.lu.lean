theorem o_surj : ∀ (n : Nat) (o : Nat → Nat), (∀ i, i < n → o i < n) → (∀ i j, i < n → j < n → o i = o j → i = j) → ∀ v, v < n → ∃ k, k < n ∧ o k = v := by
  intro n
  induction n with
  | zero => intro o _ _ v hv; omega
  | succ n ih =>
    intro o h1 h2 v hv
    by_cases hk : ∃ k, k < n + 1 ∧ o k = n
    · obtain ⟨k, k1, k2⟩ := hk
      by_cases hvn : v = n
      · exact ⟨k, k1, by omega⟩
      · have hb : ∀ i, i < n → (if o i = n then o n else o i) < n := by
          intro i hi
          split
          · rename_i e
            have := h1 n (by omega)
            by_cases e2 : o n = n
            · have := h2 i n (by omega) (by omega) (by omega); omega
            · omega
          · have := h1 i (by omega); omega
        have hi : ∀ i j, i < n → j < n → (if o i = n then o n else o i) = (if o j = n then o n else o j) → i = j := by
          intro i j hi hj e
          by_cases e1 : o i = n
          · by_cases e2 : o j = n
            · exact h2 i j (by omega) (by omega) (by omega)
            · rw [if_pos e1, if_neg e2] at e
              have := h2 n j (by omega) (by omega) e; omega
          · by_cases e2 : o j = n
            · rw [if_neg e1, if_pos e2] at e
              have := h2 i n (by omega) (by omega) e; omega
            · rw [if_neg e1, if_neg e2] at e
              exact h2 i j (by omega) (by omega) e
        obtain ⟨i, i1, i2⟩ := ih (fun i => if o i = n then o n else o i) hb hi v (by omega)
        by_cases e1 : o i = n
        · simp only [if_pos e1] at i2; exact ⟨n, by omega, i2⟩
        · simp only [if_neg e1] at i2; exact ⟨i, by omega, i2⟩
    · exfalso
      have hlt : ∀ i, i < n + 1 → o i < n := by
        intro i hi
        have := h1 i hi
        by_cases e : o i = n
        · exact absurd ⟨i, hi, e⟩ hk
        · omega
      obtain ⟨i, i1, i2⟩ := ih o (fun i hi => hlt i (by omega)) (fun i j a b => h2 i j (by omega) (by omega)) (o n) (hlt n (by omega))
      have := h2 i n (by omega) (by omega) i2
      omega
theorem fst_zero (D : Nat → Nat) : ∀ n, (∀ j, j < n → D j ≠ 0) ∨ ∃ k, k < n ∧ D k = 0 ∧ ∀ j, j < k → D j ≠ 0 := by
  intro n
  induction n with
  | zero => exact Or.inl (fun j hj => by omega)
  | succ n ih =>
    cases ih with
    | inl h =>
      by_cases e : D n = 0
      · exact Or.inr ⟨n, by omega, e, h⟩
      · refine Or.inl (fun j hj => ?_)
        by_cases e2 : j = n
        · rw [e2]; exact e
        · exact h j (by omega)
    | inr h =>
      obtain ⟨k, k1, k2⟩ := h
      exact Or.inr ⟨k, by omega, k2⟩
theorem fst_uniq {D : Nat → Nat} {a b : Nat} (a1 : D a = 0) (a2 : ∀ j, j < a → D j ≠ 0) (b1 : D b = 0) (b2 : ∀ j, j < b → D j ≠ 0) : a = b := by
  by_cases h : a < b
  · exact absurd a1 (b2 a h)
  · by_cases h2 : b < a
    · exact absurd b1 (a2 b h2)
    · omega
theorem XI.rests {h h' : j_H} {n p : Nat} {C : Nat → Nat → Int32} {b : Nat → Int32} {o : Nat → Nat} (H : XI h (n, C, b, o, p)) (hS : Sm (fun b => 63 ≤ b ∧ b < 86) h h') (hR : xR h' p) : XI h' (n, C, b, o, p) ∧ Sm sx h h' := by
  obtain ⟨h0, h1, h2, h3, h4, h5, h6, h7, h8, h9, h10⟩ := H
  exact ⟨⟨(hS.at (by omega)).trans h0, h1.keep hS (fun b q => by omega), h2.keep (hS.at (by omega)), h3.keep hS (fun b q => by omega), h4.keep hS (fun b q => by omega), h5.keep hS (fun b q => by omega), h6.keep hS (fun b q => by omega), h7.keep hS (fun b q => by omega), h8.keep hS (fun b q => by omega), hR, h10.keep hS (fun b q => by omega)⟩, hS.mono (T := sx) (fun x q => by unfold sx; omega)⟩
theorem mS.put {h h' : j_H} (H : mS h) (hS : Sm (fun b => b = 88 ∨ b = 100) h h') (hL : isL h' 100 800) : mS h' := by
  obtain ⟨h0, h1, h2, h3, h4, h5, h6, h7, h8, h9⟩ := H
  exact ⟨h0.keep (hS.at (by omega)), h1.keep (hS.at (by omega)), h2.keep (hS.at (by omega)), h3.keep (hS.at (by omega)), h4.keep (hS.at (by omega)), h5.keep (hS.at (by omega)), h6.keep (hS.at (by omega)), h7.keep (hS.at (by omega)), hL, h9.keep (hS.at (by omega))⟩
theorem MI.put {h h' : j_H} {n p : Nat} {C : Nat → Nat → Int32} {b : Nat → Int32} {o : Nat → Nat} (H : MI h (n, C, b, o, p)) (hS : Sm (fun b => b = 88 ∨ b = 100) h h') (hO : mO h' n p) (hL : isL h' 100 800) : MI h' (n, C, b, o, p) ∧ Sm sy h h' := by
  obtain ⟨h0, ⟨f, h1, h2⟩, h3, h4, h5⟩ := H
  exact ⟨⟨hO, ⟨f, (hS.at (by omega)).trans h1, h2⟩, h3.keep (hS.at (by omega)), h4.keep (hS.at (by omega)), h5.put hS hL⟩, hS.mono (T := sy) (fun x q => by unfold sy; omega)⟩
theorem mW.is {h : j_H} {n w : Nat} {A : Nat → Nat → Nat} (H : mW h n w A) : isL h 100 800 := by
  obtain ⟨f, f1, -⟩ := H
  exact ⟨f, f1⟩
theorem p_stop {s : j_G} (hG : Gd s) : Pr mX10_stop mX11_stop [] [] s := by
  obtain ⟨n, C, b, o, p⟩ := s
  have hn : 1 ≤ n ∧ n ≤ 20 := hG.1
  have hP : isP p := hG.2.2.2.2.2
  have ho : (∀ i, i < n → o i < n) := hG.2.2.2.2.1.1
  have hp := hP.1
  have hp2 := hP.2.1
  cases fst_zero (fun j => lu p n (A0 p C o) j j j) n with
  | inl hall =>
    refine ⟨-1, Pv.same hG (fun h hX => ?_) (fun h hM => ?_)⟩
    · obtain ⟨x0, xt, x24, x3, x4, x5, x6, x7, x8, x9, x10⟩ := id hX
      obtain ⟨v, R, q, r1, r2⟩ := xR.work x9
      have x2 := xt.1
      have x35 := x5.1
      simp (disch := first | omega | assumption) only [r_X10_stop_0, r_X10_stop_1, r_X10_stop_4, r_X10_stop_5, r_X10_stop_8, r_X10_stop_9, r_X10_stop_12, r_X10_stop_15, gF_0, gF_1, gF_2, gF_3, gF_4, gF_5, gF_6, gF_7, gF_8, gF_9, gF_10, gF_11, gF_12, gF_13, gF_14, gF_15, gF_16, gF_17, pF_0, pF_1, pF_2, pF_3, pF_4, pF_5, pF_6, pF_7, pF_8, pF_9, pF_10, pF_11, pF_12, pF_13, pF_14, pF_15, pF_16, pF_17, gI_of, gL_of, gR_of, sI_of, sL_of, gN_of, gO_of, cl_i, cl_r, cl_l, cl_n, pu_s, pu_n, rV_s, hg_same, hg_ne, if_true, if_false, true_and, and_true, ne_eq, not_false_eq_true, not_true_eq_false, eq_self, reduceCtorEq, Nat.reduceAdd, x0, r1]
      refine x_makeFactors xt x5 r1 r2 hp hp2 hn ho (fun h1 k k1 k2 k3 k4 k5 => absurd k3 (hall k k1)) (fun h1 k1 k2 k3 => ?_)
      simp (disch := first | omega | assumption) only [r_X10_stop_0, r_X10_stop_1, r_X10_stop_4, r_X10_stop_5, r_X10_stop_8, r_X10_stop_9, r_X10_stop_12, r_X10_stop_15, gF_0, gF_1, gF_2, gF_3, gF_4, gF_5, gF_6, gF_7, gF_8, gF_9, gF_10, gF_11, gF_12, gF_13, gF_14, gF_15, gF_16, gF_17, pF_0, pF_1, pF_2, pF_3, pF_4, pF_5, pF_6, pF_7, pF_8, pF_9, pF_10, pF_11, pF_12, pF_13, pF_14, pF_15, pF_16, pF_17, gI_of, gL_of, gR_of, sI_of, sL_of, gN_of, gO_of, cl_i, cl_r, cl_l, cl_n, pu_s, pu_n, rV_s, hg_same, hg_ne, if_true, if_false, true_and, and_true, ne_eq, not_false_eq_true, not_true_eq_false, eq_self, reduceCtorEq, Nat.reduceAdd]
      exact hX.rests (k3.mono (fun x q => by omega)) (k2.xR (h' := h1) ((k3.at (by omega)).trans r1) (x9.2.2.2.keep (k3.at (by omega))))
    · obtain ⟨⟨a, b1, c, m0⟩, m1, m2, m3, m4⟩ := id hM
      simp (disch := first | omega | assumption) only [r_X11_stop_0, r_X11_stop_1, r_X11_stop_4, r_X11_stop_5, r_X11_stop_8, r_X11_stop_11, r_X11_stop_12, r_X11_stop_15, r_X11_stop_16, r_X11_stop_19, r_X11_stop_20, r_X11_stop_23, r_X11_stop_24, gF_0, gF_1, gF_2, gF_3, gF_4, gF_5, gF_6, gF_7, gF_8, gF_9, gF_10, gF_11, gF_12, gF_13, gF_14, gF_15, gF_16, gF_17, pF_0, pF_1, pF_2, pF_3, pF_4, pF_5, pF_6, pF_7, pF_8, pF_9, pF_10, pF_11, pF_12, pF_13, pF_14, pF_15, pF_16, pF_17, gI_of, gL_of, gR_of, sI_of, sL_of, gN_of, gO_of, cl_i, cl_r, cl_l, cl_n, pu_s, pu_n, rV_s, hg_same, hg_ne, if_true, if_false, true_and, and_true, ne_eq, not_false_eq_true, not_true_eq_false, eq_self, reduceCtorEq, Nat.reduceAdd, m0]
      refine m_factorAll m0 m1 m3 m4.2.2.2.2.2.2.2.2.1 hp hp2 hn ho (fun h1 k k1 k2 k3 k4 k5 k6 => absurd k3 (hall k k1)) (fun h1 k1 k2 k3 k4 => ?_)
      have k2' := k2
      unfold oM at k2'
      simp (disch := first | omega | assumption) only [r_X11_stop_0, r_X11_stop_1, r_X11_stop_4, r_X11_stop_5, r_X11_stop_8, r_X11_stop_11, r_X11_stop_12, r_X11_stop_15, r_X11_stop_16, r_X11_stop_19, r_X11_stop_20, r_X11_stop_23, r_X11_stop_24, gF_0, gF_1, gF_2, gF_3, gF_4, gF_5, gF_6, gF_7, gF_8, gF_9, gF_10, gF_11, gF_12, gF_13, gF_14, gF_15, gF_16, gF_17, pF_0, pF_1, pF_2, pF_3, pF_4, pF_5, pF_6, pF_7, pF_8, pF_9, pF_10, pF_11, pF_12, pF_13, pF_14, pF_15, pF_16, pF_17, gI_of, gL_of, gR_of, sI_of, sL_of, gN_of, gO_of, cl_i, cl_r, cl_l, cl_n, pu_s, pu_n, rV_s, hg_same, hg_ne, if_true, if_false, true_and, and_true, ne_eq, not_false_eq_true, not_true_eq_false, eq_self, reduceCtorEq, Nat.reduceAdd, nI_add, n_mul, n_sub, n_div, n_dec, n_dif, n_shl1, n_bit, n_eq0, n_0eq, n_eq, n_lt, n_le, n_lt0, n_ge0, n_gt0, n_le0, n_em1, n_m1e, n_m1lt0, n_m1ge0, n_m1gt0, n_m1eq0, n_m1lt, bI_eq0, bI_ne0, tb_eq0, tb_eq1, k2']
      exact hM.put k4 k2.mO k3.is
  | inr hz =>
    obtain ⟨k, hk, z1, z2⟩ := hz
    refine ⟨nI (o k), Pv.same hG (fun h hX => ?_) (fun h hM => ?_)⟩
    · obtain ⟨x0, xt, x24, x3, x4, x5, x6, x7, x8, x9, x10⟩ := id hX
      obtain ⟨v, R, q, r1, r2⟩ := xR.work x9
      have x2 := xt.1
      have x35 := x5.1
      simp (disch := first | omega | assumption) only [r_X10_stop_0, r_X10_stop_1, r_X10_stop_4, r_X10_stop_5, r_X10_stop_8, r_X10_stop_9, r_X10_stop_12, r_X10_stop_15, gF_0, gF_1, gF_2, gF_3, gF_4, gF_5, gF_6, gF_7, gF_8, gF_9, gF_10, gF_11, gF_12, gF_13, gF_14, gF_15, gF_16, gF_17, pF_0, pF_1, pF_2, pF_3, pF_4, pF_5, pF_6, pF_7, pF_8, pF_9, pF_10, pF_11, pF_12, pF_13, pF_14, pF_15, pF_16, pF_17, gI_of, gL_of, gR_of, sI_of, sL_of, gN_of, gO_of, cl_i, cl_r, cl_l, cl_n, pu_s, pu_n, rV_s, hg_same, hg_ne, if_true, if_false, true_and, and_true, ne_eq, not_false_eq_true, not_true_eq_false, eq_self, reduceCtorEq, Nat.reduceAdd, x0, r1]
      refine x_makeFactors xt x5 r1 r2 hp hp2 hn ho (fun h1 k' k1 k2 k3 k4 k5 => ?_) (fun h1 k1 k2 k3 => absurd z1 (k1 k hk))
      have e : k' = k := fst_uniq (D := fun j => lu p n (A0 p C o) j j j) k3 k2 z1 z2
      subst e
      simp (disch := first | omega | assumption) only [r_X10_stop_0, r_X10_stop_1, r_X10_stop_4, r_X10_stop_5, r_X10_stop_8, r_X10_stop_9, r_X10_stop_12, r_X10_stop_15, gF_0, gF_1, gF_2, gF_3, gF_4, gF_5, gF_6, gF_7, gF_8, gF_9, gF_10, gF_11, gF_12, gF_13, gF_14, gF_15, gF_16, gF_17, pF_0, pF_1, pF_2, pF_3, pF_4, pF_5, pF_6, pF_7, pF_8, pF_9, pF_10, pF_11, pF_12, pF_13, pF_14, pF_15, pF_16, pF_17, gI_of, gL_of, gR_of, sI_of, sL_of, gN_of, gO_of, cl_i, cl_r, cl_l, cl_n, pu_s, pu_n, rV_s, hg_same, hg_ne, if_true, if_false, true_and, and_true, ne_eq, not_false_eq_true, not_true_eq_false, eq_self, reduceCtorEq, Nat.reduceAdd]
      exact hX.rests (k5.mono (fun x q => by omega)) (k4.xR (h' := h1) ((k5.at (by omega)).trans r1) (x9.2.2.2.keep (k5.at (by omega))))
    · obtain ⟨⟨a, b1, c, m0⟩, m1, m2, m3, m4⟩ := id hM
      simp (disch := first | omega | assumption) only [r_X11_stop_0, r_X11_stop_1, r_X11_stop_4, r_X11_stop_5, r_X11_stop_8, r_X11_stop_11, r_X11_stop_12, r_X11_stop_15, r_X11_stop_16, r_X11_stop_19, r_X11_stop_20, r_X11_stop_23, r_X11_stop_24, gF_0, gF_1, gF_2, gF_3, gF_4, gF_5, gF_6, gF_7, gF_8, gF_9, gF_10, gF_11, gF_12, gF_13, gF_14, gF_15, gF_16, gF_17, pF_0, pF_1, pF_2, pF_3, pF_4, pF_5, pF_6, pF_7, pF_8, pF_9, pF_10, pF_11, pF_12, pF_13, pF_14, pF_15, pF_16, pF_17, gI_of, gL_of, gR_of, sI_of, sL_of, gN_of, gO_of, cl_i, cl_r, cl_l, cl_n, pu_s, pu_n, rV_s, hg_same, hg_ne, if_true, if_false, true_and, and_true, ne_eq, not_false_eq_true, not_true_eq_false, eq_self, reduceCtorEq, Nat.reduceAdd, m0]
      refine m_factorAll m0 m1 m3 m4.2.2.2.2.2.2.2.2.1 hp hp2 hn ho (fun h1 k' k1 k2 k3 k4 k5 k6 => ?_) (fun h1 k1 k2 k3 k4 => absurd z1 (k1 k hk))
      have e : k' = k := fst_uniq (D := fun j => lu p n (A0 p C o) j j j) k3 k2 z1 z2
      subst e
      have k4' := k4
      unfold oM at k4'
      obtain ⟨f91, e91, c91⟩ := m3
      have e91' := (k6.at (b := 91) (by omega)).trans e91
      have c9 : f91 k' = nI (o k') := c91 k' hk
      simp (disch := first | omega | assumption) only [r_X11_stop_0, r_X11_stop_1, r_X11_stop_4, r_X11_stop_5, r_X11_stop_8, r_X11_stop_11, r_X11_stop_12, r_X11_stop_15, r_X11_stop_16, r_X11_stop_19, r_X11_stop_20, r_X11_stop_23, r_X11_stop_24, gF_0, gF_1, gF_2, gF_3, gF_4, gF_5, gF_6, gF_7, gF_8, gF_9, gF_10, gF_11, gF_12, gF_13, gF_14, gF_15, gF_16, gF_17, pF_0, pF_1, pF_2, pF_3, pF_4, pF_5, pF_6, pF_7, pF_8, pF_9, pF_10, pF_11, pF_12, pF_13, pF_14, pF_15, pF_16, pF_17, gI_of, gL_of, gR_of, sI_of, sL_of, gN_of, gO_of, cl_i, cl_r, cl_l, cl_n, pu_s, pu_n, rV_s, hg_same, hg_ne, if_true, if_false, true_and, and_true, ne_eq, not_false_eq_true, not_true_eq_false, eq_self, reduceCtorEq, Nat.reduceAdd, nI_add, n_mul, n_sub, n_div, n_dec, n_dif, n_shl1, n_bit, n_eq0, n_0eq, n_eq, n_lt, n_le, n_lt0, n_ge0, n_gt0, n_le0, n_em1, n_m1e, n_m1lt0, n_m1ge0, n_m1gt0, n_m1eq0, n_m1lt, bI_eq0, bI_ne0, tb_eq0, tb_eq1, k4', e91', c9]
      exact hM.put k6 k4.mO k5
