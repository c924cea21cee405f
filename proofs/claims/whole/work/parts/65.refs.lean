/-- the place of a node's parent; n if there is none -/
noncomputable def pl (G : Nat → Nat) (n : Nat) (o : Nat → Nat) (k : Nat) : Nat := fp (fun i _ => tb (gg G n o k) (o i)) 0 n (k + 1)
theorem pl_ok (G : Nat → Nat) (n : Nat) (o : Nat → Nat) : okP n (pl G n o) := fun k hk => by
  have := (fp_spec (fun i _ => tb (gg G n o k) (o i)) 0 n (k + 1) (by omega)).1
  unfold pl
  omega
def vf (n x : Nat) : Int32 := if x < n then nI x else -1
/-- the reference's graph and order -/
def rG (h : j_H) (n p : Nat) (G o : Nat → Nat) : Prop := mO h n p ∧ hI h 98 20 n (fun i => nI (G i)) ∧ hI h 91 20 n (fun i => nI (o i))
theorem m_goneBefore {d n p k : Nat} {G o : Nat → Nat} {h : j_H} {Q : Option Value → j_H → Prop} (H : rG h n p G o) (hn : n ≤ 20) (ho : ∀ i, i < n → o i < n) (hk : k ≤ n) : WP d mX11_goneBefore 0 [some (.ref 88), some (.int (nI k)), none, none] [] h Q = Q (some (.int (nI (gb o k)))) h := by
  obtain ⟨⟨a, b, c, e0⟩, -, f, f1, f2⟩ := H
  simp (disch := first | omega | assumption) only [r_X11_goneBefore_0, r_X11_goneBefore_1, r_X11_goneBefore_2, r_X11_goneBefore_3, r_X11_goneBefore_5, r_X11_goneBefore_6, r_X11_goneBefore_9, r_X11_goneBefore_10, r_X11_goneBefore_11, r_X11_goneBefore_12, r_X11_goneBefore_15, r_X11_goneBefore_16, r_X11_goneBefore_17, r_X11_goneBefore_18, r_X11_goneBefore_19, r_X11_goneBefore_20, r_X11_goneBefore_23, r_X11_goneBefore_26, r_X11_goneBefore_27, gF_0, gF_1, gF_2, gF_3, gF_4, gF_5, gF_6, gF_7, gF_8, gF_9, gF_10, gF_11, gF_12, gF_13, gF_14, gF_15, gF_16, gF_17, pF_0, pF_1, pF_2, pF_3, pF_4, pF_5, pF_6, pF_7, pF_8, pF_9, pF_10, pF_11, pF_12, pF_13, pF_14, pF_15, pF_16, pF_17, gI_of, gL_of, gR_of, sI_of, sL_of, gN_of, gO_of, cl_i, cl_r, cl_l, cl_n, pu_s, pu_n, rV_s, hg_same, hg_ne, if_true, if_false, true_and, and_true, ne_eq, not_false_eq_true, not_true_eq_false, eq_self, reduceCtorEq, Nat.reduceAdd, nI_add, n_mul, n_sub, n_div, n_dec, n_dif, n_shl1, n_bit, n_eq0, n_0eq, n_eq, n_lt, n_le, n_lt0, n_ge0, n_gt0, n_le0, n_em1, n_m1e, n_m1lt0, n_m1ge0, n_m1gt0, n_m1eq0, n_m1lt, bI_eq0, bI_ne0, tb_eq0, tb_eq1, e0]
  have key : ∀ i, i ≤ k → WP d mX11_goneBefore 4 [some (.ref 88), some (.int (nI k)), some (.int (nI (gb o i))), some (.int (nI i))] [] h Q = Q (some (.int (nI (gb o k)))) h := by
    refine lup (P := fun i => WP d mX11_goneBefore 4 [some (.ref 88), some (.int (nI k)), some (.int (nI (gb o i))), some (.int (nI i))] [] h Q = Q (some (.int (nI (gb o k)))) h) ?_ ?_
    · rw [r_X11_goneBefore_4]
      simp (disch := first | omega | assumption) only [r_X11_goneBefore_0, r_X11_goneBefore_1, r_X11_goneBefore_2, r_X11_goneBefore_3, r_X11_goneBefore_5, r_X11_goneBefore_6, r_X11_goneBefore_9, r_X11_goneBefore_10, r_X11_goneBefore_11, r_X11_goneBefore_12, r_X11_goneBefore_15, r_X11_goneBefore_16, r_X11_goneBefore_17, r_X11_goneBefore_18, r_X11_goneBefore_19, r_X11_goneBefore_20, r_X11_goneBefore_23, r_X11_goneBefore_26, r_X11_goneBefore_27, gF_0, gF_1, gF_2, gF_3, gF_4, gF_5, gF_6, gF_7, gF_8, gF_9, gF_10, gF_11, gF_12, gF_13, gF_14, gF_15, gF_16, gF_17, pF_0, pF_1, pF_2, pF_3, pF_4, pF_5, pF_6, pF_7, pF_8, pF_9, pF_10, pF_11, pF_12, pF_13, pF_14, pF_15, pF_16, pF_17, gI_of, gL_of, gR_of, sI_of, sL_of, gN_of, gO_of, cl_i, cl_r, cl_l, cl_n, pu_s, pu_n, rV_s, hg_same, hg_ne, if_true, if_false, true_and, and_true, ne_eq, not_false_eq_true, not_true_eq_false, eq_self, reduceCtorEq, Nat.reduceAdd, nI_add, n_mul, n_sub, n_div, n_dec, n_dif, n_shl1, n_bit, n_eq0, n_0eq, n_eq, n_lt, n_le, n_lt0, n_ge0, n_gt0, n_le0, n_em1, n_m1e, n_m1lt0, n_m1ge0, n_m1gt0, n_m1eq0, n_m1lt, bI_eq0, bI_ne0, tb_eq0, tb_eq1, Nat.le_refl, e0]
    · intro i hi ih
      have ei : f i = nI (o i) := f2 i (by omega)
      have hoi := ho i (by omega)
      rw [r_X11_goneBefore_4]
      simp (disch := first | omega | assumption) only [r_X11_goneBefore_0, r_X11_goneBefore_1, r_X11_goneBefore_2, r_X11_goneBefore_3, r_X11_goneBefore_5, r_X11_goneBefore_6, r_X11_goneBefore_9, r_X11_goneBefore_10, r_X11_goneBefore_11, r_X11_goneBefore_12, r_X11_goneBefore_15, r_X11_goneBefore_16, r_X11_goneBefore_17, r_X11_goneBefore_18, r_X11_goneBefore_19, r_X11_goneBefore_20, r_X11_goneBefore_23, r_X11_goneBefore_26, r_X11_goneBefore_27, gF_0, gF_1, gF_2, gF_3, gF_4, gF_5, gF_6, gF_7, gF_8, gF_9, gF_10, gF_11, gF_12, gF_13, gF_14, gF_15, gF_16, gF_17, pF_0, pF_1, pF_2, pF_3, pF_4, pF_5, pF_6, pF_7, pF_8, pF_9, pF_10, pF_11, pF_12, pF_13, pF_14, pF_15, pF_16, pF_17, gI_of, gL_of, gR_of, sI_of, sL_of, gN_of, gO_of, cl_i, cl_r, cl_l, cl_n, pu_s, pu_n, rV_s, hg_same, hg_ne, if_true, if_false, true_and, and_true, ne_eq, not_false_eq_true, not_true_eq_false, eq_self, reduceCtorEq, Nat.reduceAdd, nI_add, n_mul, n_sub, n_div, n_dec, n_dif, n_shl1, n_bit, n_eq0, n_0eq, n_eq, n_lt, n_le, n_lt0, n_ge0, n_gt0, n_le0, n_em1, n_m1e, n_m1lt0, n_m1ge0, n_m1gt0, n_m1eq0, n_m1lt, bI_eq0, bI_ne0, tb_eq0, tb_eq1, show ¬ k ≤ i by omega, e0, f1, ei, n_or]
      exact ih
  exact key 0 (by omega)
theorem m_goingAt {d n p k : Nat} {G o : Nat → Nat} {h : j_H} {Q : Option Value → j_H → Prop} (H : rG h n p G o) (hG : okG n G) (hn : n ≤ 20) (ho : ∀ i, i < n → o i < n) (hk : k < n) : WP (d + 1) mX11_goingAt 0 [some (.ref 88), some (.int (nI k))] [] h Q = Q (some (.int (nI (gg G n o k)))) h := by
  obtain ⟨a, b, c, e0⟩ := id H.1
  obtain ⟨f, f1, f2⟩ := H.2.2
  have ek : f k = nI (o k) := f2 k hk
  have hl := pow20 hn (gb_lt ho (show k ≤ n by omega))
  have hok := ho k hk
  simp (disch := first | omega | assumption) only [r_X11_goingAt_0, r_X11_goingAt_1, r_X11_goingAt_2, r_X11_goingAt_5, r_X11_goingAt_6, r_X11_goingAt_7, r_X11_goingAt_8, r_X11_goingAt_9, r_X11_goingAt_12, r_X11_goingAt_15, gF_0, gF_1, gF_2, gF_3, gF_4, gF_5, gF_6, gF_7, gF_8, gF_9, gF_10, gF_11, gF_12, gF_13, gF_14, gF_15, gF_16, gF_17, pF_0, pF_1, pF_2, pF_3, pF_4, pF_5, pF_6, pF_7, pF_8, pF_9, pF_10, pF_11, pF_12, pF_13, pF_14, pF_15, pF_16, pF_17, gI_of, gL_of, gR_of, sI_of, sL_of, gN_of, gO_of, cl_i, cl_r, cl_l, cl_n, pu_s, pu_n, rV_s, hg_same, hg_ne, if_true, if_false, true_and, and_true, ne_eq, not_false_eq_true, not_true_eq_false, eq_self, reduceCtorEq, Nat.reduceAdd, nI_add, n_mul, n_sub, n_div, n_dec, n_dif, n_shl1, n_bit, n_eq0, n_0eq, n_eq, n_lt, n_le, n_lt0, n_ge0, n_gt0, n_le0, n_em1, n_m1e, n_m1lt0, n_m1ge0, n_m1gt0, n_m1eq0, n_m1lt, bI_eq0, bI_ne0, tb_eq0, tb_eq1, e0, f1, ek, m_goneBefore H hn ho (show k ≤ n by omega), m_joinedWhen H.1 hG H.2.1 hn hl hok]
  rfl
theorem m_parentPlace {d n p k : Nat} {G o : Nat → Nat} {h : j_H} {Q : Option Value → j_H → Prop} (H : rG h n p G o) (hG : okG n G) (hn : n ≤ 20) (ho : ∀ i, i < n → o i < n) (hk : k < n) : WP (d + 2) mX11_parentPlace 0 [some (.ref 88), some (.int (nI k)), none, none, none] [] h Q = Q (some (.int (vf n (pl G n o k)))) h := by
  obtain ⟨a, b, c, e0⟩ := id H.1
  obtain ⟨f, f1, f2⟩ := id H.2.2
  have hl := pow20 hn (gg_lt G n o k)
  simp (disch := first | omega | assumption) only [r_X11_parentPlace_0, r_X11_parentPlace_1, r_X11_parentPlace_2, r_X11_parentPlace_5, r_X11_parentPlace_6, r_X11_parentPlace_7, r_X11_parentPlace_8, r_X11_parentPlace_9, r_X11_parentPlace_12, r_X11_parentPlace_13, r_X11_parentPlace_14, r_X11_parentPlace_18, r_X11_parentPlace_19, r_X11_parentPlace_22, r_X11_parentPlace_23, r_X11_parentPlace_24, r_X11_parentPlace_27, r_X11_parentPlace_29, r_X11_parentPlace_30, r_X11_parentPlace_31, r_X11_parentPlace_32, r_X11_parentPlace_33, r_X11_parentPlace_34, r_X11_parentPlace_37, r_X11_parentPlace_39, r_X11_parentPlace_42, r_X11_parentPlace_43, r_X11_parentPlace_44, r_X11_parentPlace_47, r_X11_parentPlace_50, r_X11_parentPlace_51, gF_0, gF_1, gF_2, gF_3, gF_4, gF_5, gF_6, gF_7, gF_8, gF_9, gF_10, gF_11, gF_12, gF_13, gF_14, gF_15, gF_16, gF_17, pF_0, pF_1, pF_2, pF_3, pF_4, pF_5, pF_6, pF_7, pF_8, pF_9, pF_10, pF_11, pF_12, pF_13, pF_14, pF_15, pF_16, pF_17, gI_of, gL_of, gR_of, sI_of, sL_of, gN_of, gO_of, cl_i, cl_r, cl_l, cl_n, pu_s, pu_n, rV_s, hg_same, hg_ne, if_true, if_false, true_and, and_true, ne_eq, not_false_eq_true, not_true_eq_false, eq_self, reduceCtorEq, Nat.reduceAdd, nI_add, n_mul, n_sub, n_div, n_dec, n_dif, n_shl1, n_bit, n_eq0, n_0eq, n_eq, n_lt, n_le, n_lt0, n_ge0, n_gt0, n_le0, n_em1, n_m1e, n_m1lt0, n_m1ge0, n_m1gt0, n_m1eq0, n_m1lt, bI_eq0, bI_ne0, tb_eq0, tb_eq1, e0, m_goingAt H hG hn ho hk]
  have key : ∀ t, k + t < n → WP (d + 2) mX11_parentPlace 16 [some (.ref 88), some (.int (nI k)), some (.int (nI (gg G n o k))), some (.int (vf n (fp (fun i _ => tb (gg G n o k) (o i)) 0 n (k + t + 1)))), some (.int (nI (k + t)))] [] h Q = Q (some (.int (vf n (pl G n o k)))) h := by
    intro t
    induction t with
    | zero =>
      intro _
      rw [r_X11_parentPlace_16]
      simp (disch := first | omega | assumption) only [r_X11_parentPlace_0, r_X11_parentPlace_1, r_X11_parentPlace_2, r_X11_parentPlace_5, r_X11_parentPlace_6, r_X11_parentPlace_7, r_X11_parentPlace_8, r_X11_parentPlace_9, r_X11_parentPlace_12, r_X11_parentPlace_13, r_X11_parentPlace_14, r_X11_parentPlace_18, r_X11_parentPlace_19, r_X11_parentPlace_22, r_X11_parentPlace_23, r_X11_parentPlace_24, r_X11_parentPlace_27, r_X11_parentPlace_29, r_X11_parentPlace_30, r_X11_parentPlace_31, r_X11_parentPlace_32, r_X11_parentPlace_33, r_X11_parentPlace_34, r_X11_parentPlace_37, r_X11_parentPlace_39, r_X11_parentPlace_42, r_X11_parentPlace_43, r_X11_parentPlace_44, r_X11_parentPlace_47, r_X11_parentPlace_50, r_X11_parentPlace_51, gF_0, gF_1, gF_2, gF_3, gF_4, gF_5, gF_6, gF_7, gF_8, gF_9, gF_10, gF_11, gF_12, gF_13, gF_14, gF_15, gF_16, gF_17, pF_0, pF_1, pF_2, pF_3, pF_4, pF_5, pF_6, pF_7, pF_8, pF_9, pF_10, pF_11, pF_12, pF_13, pF_14, pF_15, pF_16, pF_17, gI_of, gL_of, gR_of, sI_of, sL_of, gN_of, gO_of, cl_i, cl_r, cl_l, cl_n, pu_s, pu_n, rV_s, hg_same, hg_ne, if_true, if_false, true_and, and_true, ne_eq, not_false_eq_true, not_true_eq_false, eq_self, reduceCtorEq, Nat.reduceAdd, nI_add, n_mul, n_sub, n_div, n_dec, n_dif, n_shl1, n_bit, n_eq0, n_0eq, n_eq, n_lt, n_le, n_lt0, n_ge0, n_gt0, n_le0, n_em1, n_m1e, n_m1lt0, n_m1ge0, n_m1gt0, n_m1eq0, n_m1lt, bI_eq0, bI_ne0, tb_eq0, tb_eq1, Nat.add_zero, Nat.le_refl]
      rfl
    | succ t ih =>
      intro ht
      have ih := ih (by omega)
      have ei : f (k + (t + 1)) = nI (o (k + (t + 1))) := f2 _ ht
      have hoi := ho _ ht
      have hb := tb_lt (gg G n o k) (o (k + (t + 1)))
      have hd : nI (k + (t + 1)) + (-1) = nI (k + t) := by rw [n_dec (by omega)]; rfl
      rw [show k + t + 1 = k + (t + 1) by omega] at ih
      rw [r_X11_parentPlace_16]
      cases hbit : (gg G n o k).testBit (o (k + (t + 1))) with
      | true =>
        have e1 : fp (fun i _ => tb (gg G n o k) (o i)) 0 n (k + (t + 1)) = k + (t + 1) := fp_hit ht (by show tb (gg G n o k) (o (k + (t + 1))) ≠ 0; rw [tb_1 hbit]; decide)
        rw [e1] at ih
        simp (disch := first | omega | assumption) only [r_X11_parentPlace_0, r_X11_parentPlace_1, r_X11_parentPlace_2, r_X11_parentPlace_5, r_X11_parentPlace_6, r_X11_parentPlace_7, r_X11_parentPlace_8, r_X11_parentPlace_9, r_X11_parentPlace_12, r_X11_parentPlace_13, r_X11_parentPlace_14, r_X11_parentPlace_18, r_X11_parentPlace_19, r_X11_parentPlace_22, r_X11_parentPlace_23, r_X11_parentPlace_24, r_X11_parentPlace_27, r_X11_parentPlace_29, r_X11_parentPlace_30, r_X11_parentPlace_31, r_X11_parentPlace_32, r_X11_parentPlace_33, r_X11_parentPlace_34, r_X11_parentPlace_37, r_X11_parentPlace_39, r_X11_parentPlace_42, r_X11_parentPlace_43, r_X11_parentPlace_44, r_X11_parentPlace_47, r_X11_parentPlace_50, r_X11_parentPlace_51, gF_0, gF_1, gF_2, gF_3, gF_4, gF_5, gF_6, gF_7, gF_8, gF_9, gF_10, gF_11, gF_12, gF_13, gF_14, gF_15, gF_16, gF_17, pF_0, pF_1, pF_2, pF_3, pF_4, pF_5, pF_6, pF_7, pF_8, pF_9, pF_10, pF_11, pF_12, pF_13, pF_14, pF_15, pF_16, pF_17, gI_of, gL_of, gR_of, sI_of, sL_of, gN_of, gO_of, cl_i, cl_r, cl_l, cl_n, pu_s, pu_n, rV_s, hg_same, hg_ne, if_true, if_false, true_and, and_true, ne_eq, not_false_eq_true, not_true_eq_false, eq_self, reduceCtorEq, Nat.reduceAdd, nI_add, n_mul, n_sub, n_div, n_dec, n_dif, n_shl1, n_bit, n_eq0, n_0eq, n_eq, n_lt, n_le, n_lt0, n_ge0, n_gt0, n_le0, n_em1, n_m1e, n_m1lt0, n_m1ge0, n_m1gt0, n_m1eq0, n_m1lt, bI_eq0, bI_ne0, tb_eq0, tb_eq1, show ¬ k + (t + 1) ≤ k by omega, e0, f1, ei, hbit, hd]
        unfold vf at ih
        rw [if_pos ht] at ih
        exact ih
      | false =>
        have e1 : fp (fun i _ => tb (gg G n o k) (o i)) 0 n (k + (t + 1)) = fp (fun i _ => tb (gg G n o k) (o i)) 0 n (k + (t + 1) + 1) := fp_skip ht (by show tb (gg G n o k) (o (k + (t + 1))) = 0; rw [tb_0 hbit])
        rw [e1] at ih
        simp (disch := first | omega | assumption) only [r_X11_parentPlace_0, r_X11_parentPlace_1, r_X11_parentPlace_2, r_X11_parentPlace_5, r_X11_parentPlace_6, r_X11_parentPlace_7, r_X11_parentPlace_8, r_X11_parentPlace_9, r_X11_parentPlace_12, r_X11_parentPlace_13, r_X11_parentPlace_14, r_X11_parentPlace_18, r_X11_parentPlace_19, r_X11_parentPlace_22, r_X11_parentPlace_23, r_X11_parentPlace_24, r_X11_parentPlace_27, r_X11_parentPlace_29, r_X11_parentPlace_30, r_X11_parentPlace_31, r_X11_parentPlace_32, r_X11_parentPlace_33, r_X11_parentPlace_34, r_X11_parentPlace_37, r_X11_parentPlace_39, r_X11_parentPlace_42, r_X11_parentPlace_43, r_X11_parentPlace_44, r_X11_parentPlace_47, r_X11_parentPlace_50, r_X11_parentPlace_51, gF_0, gF_1, gF_2, gF_3, gF_4, gF_5, gF_6, gF_7, gF_8, gF_9, gF_10, gF_11, gF_12, gF_13, gF_14, gF_15, gF_16, gF_17, pF_0, pF_1, pF_2, pF_3, pF_4, pF_5, pF_6, pF_7, pF_8, pF_9, pF_10, pF_11, pF_12, pF_13, pF_14, pF_15, pF_16, pF_17, gI_of, gL_of, gR_of, sI_of, sL_of, gN_of, gO_of, cl_i, cl_r, cl_l, cl_n, pu_s, pu_n, rV_s, hg_same, hg_ne, if_true, if_false, true_and, and_true, ne_eq, not_false_eq_true, not_true_eq_false, eq_self, reduceCtorEq, Nat.reduceAdd, nI_add, n_mul, n_sub, n_div, n_dec, n_dif, n_shl1, n_bit, n_eq0, n_0eq, n_eq, n_lt, n_le, n_lt0, n_ge0, n_gt0, n_le0, n_em1, n_m1e, n_m1lt0, n_m1ge0, n_m1gt0, n_m1eq0, n_m1lt, bI_eq0, bI_ne0, tb_eq0, tb_eq1, show ¬ k + (t + 1) ≤ k by omega, e0, f1, ei, hbit, hd, Bool.false_eq_true]
        exact ih
  have := key (n - 1 - k) (by omega)
  rw [show k + (n - 1 - k) + 1 = n by omega, show k + (n - 1 - k) = n - 1 by omega, fp_end] at this
  unfold vf at this ⊢
  rw [if_neg (Nat.lt_irrefl n)] at this
  exact this
theorem ff_le (G : Nat → Nat) (n S g : Nat) (k : Nat) : sm (fun u => if (es G n S g).testBit u = true then pc (df (df (es G n S g) (es G n S u)) (2 ^ u)) 20 else 0) k ≤ k * 20 := sm_le k (fun i _ => by
  split
  · exact pc_le _ _
  · omega)
theorem m_fillOf {d n p S u : Nat} {G : Nat → Nat} {h : j_H} {Q : Option Value → j_H → Prop} (h0 : mO h n p) (h98 : hI h 98 20 n (fun i => nI (G i))) (hG : okG n G) (hn : n ≤ 20) (hS : S < 2 ^ 20) (hu : u < n) : WP (d + 1) mX11_fillOf 0 [some (.ref 88), some (.int (nI u)), some (.int (nI S)), none, none, none] [] h Q = Q (some (.int (nI (ff G n S u / 2)))) h := by
  obtain ⟨a, b, c, e0⟩ := id h0
  have hl := pow20 hn (es_lt G n S u)
  simp (disch := first | omega | assumption) only [r_X11_fillOf_0, r_X11_fillOf_1, r_X11_fillOf_2, r_X11_fillOf_3, r_X11_fillOf_6, r_X11_fillOf_7, r_X11_fillOf_8, r_X11_fillOf_10, r_X11_fillOf_11, r_X11_fillOf_15, r_X11_fillOf_16, r_X11_fillOf_19, r_X11_fillOf_22, r_X11_fillOf_23, r_X11_fillOf_25, r_X11_fillOf_26, r_X11_fillOf_27, r_X11_fillOf_28, r_X11_fillOf_29, r_X11_fillOf_32, r_X11_fillOf_34, r_X11_fillOf_35, r_X11_fillOf_36, r_X11_fillOf_38, r_X11_fillOf_39, r_X11_fillOf_42, r_X11_fillOf_43, r_X11_fillOf_44, r_X11_fillOf_45, r_X11_fillOf_46, r_X11_fillOf_48, r_X11_fillOf_49, r_X11_fillOf_50, r_X11_fillOf_51, r_X11_fillOf_52, r_X11_fillOf_55, r_X11_fillOf_56, r_X11_fillOf_58, r_X11_fillOf_61, r_X11_fillOf_64, r_X11_fillOf_66, r_X11_fillOf_67, r_X11_fillOf_68, gF_0, gF_1, gF_2, gF_3, gF_4, gF_5, gF_6, gF_7, gF_8, gF_9, gF_10, gF_11, gF_12, gF_13, gF_14, gF_15, gF_16, gF_17, pF_0, pF_1, pF_2, pF_3, pF_4, pF_5, pF_6, pF_7, pF_8, pF_9, pF_10, pF_11, pF_12, pF_13, pF_14, pF_15, pF_16, pF_17, gI_of, gL_of, gR_of, sI_of, sL_of, gN_of, gO_of, cl_i, cl_r, cl_l, cl_n, pu_s, pu_n, rV_s, hg_same, hg_ne, if_true, if_false, true_and, and_true, ne_eq, not_false_eq_true, not_true_eq_false, eq_self, reduceCtorEq, Nat.reduceAdd, nI_add, n_mul, n_sub, n_div, n_dec, n_dif, n_shl1, n_bit, n_eq0, n_0eq, n_eq, n_lt, n_le, n_lt0, n_ge0, n_gt0, n_le0, n_em1, n_m1e, n_m1lt0, n_m1ge0, n_m1gt0, n_m1eq0, n_m1lt, bI_eq0, bI_ne0, tb_eq0, tb_eq1, e0, m_joinedWhen h0 hG h98 hn hS hu]
  have key : ∀ k, k ≤ n → WP (d + 1) mX11_fillOf 13 [some (.ref 88), some (.int (nI u)), some (.int (nI S)), some (.int (nI (es G n S u))), some (.int (nI (sm (fun w => if (es G n S u).testBit w = true then pc (df (df (es G n S u) (es G n S w)) (2 ^ w)) 20 else 0) k))), some (.int (nI k))] [] h Q = Q (some (.int (nI (ff G n S u / 2)))) h := by
    refine lup (P := fun k => WP (d + 1) mX11_fillOf 13 [some (.ref 88), some (.int (nI u)), some (.int (nI S)), some (.int (nI (es G n S u))), some (.int (nI (sm (fun w => if (es G n S u).testBit w = true then pc (df (df (es G n S u) (es G n S w)) (2 ^ w)) 20 else 0) k))), some (.int (nI k))] [] h Q = Q (some (.int (nI (ff G n S u / 2)))) h) ?_ ?_
    · have hle := ff_le G n S u n
      rw [r_X11_fillOf_13]
      simp (disch := first | omega | assumption) only [r_X11_fillOf_0, r_X11_fillOf_1, r_X11_fillOf_2, r_X11_fillOf_3, r_X11_fillOf_6, r_X11_fillOf_7, r_X11_fillOf_8, r_X11_fillOf_10, r_X11_fillOf_11, r_X11_fillOf_15, r_X11_fillOf_16, r_X11_fillOf_19, r_X11_fillOf_22, r_X11_fillOf_23, r_X11_fillOf_25, r_X11_fillOf_26, r_X11_fillOf_27, r_X11_fillOf_28, r_X11_fillOf_29, r_X11_fillOf_32, r_X11_fillOf_34, r_X11_fillOf_35, r_X11_fillOf_36, r_X11_fillOf_38, r_X11_fillOf_39, r_X11_fillOf_42, r_X11_fillOf_43, r_X11_fillOf_44, r_X11_fillOf_45, r_X11_fillOf_46, r_X11_fillOf_48, r_X11_fillOf_49, r_X11_fillOf_50, r_X11_fillOf_51, r_X11_fillOf_52, r_X11_fillOf_55, r_X11_fillOf_56, r_X11_fillOf_58, r_X11_fillOf_61, r_X11_fillOf_64, r_X11_fillOf_66, r_X11_fillOf_67, r_X11_fillOf_68, gF_0, gF_1, gF_2, gF_3, gF_4, gF_5, gF_6, gF_7, gF_8, gF_9, gF_10, gF_11, gF_12, gF_13, gF_14, gF_15, gF_16, gF_17, pF_0, pF_1, pF_2, pF_3, pF_4, pF_5, pF_6, pF_7, pF_8, pF_9, pF_10, pF_11, pF_12, pF_13, pF_14, pF_15, pF_16, pF_17, gI_of, gL_of, gR_of, sI_of, sL_of, gN_of, gO_of, cl_i, cl_r, cl_l, cl_n, pu_s, pu_n, rV_s, hg_same, hg_ne, if_true, if_false, true_and, and_true, ne_eq, not_false_eq_true, not_true_eq_false, eq_self, reduceCtorEq, Nat.reduceAdd, nI_add, n_mul, n_sub, n_div, n_dec, n_dif, n_shl1, n_bit, n_eq0, n_0eq, n_eq, n_lt, n_le, n_lt0, n_ge0, n_gt0, n_le0, n_em1, n_m1e, n_m1lt0, n_m1ge0, n_m1gt0, n_m1eq0, n_m1lt, bI_eq0, bI_ne0, tb_eq0, tb_eq1, Nat.le_refl, e0, show ¬ (2 : Nat) = 0 by decide]
      rfl
    · intro k hk ih
      have hb := tb_lt (es G n S u) k
      rw [sm] at ih
      rw [r_X11_fillOf_13]
      cases hbit : (es G n S u).testBit k with
      | true =>
        have hl2 : df (df (es G n S u) (es G n S k)) (2 ^ k) < 2 ^ 20 := Nat.lt_of_le_of_lt (Nat.le_trans (df_le _ _) (df_le _ _)) hl
        simp only [hbit, if_true] at ih
        simp (disch := first | omega | assumption) only [r_X11_fillOf_0, r_X11_fillOf_1, r_X11_fillOf_2, r_X11_fillOf_3, r_X11_fillOf_6, r_X11_fillOf_7, r_X11_fillOf_8, r_X11_fillOf_10, r_X11_fillOf_11, r_X11_fillOf_15, r_X11_fillOf_16, r_X11_fillOf_19, r_X11_fillOf_22, r_X11_fillOf_23, r_X11_fillOf_25, r_X11_fillOf_26, r_X11_fillOf_27, r_X11_fillOf_28, r_X11_fillOf_29, r_X11_fillOf_32, r_X11_fillOf_34, r_X11_fillOf_35, r_X11_fillOf_36, r_X11_fillOf_38, r_X11_fillOf_39, r_X11_fillOf_42, r_X11_fillOf_43, r_X11_fillOf_44, r_X11_fillOf_45, r_X11_fillOf_46, r_X11_fillOf_48, r_X11_fillOf_49, r_X11_fillOf_50, r_X11_fillOf_51, r_X11_fillOf_52, r_X11_fillOf_55, r_X11_fillOf_56, r_X11_fillOf_58, r_X11_fillOf_61, r_X11_fillOf_64, r_X11_fillOf_66, r_X11_fillOf_67, r_X11_fillOf_68, gF_0, gF_1, gF_2, gF_3, gF_4, gF_5, gF_6, gF_7, gF_8, gF_9, gF_10, gF_11, gF_12, gF_13, gF_14, gF_15, gF_16, gF_17, pF_0, pF_1, pF_2, pF_3, pF_4, pF_5, pF_6, pF_7, pF_8, pF_9, pF_10, pF_11, pF_12, pF_13, pF_14, pF_15, pF_16, pF_17, gI_of, gL_of, gR_of, sI_of, sL_of, gN_of, gO_of, cl_i, cl_r, cl_l, cl_n, pu_s, pu_n, rV_s, hg_same, hg_ne, if_true, if_false, true_and, and_true, ne_eq, not_false_eq_true, not_true_eq_false, eq_self, reduceCtorEq, Nat.reduceAdd, nI_add, n_mul, n_sub, n_div, n_dec, n_dif, n_shl1, n_bit, n_eq0, n_0eq, n_eq, n_lt, n_le, n_lt0, n_ge0, n_gt0, n_le0, n_em1, n_m1e, n_m1lt0, n_m1ge0, n_m1gt0, n_m1eq0, n_m1lt, bI_eq0, bI_ne0, tb_eq0, tb_eq1, show ¬ n ≤ k by omega, e0, hbit, m_joinedWhen h0 hG h98 hn hS hk, m_bits]
        exact ih
      | false =>
        simp only [hbit, Bool.false_eq_true, if_false, Nat.add_zero] at ih
        simp (disch := first | omega | assumption) only [r_X11_fillOf_0, r_X11_fillOf_1, r_X11_fillOf_2, r_X11_fillOf_3, r_X11_fillOf_6, r_X11_fillOf_7, r_X11_fillOf_8, r_X11_fillOf_10, r_X11_fillOf_11, r_X11_fillOf_15, r_X11_fillOf_16, r_X11_fillOf_19, r_X11_fillOf_22, r_X11_fillOf_23, r_X11_fillOf_25, r_X11_fillOf_26, r_X11_fillOf_27, r_X11_fillOf_28, r_X11_fillOf_29, r_X11_fillOf_32, r_X11_fillOf_34, r_X11_fillOf_35, r_X11_fillOf_36, r_X11_fillOf_38, r_X11_fillOf_39, r_X11_fillOf_42, r_X11_fillOf_43, r_X11_fillOf_44, r_X11_fillOf_45, r_X11_fillOf_46, r_X11_fillOf_48, r_X11_fillOf_49, r_X11_fillOf_50, r_X11_fillOf_51, r_X11_fillOf_52, r_X11_fillOf_55, r_X11_fillOf_56, r_X11_fillOf_58, r_X11_fillOf_61, r_X11_fillOf_64, r_X11_fillOf_66, r_X11_fillOf_67, r_X11_fillOf_68, gF_0, gF_1, gF_2, gF_3, gF_4, gF_5, gF_6, gF_7, gF_8, gF_9, gF_10, gF_11, gF_12, gF_13, gF_14, gF_15, gF_16, gF_17, pF_0, pF_1, pF_2, pF_3, pF_4, pF_5, pF_6, pF_7, pF_8, pF_9, pF_10, pF_11, pF_12, pF_13, pF_14, pF_15, pF_16, pF_17, gI_of, gL_of, gR_of, sI_of, sL_of, gN_of, gO_of, cl_i, cl_r, cl_l, cl_n, pu_s, pu_n, rV_s, hg_same, hg_ne, if_true, if_false, true_and, and_true, ne_eq, not_false_eq_true, not_true_eq_false, eq_self, reduceCtorEq, Nat.reduceAdd, nI_add, n_mul, n_sub, n_div, n_dec, n_dif, n_shl1, n_bit, n_eq0, n_0eq, n_eq, n_lt, n_le, n_lt0, n_ge0, n_gt0, n_le0, n_em1, n_m1e, n_m1lt0, n_m1ge0, n_m1gt0, n_m1eq0, n_m1lt, bI_eq0, bI_ne0, tb_eq0, tb_eq1, show ¬ n ≤ k by omega, e0, hbit, Bool.false_eq_true]
        exact ih
  exact key 0 (by omega)
theorem m_findGraph {d n p : Nat} {C : Nat → Nat → Int32} {h : j_H} {Q : Option Value → j_H → Prop} (h0 : mO h n p) (h1 : mC h C) (h98 : isI h 98 20) (hn : n ≤ 20) (hz : ∀ a b, (n ≤ a ∨ n ≤ b) → C a b = 0) (k : ∀ h1, hI h1 98 20 n (fun i => nI (jo C i)) → Sm (fun b => b = 98) h h1 → Q none h1) : WP (d + 2) mX11_findGraph 0 [some (.ref 88), none] [] h Q := by
  obtain ⟨a, b, c, e0⟩ := id h0
  obtain ⟨f0, g0⟩ := h98
  simp (disch := first | omega | assumption) only [r_X11_findGraph_0, r_X11_findGraph_1, r_X11_findGraph_3, r_X11_findGraph_4, r_X11_findGraph_7, r_X11_findGraph_10, r_X11_findGraph_11, r_X11_findGraph_14, r_X11_findGraph_15, r_X11_findGraph_16, r_X11_findGraph_17, r_X11_findGraph_20, r_X11_findGraph_21, r_X11_findGraph_24, r_X11_findGraph_27, gF_0, gF_1, gF_2, gF_3, gF_4, gF_5, gF_6, gF_7, gF_8, gF_9, gF_10, gF_11, gF_12, gF_13, gF_14, gF_15, gF_16, gF_17, pF_0, pF_1, pF_2, pF_3, pF_4, pF_5, pF_6, pF_7, pF_8, pF_9, pF_10, pF_11, pF_12, pF_13, pF_14, pF_15, pF_16, pF_17, gI_of, gL_of, gR_of, sI_of, sL_of, gN_of, gO_of, cl_i, cl_r, cl_l, cl_n, pu_s, pu_n, rV_s, hg_same, hg_ne, if_true, if_false, true_and, and_true, ne_eq, not_false_eq_true, not_true_eq_false, eq_self, reduceCtorEq, Nat.reduceAdd, nI_add, n_mul, n_sub, n_div, n_dec, n_dif, n_shl1, n_bit, n_eq0, n_0eq, n_eq, n_lt, n_le, n_lt0, n_ge0, n_gt0, n_le0, n_em1, n_m1e, n_m1lt0, n_m1ge0, n_m1gt0, n_m1eq0, n_m1lt, bI_eq0, bI_ne0, tb_eq0, tb_eq1, e0]
  have key : ∀ i, i ≤ n → ∀ h' f, Sm (fun b => b = 98) h h' → hg h' 98 = some (aI 20 f) → (∀ x, x < i → f x = nI (jo C x)) → WP (d + 2) mX11_findGraph 2 [some (.ref 88), some (.int (nI i))] [] h' Q := by
    refine lup (P := fun i => ∀ h' f, Sm (fun b => b = 98) h h' → hg h' 98 = some (aI 20 f) → (∀ x, x < i → f x = nI (jo C x)) → WP (d + 2) mX11_findGraph 2 [some (.ref 88), some (.int (nI i))] [] h' Q) ?_ ?_
    · intro h' f hS f1 f2
      have e := (hS.at (b := 88) (by omega)).trans e0
      rw [r_X11_findGraph_2]
      simp (disch := first | omega | assumption) only [r_X11_findGraph_0, r_X11_findGraph_1, r_X11_findGraph_3, r_X11_findGraph_4, r_X11_findGraph_7, r_X11_findGraph_10, r_X11_findGraph_11, r_X11_findGraph_14, r_X11_findGraph_15, r_X11_findGraph_16, r_X11_findGraph_17, r_X11_findGraph_20, r_X11_findGraph_21, r_X11_findGraph_24, r_X11_findGraph_27, gF_0, gF_1, gF_2, gF_3, gF_4, gF_5, gF_6, gF_7, gF_8, gF_9, gF_10, gF_11, gF_12, gF_13, gF_14, gF_15, gF_16, gF_17, pF_0, pF_1, pF_2, pF_3, pF_4, pF_5, pF_6, pF_7, pF_8, pF_9, pF_10, pF_11, pF_12, pF_13, pF_14, pF_15, pF_16, pF_17, gI_of, gL_of, gR_of, sI_of, sL_of, gN_of, gO_of, cl_i, cl_r, cl_l, cl_n, pu_s, pu_n, rV_s, hg_same, hg_ne, if_true, if_false, true_and, and_true, ne_eq, not_false_eq_true, not_true_eq_false, eq_self, reduceCtorEq, Nat.reduceAdd, nI_add, n_mul, n_sub, n_div, n_dec, n_dif, n_shl1, n_bit, n_eq0, n_0eq, n_eq, n_lt, n_le, n_lt0, n_ge0, n_gt0, n_le0, n_em1, n_m1e, n_m1lt0, n_m1ge0, n_m1gt0, n_m1eq0, n_m1lt, bI_eq0, bI_ne0, tb_eq0, tb_eq1, Nat.le_refl, e]
      exact k h' ⟨f, f1, f2⟩ hS
    · intro i hi ih h' f hS f1 f2
      have e := (hS.at (b := 88) (by omega)).trans e0
      have hC : mC h' C := by
        obtain ⟨g, g1, g2⟩ := h1
        exact ⟨g, (hS.at (by omega)).trans g1, g2⟩
      have hm := mjo (C := C) (n := n) (i := i) hz hn
      rw [r_X11_findGraph_2]
      simp (disch := first | omega | assumption) only [r_X11_findGraph_0, r_X11_findGraph_1, r_X11_findGraph_3, r_X11_findGraph_4, r_X11_findGraph_7, r_X11_findGraph_10, r_X11_findGraph_11, r_X11_findGraph_14, r_X11_findGraph_15, r_X11_findGraph_16, r_X11_findGraph_17, r_X11_findGraph_20, r_X11_findGraph_21, r_X11_findGraph_24, r_X11_findGraph_27, gF_0, gF_1, gF_2, gF_3, gF_4, gF_5, gF_6, gF_7, gF_8, gF_9, gF_10, gF_11, gF_12, gF_13, gF_14, gF_15, gF_16, gF_17, pF_0, pF_1, pF_2, pF_3, pF_4, pF_5, pF_6, pF_7, pF_8, pF_9, pF_10, pF_11, pF_12, pF_13, pF_14, pF_15, pF_16, pF_17, gI_of, gL_of, gR_of, sI_of, sL_of, gN_of, gO_of, cl_i, cl_r, cl_l, cl_n, pu_s, pu_n, rV_s, hg_same, hg_ne, if_true, if_false, true_and, and_true, ne_eq, not_false_eq_true, not_true_eq_false, eq_self, reduceCtorEq, Nat.reduceAdd, nI_add, n_mul, n_sub, n_div, n_dec, n_dif, n_shl1, n_bit, n_eq0, n_0eq, n_eq, n_lt, n_le, n_lt0, n_ge0, n_gt0, n_le0, n_em1, n_m1e, n_m1lt0, n_m1ge0, n_m1gt0, n_m1eq0, n_m1lt, bI_eq0, bI_ne0, tb_eq0, tb_eq1, show ¬ n ≤ i by omega, e, f1, m_joinedOf ⟨a, b, c, e⟩ hC hn (show i < 20 by omega), hm]
      refine ih _ _ (hS.set rfl) (hg_same _ _ _) (fun x hx => ?_)
      by_cases e : x = i
      · subst e; rw [up_same]
      · rw [up_ne e]; exact f2 x (by omega)
  exact key 0 (by omega) h f0 (Sm.rf _ h) g0 (fun x hx => by omega)
theorem rG.of {h h1 : j_H} {n p : Nat} {C : Nat → Nat → Int32} {o : Nat → Nat} (h0 : mO h n p) (h91 : hI h 91 20 n (fun i => nI (o i))) (k : hI h1 98 20 n (fun i => nI (jo C i))) (hS : Sm (fun b => b = 98) h h1) : rG h1 n p (jo C) o := by
  obtain ⟨a, b, c, e0⟩ := h0
  exact ⟨⟨a, b, c, (hS.at (by omega)).trans e0⟩, k, h91.keep (hS.at (by omega))⟩
theorem m_fillL {d n p : Nat} {G o : Nat → Nat} {h : j_H} {Q : Option Value → j_H → Prop} (H : rG h n p G o) (hG : okG n G) (hn : n ≤ 20) (ho : ∀ i, i < n → o i < n) : WP (d + 2) mX11_fill 8 [some (.ref 88), some (.int (nI 0)), some (.int (nI 0))] [] h Q = Q (some (.int (nI (fll G n o n)))) h := by
  obtain ⟨a, b, c, e0⟩ := id H.1
  obtain ⟨f, f1, f2⟩ := id H.2.2
  have key : ∀ k, k ≤ n → WP (d + 2) mX11_fill 8 [some (.ref 88), some (.int (nI (fll G n o k))), some (.int (nI k))] [] h Q = Q (some (.int (nI (fll G n o n)))) h := by
    refine lup (P := fun k => WP (d + 2) mX11_fill 8 [some (.ref 88), some (.int (nI (fll G n o k))), some (.int (nI k))] [] h Q = Q (some (.int (nI (fll G n o n)))) h) ?_ ?_
    · rw [r_X11_fill_8]
      simp (disch := first | omega | assumption) only [r_X11_fill_0, r_X11_fill_1, r_X11_fill_4, r_X11_fill_5, r_X11_fill_6, r_X11_fill_7, r_X11_fill_9, r_X11_fill_10, r_X11_fill_13, r_X11_fill_16, r_X11_fill_17, r_X11_fill_18, r_X11_fill_19, r_X11_fill_22, r_X11_fill_23, r_X11_fill_24, r_X11_fill_25, r_X11_fill_26, r_X11_fill_29, r_X11_fill_32, r_X11_fill_33, r_X11_fill_34, r_X11_fill_37, r_X11_fill_40, r_X11_fill_41, gF_0, gF_1, gF_2, gF_3, gF_4, gF_5, gF_6, gF_7, gF_8, gF_9, gF_10, gF_11, gF_12, gF_13, gF_14, gF_15, gF_16, gF_17, pF_0, pF_1, pF_2, pF_3, pF_4, pF_5, pF_6, pF_7, pF_8, pF_9, pF_10, pF_11, pF_12, pF_13, pF_14, pF_15, pF_16, pF_17, gI_of, gL_of, gR_of, sI_of, sL_of, gN_of, gO_of, cl_i, cl_r, cl_l, cl_n, pu_s, pu_n, rV_s, hg_same, hg_ne, if_true, if_false, true_and, and_true, ne_eq, not_false_eq_true, not_true_eq_false, eq_self, reduceCtorEq, Nat.reduceAdd, nI_add, n_mul, n_sub, n_div, n_dec, n_dif, n_shl1, n_bit, n_eq0, n_0eq, n_eq, n_lt, n_le, n_lt0, n_ge0, n_gt0, n_le0, n_em1, n_m1e, n_m1lt0, n_m1ge0, n_m1gt0, n_m1eq0, n_m1lt, bI_eq0, bI_ne0, tb_eq0, tb_eq1, Nat.le_refl, e0]
    · intro k hk ih
      have ek : f k = nI (o k) := f2 k hk
      have hok := ho k hk
      have hl := pow20 hn (gb_lt ho (show k ≤ n by omega))
      rw [r_X11_fill_8]
      simp (disch := first | omega | assumption) only [r_X11_fill_0, r_X11_fill_1, r_X11_fill_4, r_X11_fill_5, r_X11_fill_6, r_X11_fill_7, r_X11_fill_9, r_X11_fill_10, r_X11_fill_13, r_X11_fill_16, r_X11_fill_17, r_X11_fill_18, r_X11_fill_19, r_X11_fill_22, r_X11_fill_23, r_X11_fill_24, r_X11_fill_25, r_X11_fill_26, r_X11_fill_29, r_X11_fill_32, r_X11_fill_33, r_X11_fill_34, r_X11_fill_37, r_X11_fill_40, r_X11_fill_41, gF_0, gF_1, gF_2, gF_3, gF_4, gF_5, gF_6, gF_7, gF_8, gF_9, gF_10, gF_11, gF_12, gF_13, gF_14, gF_15, gF_16, gF_17, pF_0, pF_1, pF_2, pF_3, pF_4, pF_5, pF_6, pF_7, pF_8, pF_9, pF_10, pF_11, pF_12, pF_13, pF_14, pF_15, pF_16, pF_17, gI_of, gL_of, gR_of, sI_of, sL_of, gN_of, gO_of, cl_i, cl_r, cl_l, cl_n, pu_s, pu_n, rV_s, hg_same, hg_ne, if_true, if_false, true_and, and_true, ne_eq, not_false_eq_true, not_true_eq_false, eq_self, reduceCtorEq, Nat.reduceAdd, nI_add, n_mul, n_sub, n_div, n_dec, n_dif, n_shl1, n_bit, n_eq0, n_0eq, n_eq, n_lt, n_le, n_lt0, n_ge0, n_gt0, n_le0, n_em1, n_m1e, n_m1lt0, n_m1ge0, n_m1gt0, n_m1eq0, n_m1lt, bI_eq0, bI_ne0, tb_eq0, tb_eq1, show ¬ n ≤ k by omega, e0, f1, ek, m_goneBefore H hn ho (show k ≤ n by omega), m_fillOf H.1 H.2.1 hG hn hl hok]
      exact ih
  exact key 0 (by omega)
theorem m_workL {d n p : Nat} {G o : Nat → Nat} {h : j_H} {Q : Option Value → j_H → Prop} (H : rG h n p G o) (hG : okG n G) (hn : n ≤ 20) (ho : ∀ i, i < n → o i < n) : WP (d + 2) mX11_work 8 [some (.ref 88), some (.int (nI 0)), some (.int (nI 0)), none] [] h Q = Q (some (.int (nI (sm (fun k => pc (gg G n o k) 20 * pc (gg G n o k) 20) n)))) h := by
  obtain ⟨a, b, c, e0⟩ := id H.1
  have key : ∀ k, k ≤ n → ∀ x3, WP (d + 2) mX11_work 8 [some (.ref 88), some (.int (nI (sm (fun k => pc (gg G n o k) 20 * pc (gg G n o k) 20) k))), some (.int (nI k)), x3] [] h Q = Q (some (.int (nI (sm (fun k => pc (gg G n o k) 20 * pc (gg G n o k) 20) n)))) h := by
    refine lup (P := fun k => ∀ x3, WP (d + 2) mX11_work 8 [some (.ref 88), some (.int (nI (sm (fun k => pc (gg G n o k) 20 * pc (gg G n o k) 20) k))), some (.int (nI k)), x3] [] h Q = Q (some (.int (nI (sm (fun k => pc (gg G n o k) 20 * pc (gg G n o k) 20) n)))) h) ?_ ?_
    · intro x3
      rw [r_X11_work_8]
      simp (disch := first | omega | assumption) only [r_X11_work_0, r_X11_work_1, r_X11_work_4, r_X11_work_5, r_X11_work_6, r_X11_work_7, r_X11_work_9, r_X11_work_10, r_X11_work_13, r_X11_work_16, r_X11_work_17, r_X11_work_18, r_X11_work_21, r_X11_work_24, r_X11_work_25, r_X11_work_26, r_X11_work_27, r_X11_work_28, r_X11_work_29, r_X11_work_30, r_X11_work_31, r_X11_work_34, r_X11_work_37, r_X11_work_38, gF_0, gF_1, gF_2, gF_3, gF_4, gF_5, gF_6, gF_7, gF_8, gF_9, gF_10, gF_11, gF_12, gF_13, gF_14, gF_15, gF_16, gF_17, pF_0, pF_1, pF_2, pF_3, pF_4, pF_5, pF_6, pF_7, pF_8, pF_9, pF_10, pF_11, pF_12, pF_13, pF_14, pF_15, pF_16, pF_17, gI_of, gL_of, gR_of, sI_of, sL_of, gN_of, gO_of, cl_i, cl_r, cl_l, cl_n, pu_s, pu_n, rV_s, hg_same, hg_ne, if_true, if_false, true_and, and_true, ne_eq, not_false_eq_true, not_true_eq_false, eq_self, reduceCtorEq, Nat.reduceAdd, nI_add, n_mul, n_sub, n_div, n_dec, n_dif, n_shl1, n_bit, n_eq0, n_0eq, n_eq, n_lt, n_le, n_lt0, n_ge0, n_gt0, n_le0, n_em1, n_m1e, n_m1lt0, n_m1ge0, n_m1gt0, n_m1eq0, n_m1lt, bI_eq0, bI_ne0, tb_eq0, tb_eq1, Nat.le_refl, e0]
    · intro k hk ih x3
      have hl := pow20 hn (gg_lt G n o k)
      rw [r_X11_work_8]
      simp (disch := first | omega | assumption) only [r_X11_work_0, r_X11_work_1, r_X11_work_4, r_X11_work_5, r_X11_work_6, r_X11_work_7, r_X11_work_9, r_X11_work_10, r_X11_work_13, r_X11_work_16, r_X11_work_17, r_X11_work_18, r_X11_work_21, r_X11_work_24, r_X11_work_25, r_X11_work_26, r_X11_work_27, r_X11_work_28, r_X11_work_29, r_X11_work_30, r_X11_work_31, r_X11_work_34, r_X11_work_37, r_X11_work_38, gF_0, gF_1, gF_2, gF_3, gF_4, gF_5, gF_6, gF_7, gF_8, gF_9, gF_10, gF_11, gF_12, gF_13, gF_14, gF_15, gF_16, gF_17, pF_0, pF_1, pF_2, pF_3, pF_4, pF_5, pF_6, pF_7, pF_8, pF_9, pF_10, pF_11, pF_12, pF_13, pF_14, pF_15, pF_16, pF_17, gI_of, gL_of, gR_of, sI_of, sL_of, gN_of, gO_of, cl_i, cl_r, cl_l, cl_n, pu_s, pu_n, rV_s, hg_same, hg_ne, if_true, if_false, true_and, and_true, ne_eq, not_false_eq_true, not_true_eq_false, eq_self, reduceCtorEq, Nat.reduceAdd, nI_add, n_mul, n_sub, n_div, n_dec, n_dif, n_shl1, n_bit, n_eq0, n_0eq, n_eq, n_lt, n_le, n_lt0, n_ge0, n_gt0, n_le0, n_em1, n_m1e, n_m1lt0, n_m1ge0, n_m1gt0, n_m1eq0, n_m1lt, bI_eq0, bI_ne0, tb_eq0, tb_eq1, show ¬ n ≤ k by omega, e0, m_goingAt H hG hn ho hk, m_bits]
      exact ih _
  exact key 0 (by omega) _
theorem vf_ge {n x : Nat} (hn : n ≤ 20) : (0 ≤ vf n x) = (x < n) := by
  unfold vf
  by_cases h : x < n
  · rw [if_pos h, n_ge0 (by omega)]; exact (eq_true h).symm
  · rw [if_neg h, n_m1ge0]; exact (eq_false h).symm
theorem vf_lt {n x : Nat} (hn : n ≤ 20) : (vf n x < 0) = ¬ (x < n) := by
  unfold vf
  by_cases h : x < n
  · rw [if_pos h, n_lt0 (by omega)]; exact (eq_false (fun q => q h)).symm
  · rw [if_neg h, n_m1lt0]; exact (eq_true h).symm
theorem vf_of {n x : Nat} (h : x < n) : vf n x = nI x := if_pos h
theorem vf_no {n x : Nat} (h : ¬ x < n) : vf n x = -1 := if_neg h
theorem m_rootsL {d n p : Nat} {G o : Nat → Nat} {h : j_H} {Q : Option Value → j_H → Prop} (H : rG h n p G o) (hG : okG n G) (hn : n ≤ 20) (ho : ∀ i, i < n → o i < n) : WP (d + 3) mX11_roots 8 [some (.ref 88), some (.int (nI 0)), some (.int (nI 0))] [] h Q = Q (some (.int (nI (sm (fun k => if pl G n o k < n then 0 else 1) n)))) h := by
  obtain ⟨a, b, c, e0⟩ := id H.1
  have key : ∀ k, k ≤ n → WP (d + 3) mX11_roots 8 [some (.ref 88), some (.int (nI (sm (fun k => if pl G n o k < n then 0 else 1) k))), some (.int (nI k))] [] h Q = Q (some (.int (nI (sm (fun k => if pl G n o k < n then 0 else 1) n)))) h := by
    refine lup (P := fun k => WP (d + 3) mX11_roots 8 [some (.ref 88), some (.int (nI (sm (fun k => if pl G n o k < n then 0 else 1) k))), some (.int (nI k))] [] h Q = Q (some (.int (nI (sm (fun k => if pl G n o k < n then 0 else 1) n)))) h) ?_ ?_
    · rw [r_X11_roots_8]
      simp (disch := first | omega | assumption) only [r_X11_roots_0, r_X11_roots_1, r_X11_roots_4, r_X11_roots_5, r_X11_roots_6, r_X11_roots_7, r_X11_roots_9, r_X11_roots_10, r_X11_roots_13, r_X11_roots_16, r_X11_roots_17, r_X11_roots_18, r_X11_roots_19, r_X11_roots_22, r_X11_roots_25, r_X11_roots_26, r_X11_roots_29, r_X11_roots_30, r_X11_roots_31, r_X11_roots_32, r_X11_roots_35, r_X11_roots_38, r_X11_roots_39, gF_0, gF_1, gF_2, gF_3, gF_4, gF_5, gF_6, gF_7, gF_8, gF_9, gF_10, gF_11, gF_12, gF_13, gF_14, gF_15, gF_16, gF_17, pF_0, pF_1, pF_2, pF_3, pF_4, pF_5, pF_6, pF_7, pF_8, pF_9, pF_10, pF_11, pF_12, pF_13, pF_14, pF_15, pF_16, pF_17, gI_of, gL_of, gR_of, sI_of, sL_of, gN_of, gO_of, cl_i, cl_r, cl_l, cl_n, pu_s, pu_n, rV_s, hg_same, hg_ne, if_true, if_false, true_and, and_true, ne_eq, not_false_eq_true, not_true_eq_false, eq_self, reduceCtorEq, Nat.reduceAdd, nI_add, n_mul, n_sub, n_div, n_dec, n_dif, n_shl1, n_bit, n_eq0, n_0eq, n_eq, n_lt, n_le, n_lt0, n_ge0, n_gt0, n_le0, n_em1, n_m1e, n_m1lt0, n_m1ge0, n_m1gt0, n_m1eq0, n_m1lt, bI_eq0, bI_ne0, tb_eq0, tb_eq1, Nat.le_refl, e0]
    · intro k hk ih
      rw [sm] at ih
      rw [r_X11_roots_8]
      by_cases hq : pl G n o k < n
      · rw [if_pos hq] at ih
        simp (disch := first | omega | assumption) only [r_X11_roots_0, r_X11_roots_1, r_X11_roots_4, r_X11_roots_5, r_X11_roots_6, r_X11_roots_7, r_X11_roots_9, r_X11_roots_10, r_X11_roots_13, r_X11_roots_16, r_X11_roots_17, r_X11_roots_18, r_X11_roots_19, r_X11_roots_22, r_X11_roots_25, r_X11_roots_26, r_X11_roots_29, r_X11_roots_30, r_X11_roots_31, r_X11_roots_32, r_X11_roots_35, r_X11_roots_38, r_X11_roots_39, gF_0, gF_1, gF_2, gF_3, gF_4, gF_5, gF_6, gF_7, gF_8, gF_9, gF_10, gF_11, gF_12, gF_13, gF_14, gF_15, gF_16, gF_17, pF_0, pF_1, pF_2, pF_3, pF_4, pF_5, pF_6, pF_7, pF_8, pF_9, pF_10, pF_11, pF_12, pF_13, pF_14, pF_15, pF_16, pF_17, gI_of, gL_of, gR_of, sI_of, sL_of, gN_of, gO_of, cl_i, cl_r, cl_l, cl_n, pu_s, pu_n, rV_s, hg_same, hg_ne, if_true, if_false, true_and, and_true, ne_eq, not_false_eq_true, not_true_eq_false, eq_self, reduceCtorEq, Nat.reduceAdd, nI_add, n_mul, n_sub, n_div, n_dec, n_dif, n_shl1, n_bit, n_eq0, n_0eq, n_eq, n_lt, n_le, n_lt0, n_ge0, n_gt0, n_le0, n_em1, n_m1e, n_m1lt0, n_m1ge0, n_m1gt0, n_m1eq0, n_m1lt, bI_eq0, bI_ne0, tb_eq0, tb_eq1, show ¬ n ≤ k by omega, e0, m_parentPlace H hG hn ho hk, vf_ge hn, hq]
        exact ih
      · rw [if_neg hq] at ih
        simp (disch := first | omega | assumption) only [r_X11_roots_0, r_X11_roots_1, r_X11_roots_4, r_X11_roots_5, r_X11_roots_6, r_X11_roots_7, r_X11_roots_9, r_X11_roots_10, r_X11_roots_13, r_X11_roots_16, r_X11_roots_17, r_X11_roots_18, r_X11_roots_19, r_X11_roots_22, r_X11_roots_25, r_X11_roots_26, r_X11_roots_29, r_X11_roots_30, r_X11_roots_31, r_X11_roots_32, r_X11_roots_35, r_X11_roots_38, r_X11_roots_39, gF_0, gF_1, gF_2, gF_3, gF_4, gF_5, gF_6, gF_7, gF_8, gF_9, gF_10, gF_11, gF_12, gF_13, gF_14, gF_15, gF_16, gF_17, pF_0, pF_1, pF_2, pF_3, pF_4, pF_5, pF_6, pF_7, pF_8, pF_9, pF_10, pF_11, pF_12, pF_13, pF_14, pF_15, pF_16, pF_17, gI_of, gL_of, gR_of, sI_of, sL_of, gN_of, gO_of, cl_i, cl_r, cl_l, cl_n, pu_s, pu_n, rV_s, hg_same, hg_ne, if_true, if_false, true_and, and_true, ne_eq, not_false_eq_true, not_true_eq_false, eq_self, reduceCtorEq, Nat.reduceAdd, nI_add, n_mul, n_sub, n_div, n_dec, n_dif, n_shl1, n_bit, n_eq0, n_0eq, n_eq, n_lt, n_le, n_lt0, n_ge0, n_gt0, n_le0, n_em1, n_m1e, n_m1lt0, n_m1ge0, n_m1gt0, n_m1eq0, n_m1lt, bI_eq0, bI_ne0, tb_eq0, tb_eq1, show ¬ n ≤ k by omega, e0, m_parentPlace H hG hn ho hk, vf_ge hn, hq]
        exact ih
  exact key 0 (by omega)
theorem m_heightL {d n p : Nat} {G o : Nat → Nat} {h : j_H} {Q : Option Value → j_H → Prop} (H : rG h n p G o) (hG : okG n G) (hn : n ≤ 20) (ho : ∀ i, i < n → o i < n) : WP (d + 3) mX11_height 8 [some (.ref 88), some (.int (nI 0)), some (.int (nI 0)), none, none] [] h Q = Q (some (.int (nI (mxk (dp (pl G n o) n) n)))) h := by
  obtain ⟨a, b, c, e0⟩ := id H.1
  have hok := pl_ok G n o
  have hml : ∀ k, k ≤ n → mxk (dp (pl G n o) n) k ≤ 20 := by
    intro k hk
    cases (mxk_spec (dp (pl G n o) n) k).2 with
    | inl h => omega
    | inr h =>
      obtain ⟨j, h1, h2⟩ := h
      have h3 := dp_end hok (show j < n by omega)
      have h4 := (ht_mv hok n (Nat.le_refl n)).1 j (by omega)
      have h5 := ht_le (pa := pl G n o) (n := n) n
      omega
  have key : ∀ k, k ≤ n → ∀ x3 x4, WP (d + 3) mX11_height 8 [some (.ref 88), some (.int (nI (mxk (dp (pl G n o) n) k))), some (.int (nI k)), x3, x4] [] h Q = Q (some (.int (nI (mxk (dp (pl G n o) n) n)))) h := by
    refine lup (P := fun k => ∀ x3 x4, WP (d + 3) mX11_height 8 [some (.ref 88), some (.int (nI (mxk (dp (pl G n o) n) k))), some (.int (nI k)), x3, x4] [] h Q = Q (some (.int (nI (mxk (dp (pl G n o) n) n)))) h) ?_ ?_
    · intro x3 x4
      rw [r_X11_height_8]
      simp (disch := first | omega | assumption) only [r_X11_height_0, r_X11_height_1, r_X11_height_4, r_X11_height_5, r_X11_height_6, r_X11_height_7, r_X11_height_9, r_X11_height_10, r_X11_height_13, r_X11_height_16, r_X11_height_17, r_X11_height_18, r_X11_height_19, r_X11_height_23, r_X11_height_26, r_X11_height_29, r_X11_height_30, r_X11_height_32, r_X11_height_35, r_X11_height_37, r_X11_height_40, r_X11_height_41, r_X11_height_42, r_X11_height_45, r_X11_height_46, r_X11_height_49, r_X11_height_50, r_X11_height_51, r_X11_height_54, r_X11_height_57, r_X11_height_58, gF_0, gF_1, gF_2, gF_3, gF_4, gF_5, gF_6, gF_7, gF_8, gF_9, gF_10, gF_11, gF_12, gF_13, gF_14, gF_15, gF_16, gF_17, pF_0, pF_1, pF_2, pF_3, pF_4, pF_5, pF_6, pF_7, pF_8, pF_9, pF_10, pF_11, pF_12, pF_13, pF_14, pF_15, pF_16, pF_17, gI_of, gL_of, gR_of, sI_of, sL_of, gN_of, gO_of, cl_i, cl_r, cl_l, cl_n, pu_s, pu_n, rV_s, hg_same, hg_ne, if_true, if_false, true_and, and_true, ne_eq, not_false_eq_true, not_true_eq_false, eq_self, reduceCtorEq, Nat.reduceAdd, nI_add, n_mul, n_sub, n_div, n_dec, n_dif, n_shl1, n_bit, n_eq0, n_0eq, n_eq, n_lt, n_le, n_lt0, n_ge0, n_gt0, n_le0, n_em1, n_m1e, n_m1lt0, n_m1ge0, n_m1gt0, n_m1eq0, n_m1lt, bI_eq0, bI_ne0, tb_eq0, tb_eq1, Nat.le_refl, e0]
    · intro k hk ih x3 x4
      have hmk := hml k (by omega)
      have hdk : dp (pl G n o) n k ≤ 20 := by
        have h3 := dp_end hok hk
        have h4 := (ht_mv hok n (Nat.le_refl n)).1 k hk
        have h5 := ht_le (pa := pl G n o) (n := n) n
        omega
      rw [r_X11_height_8]
      simp (disch := first | omega | assumption) only [r_X11_height_0, r_X11_height_1, r_X11_height_4, r_X11_height_5, r_X11_height_6, r_X11_height_7, r_X11_height_9, r_X11_height_10, r_X11_height_13, r_X11_height_16, r_X11_height_17, r_X11_height_18, r_X11_height_19, r_X11_height_23, r_X11_height_26, r_X11_height_29, r_X11_height_30, r_X11_height_32, r_X11_height_35, r_X11_height_37, r_X11_height_40, r_X11_height_41, r_X11_height_42, r_X11_height_45, r_X11_height_46, r_X11_height_49, r_X11_height_50, r_X11_height_51, r_X11_height_54, r_X11_height_57, r_X11_height_58, gF_0, gF_1, gF_2, gF_3, gF_4, gF_5, gF_6, gF_7, gF_8, gF_9, gF_10, gF_11, gF_12, gF_13, gF_14, gF_15, gF_16, gF_17, pF_0, pF_1, pF_2, pF_3, pF_4, pF_5, pF_6, pF_7, pF_8, pF_9, pF_10, pF_11, pF_12, pF_13, pF_14, pF_15, pF_16, pF_17, gI_of, gL_of, gR_of, sI_of, sL_of, gN_of, gO_of, cl_i, cl_r, cl_l, cl_n, pu_s, pu_n, rV_s, hg_same, hg_ne, if_true, if_false, true_and, and_true, ne_eq, not_false_eq_true, not_true_eq_false, eq_self, reduceCtorEq, Nat.reduceAdd, nI_add, n_mul, n_sub, n_div, n_dec, n_dif, n_shl1, n_bit, n_eq0, n_0eq, n_eq, n_lt, n_le, n_lt0, n_ge0, n_gt0, n_le0, n_em1, n_m1e, n_m1lt0, n_m1ge0, n_m1gt0, n_m1eq0, n_m1lt, bI_eq0, bI_ne0, tb_eq0, tb_eq1, show ¬ n ≤ k by omega, e0]
      have key2 : ∀ f x m, n - x ≤ f → m + dp (pl G n o) n x = dp (pl G n o) n k → x ≤ n → WP (d + 3) mX11_height 21 [some (.ref 88), some (.int (nI (mxk (dp (pl G n o) n) k))), some (.int (nI k)), some (.int (nI m)), some (.int (vf n x))] [] h Q = Q (some (.int (nI (mxk (dp (pl G n o) n) n)))) h := by
        intro f
        induction f with
        | zero =>
          intro x m h1 h2 h3
          have hx : x = n := by omega
          rw [hx, dp_n] at h2
          rw [r_X11_height_21, vf_no (by omega)]
          rw [mxk] at ih
          by_cases hc : mxk (dp (pl G n o) n) k < m
          · rw [if_pos (by omega)] at ih
            simp (disch := first | omega | assumption) only [r_X11_height_0, r_X11_height_1, r_X11_height_4, r_X11_height_5, r_X11_height_6, r_X11_height_7, r_X11_height_9, r_X11_height_10, r_X11_height_13, r_X11_height_16, r_X11_height_17, r_X11_height_18, r_X11_height_19, r_X11_height_23, r_X11_height_26, r_X11_height_29, r_X11_height_30, r_X11_height_32, r_X11_height_35, r_X11_height_37, r_X11_height_40, r_X11_height_41, r_X11_height_42, r_X11_height_45, r_X11_height_46, r_X11_height_49, r_X11_height_50, r_X11_height_51, r_X11_height_54, r_X11_height_57, r_X11_height_58, gF_0, gF_1, gF_2, gF_3, gF_4, gF_5, gF_6, gF_7, gF_8, gF_9, gF_10, gF_11, gF_12, gF_13, gF_14, gF_15, gF_16, gF_17, pF_0, pF_1, pF_2, pF_3, pF_4, pF_5, pF_6, pF_7, pF_8, pF_9, pF_10, pF_11, pF_12, pF_13, pF_14, pF_15, pF_16, pF_17, gI_of, gL_of, gR_of, sI_of, sL_of, gN_of, gO_of, cl_i, cl_r, cl_l, cl_n, pu_s, pu_n, rV_s, hg_same, hg_ne, if_true, if_false, true_and, and_true, ne_eq, not_false_eq_true, not_true_eq_false, eq_self, reduceCtorEq, Nat.reduceAdd, nI_add, n_mul, n_sub, n_div, n_dec, n_dif, n_shl1, n_bit, n_eq0, n_0eq, n_eq, n_lt, n_le, n_lt0, n_ge0, n_gt0, n_le0, n_em1, n_m1e, n_m1lt0, n_m1ge0, n_m1gt0, n_m1eq0, n_m1lt, bI_eq0, bI_ne0, tb_eq0, tb_eq1, show ¬ m ≤ mxk (dp (pl G n o) n) k by omega]
            rw [show m = dp (pl G n o) n k by omega]
            exact ih _ _
          · rw [if_neg (by omega)] at ih
            simp (disch := first | omega | assumption) only [r_X11_height_0, r_X11_height_1, r_X11_height_4, r_X11_height_5, r_X11_height_6, r_X11_height_7, r_X11_height_9, r_X11_height_10, r_X11_height_13, r_X11_height_16, r_X11_height_17, r_X11_height_18, r_X11_height_19, r_X11_height_23, r_X11_height_26, r_X11_height_29, r_X11_height_30, r_X11_height_32, r_X11_height_35, r_X11_height_37, r_X11_height_40, r_X11_height_41, r_X11_height_42, r_X11_height_45, r_X11_height_46, r_X11_height_49, r_X11_height_50, r_X11_height_51, r_X11_height_54, r_X11_height_57, r_X11_height_58, gF_0, gF_1, gF_2, gF_3, gF_4, gF_5, gF_6, gF_7, gF_8, gF_9, gF_10, gF_11, gF_12, gF_13, gF_14, gF_15, gF_16, gF_17, pF_0, pF_1, pF_2, pF_3, pF_4, pF_5, pF_6, pF_7, pF_8, pF_9, pF_10, pF_11, pF_12, pF_13, pF_14, pF_15, pF_16, pF_17, gI_of, gL_of, gR_of, sI_of, sL_of, gN_of, gO_of, cl_i, cl_r, cl_l, cl_n, pu_s, pu_n, rV_s, hg_same, hg_ne, if_true, if_false, true_and, and_true, ne_eq, not_false_eq_true, not_true_eq_false, eq_self, reduceCtorEq, Nat.reduceAdd, nI_add, n_mul, n_sub, n_div, n_dec, n_dif, n_shl1, n_bit, n_eq0, n_0eq, n_eq, n_lt, n_le, n_lt0, n_ge0, n_gt0, n_le0, n_em1, n_m1e, n_m1lt0, n_m1ge0, n_m1gt0, n_m1eq0, n_m1lt, bI_eq0, bI_ne0, tb_eq0, tb_eq1, show m ≤ mxk (dp (pl G n o) n) k by omega]
            exact ih _ _
        | succ f ihf =>
          intro x m h1 h2 h3
          by_cases hx : x < n
          · have hp := hok x hx
            have hs := dp_s hok hx
            rw [r_X11_height_21, vf_of hx]
            simp (disch := first | omega | assumption) only [r_X11_height_0, r_X11_height_1, r_X11_height_4, r_X11_height_5, r_X11_height_6, r_X11_height_7, r_X11_height_9, r_X11_height_10, r_X11_height_13, r_X11_height_16, r_X11_height_17, r_X11_height_18, r_X11_height_19, r_X11_height_23, r_X11_height_26, r_X11_height_29, r_X11_height_30, r_X11_height_32, r_X11_height_35, r_X11_height_37, r_X11_height_40, r_X11_height_41, r_X11_height_42, r_X11_height_45, r_X11_height_46, r_X11_height_49, r_X11_height_50, r_X11_height_51, r_X11_height_54, r_X11_height_57, r_X11_height_58, gF_0, gF_1, gF_2, gF_3, gF_4, gF_5, gF_6, gF_7, gF_8, gF_9, gF_10, gF_11, gF_12, gF_13, gF_14, gF_15, gF_16, gF_17, pF_0, pF_1, pF_2, pF_3, pF_4, pF_5, pF_6, pF_7, pF_8, pF_9, pF_10, pF_11, pF_12, pF_13, pF_14, pF_15, pF_16, pF_17, gI_of, gL_of, gR_of, sI_of, sL_of, gN_of, gO_of, cl_i, cl_r, cl_l, cl_n, pu_s, pu_n, rV_s, hg_same, hg_ne, if_true, if_false, true_and, and_true, ne_eq, not_false_eq_true, not_true_eq_false, eq_self, reduceCtorEq, Nat.reduceAdd, nI_add, n_mul, n_sub, n_div, n_dec, n_dif, n_shl1, n_bit, n_eq0, n_0eq, n_eq, n_lt, n_le, n_lt0, n_ge0, n_gt0, n_le0, n_em1, n_m1e, n_m1lt0, n_m1ge0, n_m1gt0, n_m1eq0, n_m1lt, bI_eq0, bI_ne0, tb_eq0, tb_eq1, e0, m_parentPlace H hG hn ho hx]
            exact ihf (pl G n o x) (m + 1) (by omega) (by omega) (by omega)
          · have hx : x = n := by omega
            rw [hx, dp_n] at h2
            rw [r_X11_height_21, vf_no (by omega)]
            rw [mxk] at ih
            by_cases hc : mxk (dp (pl G n o) n) k < m
            · rw [if_pos (by omega)] at ih
              simp (disch := first | omega | assumption) only [r_X11_height_0, r_X11_height_1, r_X11_height_4, r_X11_height_5, r_X11_height_6, r_X11_height_7, r_X11_height_9, r_X11_height_10, r_X11_height_13, r_X11_height_16, r_X11_height_17, r_X11_height_18, r_X11_height_19, r_X11_height_23, r_X11_height_26, r_X11_height_29, r_X11_height_30, r_X11_height_32, r_X11_height_35, r_X11_height_37, r_X11_height_40, r_X11_height_41, r_X11_height_42, r_X11_height_45, r_X11_height_46, r_X11_height_49, r_X11_height_50, r_X11_height_51, r_X11_height_54, r_X11_height_57, r_X11_height_58, gF_0, gF_1, gF_2, gF_3, gF_4, gF_5, gF_6, gF_7, gF_8, gF_9, gF_10, gF_11, gF_12, gF_13, gF_14, gF_15, gF_16, gF_17, pF_0, pF_1, pF_2, pF_3, pF_4, pF_5, pF_6, pF_7, pF_8, pF_9, pF_10, pF_11, pF_12, pF_13, pF_14, pF_15, pF_16, pF_17, gI_of, gL_of, gR_of, sI_of, sL_of, gN_of, gO_of, cl_i, cl_r, cl_l, cl_n, pu_s, pu_n, rV_s, hg_same, hg_ne, if_true, if_false, true_and, and_true, ne_eq, not_false_eq_true, not_true_eq_false, eq_self, reduceCtorEq, Nat.reduceAdd, nI_add, n_mul, n_sub, n_div, n_dec, n_dif, n_shl1, n_bit, n_eq0, n_0eq, n_eq, n_lt, n_le, n_lt0, n_ge0, n_gt0, n_le0, n_em1, n_m1e, n_m1lt0, n_m1ge0, n_m1gt0, n_m1eq0, n_m1lt, bI_eq0, bI_ne0, tb_eq0, tb_eq1, show ¬ m ≤ mxk (dp (pl G n o) n) k by omega]
              rw [show m = dp (pl G n o) n k by omega]
              exact ih _ _
            · rw [if_neg (by omega)] at ih
              simp (disch := first | omega | assumption) only [r_X11_height_0, r_X11_height_1, r_X11_height_4, r_X11_height_5, r_X11_height_6, r_X11_height_7, r_X11_height_9, r_X11_height_10, r_X11_height_13, r_X11_height_16, r_X11_height_17, r_X11_height_18, r_X11_height_19, r_X11_height_23, r_X11_height_26, r_X11_height_29, r_X11_height_30, r_X11_height_32, r_X11_height_35, r_X11_height_37, r_X11_height_40, r_X11_height_41, r_X11_height_42, r_X11_height_45, r_X11_height_46, r_X11_height_49, r_X11_height_50, r_X11_height_51, r_X11_height_54, r_X11_height_57, r_X11_height_58, gF_0, gF_1, gF_2, gF_3, gF_4, gF_5, gF_6, gF_7, gF_8, gF_9, gF_10, gF_11, gF_12, gF_13, gF_14, gF_15, gF_16, gF_17, pF_0, pF_1, pF_2, pF_3, pF_4, pF_5, pF_6, pF_7, pF_8, pF_9, pF_10, pF_11, pF_12, pF_13, pF_14, pF_15, pF_16, pF_17, gI_of, gL_of, gR_of, sI_of, sL_of, gN_of, gO_of, cl_i, cl_r, cl_l, cl_n, pu_s, pu_n, rV_s, hg_same, hg_ne, if_true, if_false, true_and, and_true, ne_eq, not_false_eq_true, not_true_eq_false, eq_self, reduceCtorEq, Nat.reduceAdd, nI_add, n_mul, n_sub, n_div, n_dec, n_dif, n_shl1, n_bit, n_eq0, n_0eq, n_eq, n_lt, n_le, n_lt0, n_ge0, n_gt0, n_le0, n_em1, n_m1e, n_m1lt0, n_m1ge0, n_m1gt0, n_m1eq0, n_m1lt, bI_eq0, bI_ne0, tb_eq0, tb_eq1, show m ≤ mxk (dp (pl G n o) n) k by omega]
              exact ih _ _
      have := key2 n k 0 (by omega) (by omega) (by omega)
      rw [vf_of hk] at this
      exact this
  exact key 0 (by omega) _ _
theorem m_hangMany {d n p q : Nat} {G o : Nat → Nat} {h : j_H} {Q : Option Value → j_H → Prop} (H : rG h n p G o) (hG : okG n G) (hn : n ≤ 20) (ho : ∀ i, i < n → o i < n) (hq : q < n) : WP (d + 3) mX11_hangMany 0 [some (.ref 88), some (.int (nI q)), none, none, none] [] h Q = Q (some (.int (nI (Hg (pl G n o) n n q)))) h := by
  obtain ⟨a, b, c, e0⟩ := id H.1
  have hok := pl_ok G n o
  rw [Hg_keep hok hq n (by omega) (Nat.le_refl n), Hg_cnt hok q (by omega) q (Nat.le_refl q) hq]
  simp (disch := first | omega | assumption) only [r_X11_hangMany_0, r_X11_hangMany_1, r_X11_hangMany_2, r_X11_hangMany_3, r_X11_hangMany_5, r_X11_hangMany_6, r_X11_hangMany_9, r_X11_hangMany_12, r_X11_hangMany_13, r_X11_hangMany_17, r_X11_hangMany_20, r_X11_hangMany_22, r_X11_hangMany_23, r_X11_hangMany_26, r_X11_hangMany_27, r_X11_hangMany_29, r_X11_hangMany_32, r_X11_hangMany_34, r_X11_hangMany_37, r_X11_hangMany_38, r_X11_hangMany_40, r_X11_hangMany_41, r_X11_hangMany_44, r_X11_hangMany_45, r_X11_hangMany_48, r_X11_hangMany_49, r_X11_hangMany_50, r_X11_hangMany_51, r_X11_hangMany_54, r_X11_hangMany_57, r_X11_hangMany_58, gF_0, gF_1, gF_2, gF_3, gF_4, gF_5, gF_6, gF_7, gF_8, gF_9, gF_10, gF_11, gF_12, gF_13, gF_14, gF_15, gF_16, gF_17, pF_0, pF_1, pF_2, pF_3, pF_4, pF_5, pF_6, pF_7, pF_8, pF_9, pF_10, pF_11, pF_12, pF_13, pF_14, pF_15, pF_16, pF_17, gI_of, gL_of, gR_of, sI_of, sL_of, gN_of, gO_of, cl_i, cl_r, cl_l, cl_n, pu_s, pu_n, rV_s, hg_same, hg_ne, if_true, if_false, true_and, and_true, ne_eq, not_false_eq_true, not_true_eq_false, eq_self, reduceCtorEq, Nat.reduceAdd, nI_add, n_mul, n_sub, n_div, n_dec, n_dif, n_shl1, n_bit, n_eq0, n_0eq, n_eq, n_lt, n_le, n_lt0, n_ge0, n_gt0, n_le0, n_em1, n_m1e, n_m1lt0, n_m1ge0, n_m1gt0, n_m1eq0, n_m1lt, bI_eq0, bI_ne0, tb_eq0, tb_eq1, e0]
  have key : ∀ k, k ≤ n → ∀ x4, WP (d + 3) mX11_hangMany 4 [some (.ref 88), some (.int (nI q)), some (.int (nI (sm (fun k => if fr (pl G n o) q k = q then 1 else 0) k))), some (.int (nI k)), x4] [] h Q = Q (some (.int (nI (sm (fun k => if fr (pl G n o) q k = q then 1 else 0) n)))) h := by
    refine lup (P := fun k => ∀ x4, WP (d + 3) mX11_hangMany 4 [some (.ref 88), some (.int (nI q)), some (.int (nI (sm (fun k => if fr (pl G n o) q k = q then 1 else 0) k))), some (.int (nI k)), x4] [] h Q = Q (some (.int (nI (sm (fun k => if fr (pl G n o) q k = q then 1 else 0) n)))) h) ?_ ?_
    · intro x4
      rw [r_X11_hangMany_4]
      simp (disch := first | omega | assumption) only [r_X11_hangMany_0, r_X11_hangMany_1, r_X11_hangMany_2, r_X11_hangMany_3, r_X11_hangMany_5, r_X11_hangMany_6, r_X11_hangMany_9, r_X11_hangMany_12, r_X11_hangMany_13, r_X11_hangMany_17, r_X11_hangMany_20, r_X11_hangMany_22, r_X11_hangMany_23, r_X11_hangMany_26, r_X11_hangMany_27, r_X11_hangMany_29, r_X11_hangMany_32, r_X11_hangMany_34, r_X11_hangMany_37, r_X11_hangMany_38, r_X11_hangMany_40, r_X11_hangMany_41, r_X11_hangMany_44, r_X11_hangMany_45, r_X11_hangMany_48, r_X11_hangMany_49, r_X11_hangMany_50, r_X11_hangMany_51, r_X11_hangMany_54, r_X11_hangMany_57, r_X11_hangMany_58, gF_0, gF_1, gF_2, gF_3, gF_4, gF_5, gF_6, gF_7, gF_8, gF_9, gF_10, gF_11, gF_12, gF_13, gF_14, gF_15, gF_16, gF_17, pF_0, pF_1, pF_2, pF_3, pF_4, pF_5, pF_6, pF_7, pF_8, pF_9, pF_10, pF_11, pF_12, pF_13, pF_14, pF_15, pF_16, pF_17, gI_of, gL_of, gR_of, sI_of, sL_of, gN_of, gO_of, cl_i, cl_r, cl_l, cl_n, pu_s, pu_n, rV_s, hg_same, hg_ne, if_true, if_false, true_and, and_true, ne_eq, not_false_eq_true, not_true_eq_false, eq_self, reduceCtorEq, Nat.reduceAdd, nI_add, n_mul, n_sub, n_div, n_dec, n_dif, n_shl1, n_bit, n_eq0, n_0eq, n_eq, n_lt, n_le, n_lt0, n_ge0, n_gt0, n_le0, n_em1, n_m1e, n_m1lt0, n_m1ge0, n_m1gt0, n_m1eq0, n_m1lt, bI_eq0, bI_ne0, tb_eq0, tb_eq1, Nat.le_refl, e0]
    · intro k hk ih x4
      rw [sm] at ih
      rw [r_X11_hangMany_4]
      simp (disch := first | omega | assumption) only [r_X11_hangMany_0, r_X11_hangMany_1, r_X11_hangMany_2, r_X11_hangMany_3, r_X11_hangMany_5, r_X11_hangMany_6, r_X11_hangMany_9, r_X11_hangMany_12, r_X11_hangMany_13, r_X11_hangMany_17, r_X11_hangMany_20, r_X11_hangMany_22, r_X11_hangMany_23, r_X11_hangMany_26, r_X11_hangMany_27, r_X11_hangMany_29, r_X11_hangMany_32, r_X11_hangMany_34, r_X11_hangMany_37, r_X11_hangMany_38, r_X11_hangMany_40, r_X11_hangMany_41, r_X11_hangMany_44, r_X11_hangMany_45, r_X11_hangMany_48, r_X11_hangMany_49, r_X11_hangMany_50, r_X11_hangMany_51, r_X11_hangMany_54, r_X11_hangMany_57, r_X11_hangMany_58, gF_0, gF_1, gF_2, gF_3, gF_4, gF_5, gF_6, gF_7, gF_8, gF_9, gF_10, gF_11, gF_12, gF_13, gF_14, gF_15, gF_16, gF_17, pF_0, pF_1, pF_2, pF_3, pF_4, pF_5, pF_6, pF_7, pF_8, pF_9, pF_10, pF_11, pF_12, pF_13, pF_14, pF_15, pF_16, pF_17, gI_of, gL_of, gR_of, sI_of, sL_of, gN_of, gO_of, cl_i, cl_r, cl_l, cl_n, pu_s, pu_n, rV_s, hg_same, hg_ne, if_true, if_false, true_and, and_true, ne_eq, not_false_eq_true, not_true_eq_false, eq_self, reduceCtorEq, Nat.reduceAdd, nI_add, n_mul, n_sub, n_div, n_dec, n_dif, n_shl1, n_bit, n_eq0, n_0eq, n_eq, n_lt, n_le, n_lt0, n_ge0, n_gt0, n_le0, n_em1, n_m1e, n_m1lt0, n_m1ge0, n_m1gt0, n_m1eq0, n_m1lt, bI_eq0, bI_ne0, tb_eq0, tb_eq1, show ¬ n ≤ k by omega, e0]
      have key2 : ∀ f x, n - x ≤ f → (fr (pl G n o) q k = q ↔ fr (pl G n o) q x = q) → x ≤ n → WP (d + 3) mX11_hangMany 15 [some (.ref 88), some (.int (nI q)), some (.int (nI (sm (fun k => if fr (pl G n o) q k = q then 1 else 0) k))), some (.int (nI k)), some (.int (vf n x))] [] h Q = Q (some (.int (nI (sm (fun k => if fr (pl G n o) q k = q then 1 else 0) n)))) h := by
        have out : (fr (pl G n o) q k = q ↔ fr (pl G n o) q n = q) → WP (d + 3) mX11_hangMany 15 [some (.ref 88), some (.int (nI q)), some (.int (nI (sm (fun k => if fr (pl G n o) q k = q then 1 else 0) k))), some (.int (nI k)), some (.int (-1))] [] h Q = Q (some (.int (nI (sm (fun k => if fr (pl G n o) q k = q then 1 else 0) n)))) h := by
          intro h2
          have hno : ¬ fr (pl G n o) q k = q := fun e => by
            have := h2.mp e
            rw [fr_ge (by omega)] at this
            omega
          rw [if_neg hno] at ih
          rw [r_X11_hangMany_15]
          simp (disch := first | omega | assumption) only [r_X11_hangMany_0, r_X11_hangMany_1, r_X11_hangMany_2, r_X11_hangMany_3, r_X11_hangMany_5, r_X11_hangMany_6, r_X11_hangMany_9, r_X11_hangMany_12, r_X11_hangMany_13, r_X11_hangMany_17, r_X11_hangMany_20, r_X11_hangMany_22, r_X11_hangMany_23, r_X11_hangMany_26, r_X11_hangMany_27, r_X11_hangMany_29, r_X11_hangMany_32, r_X11_hangMany_34, r_X11_hangMany_37, r_X11_hangMany_38, r_X11_hangMany_40, r_X11_hangMany_41, r_X11_hangMany_44, r_X11_hangMany_45, r_X11_hangMany_48, r_X11_hangMany_49, r_X11_hangMany_50, r_X11_hangMany_51, r_X11_hangMany_54, r_X11_hangMany_57, r_X11_hangMany_58, gF_0, gF_1, gF_2, gF_3, gF_4, gF_5, gF_6, gF_7, gF_8, gF_9, gF_10, gF_11, gF_12, gF_13, gF_14, gF_15, gF_16, gF_17, pF_0, pF_1, pF_2, pF_3, pF_4, pF_5, pF_6, pF_7, pF_8, pF_9, pF_10, pF_11, pF_12, pF_13, pF_14, pF_15, pF_16, pF_17, gI_of, gL_of, gR_of, sI_of, sL_of, gN_of, gO_of, cl_i, cl_r, cl_l, cl_n, pu_s, pu_n, rV_s, hg_same, hg_ne, if_true, if_false, true_and, and_true, ne_eq, not_false_eq_true, not_true_eq_false, eq_self, reduceCtorEq, Nat.reduceAdd, nI_add, n_mul, n_sub, n_div, n_dec, n_dif, n_shl1, n_bit, n_eq0, n_0eq, n_eq, n_lt, n_le, n_lt0, n_ge0, n_gt0, n_le0, n_em1, n_m1e, n_m1lt0, n_m1ge0, n_m1gt0, n_m1eq0, n_m1lt, bI_eq0, bI_ne0, tb_eq0, tb_eq1, e0]
          exact ih _
        intro f
        induction f with
        | zero =>
          intro x h1 h2 h3
          have hx : x = n := by omega
          subst hx
          rw [vf_no (Nat.lt_irrefl x)]
          exact out h2
        | succ f ihf =>
          intro x h1 h2 h3
          by_cases hx : x < n
          · have hp := hok x hx
            rw [vf_of hx]
            by_cases e : x = q
            · subst e
              have hyes : fr (pl G n o) x k = x := h2.mpr (fr_ge (Nat.le_refl x))
              rw [if_pos hyes] at ih
              rw [r_X11_hangMany_15]
              simp (disch := first | omega | assumption) only [r_X11_hangMany_0, r_X11_hangMany_1, r_X11_hangMany_2, r_X11_hangMany_3, r_X11_hangMany_5, r_X11_hangMany_6, r_X11_hangMany_9, r_X11_hangMany_12, r_X11_hangMany_13, r_X11_hangMany_17, r_X11_hangMany_20, r_X11_hangMany_22, r_X11_hangMany_23, r_X11_hangMany_26, r_X11_hangMany_27, r_X11_hangMany_29, r_X11_hangMany_32, r_X11_hangMany_34, r_X11_hangMany_37, r_X11_hangMany_38, r_X11_hangMany_40, r_X11_hangMany_41, r_X11_hangMany_44, r_X11_hangMany_45, r_X11_hangMany_48, r_X11_hangMany_49, r_X11_hangMany_50, r_X11_hangMany_51, r_X11_hangMany_54, r_X11_hangMany_57, r_X11_hangMany_58, gF_0, gF_1, gF_2, gF_3, gF_4, gF_5, gF_6, gF_7, gF_8, gF_9, gF_10, gF_11, gF_12, gF_13, gF_14, gF_15, gF_16, gF_17, pF_0, pF_1, pF_2, pF_3, pF_4, pF_5, pF_6, pF_7, pF_8, pF_9, pF_10, pF_11, pF_12, pF_13, pF_14, pF_15, pF_16, pF_17, gI_of, gL_of, gR_of, sI_of, sL_of, gN_of, gO_of, cl_i, cl_r, cl_l, cl_n, pu_s, pu_n, rV_s, hg_same, hg_ne, if_true, if_false, true_and, and_true, ne_eq, not_false_eq_true, not_true_eq_false, eq_self, reduceCtorEq, Nat.reduceAdd, nI_add, n_mul, n_sub, n_div, n_dec, n_dif, n_shl1, n_bit, n_eq0, n_0eq, n_eq, n_lt, n_le, n_lt0, n_ge0, n_gt0, n_le0, n_em1, n_m1e, n_m1lt0, n_m1ge0, n_m1gt0, n_m1eq0, n_m1lt, bI_eq0, bI_ne0, tb_eq0, tb_eq1, e0]
              exact ih _
            · rw [r_X11_hangMany_15]
              simp (disch := first | omega | assumption) only [r_X11_hangMany_0, r_X11_hangMany_1, r_X11_hangMany_2, r_X11_hangMany_3, r_X11_hangMany_5, r_X11_hangMany_6, r_X11_hangMany_9, r_X11_hangMany_12, r_X11_hangMany_13, r_X11_hangMany_17, r_X11_hangMany_20, r_X11_hangMany_22, r_X11_hangMany_23, r_X11_hangMany_26, r_X11_hangMany_27, r_X11_hangMany_29, r_X11_hangMany_32, r_X11_hangMany_34, r_X11_hangMany_37, r_X11_hangMany_38, r_X11_hangMany_40, r_X11_hangMany_41, r_X11_hangMany_44, r_X11_hangMany_45, r_X11_hangMany_48, r_X11_hangMany_49, r_X11_hangMany_50, r_X11_hangMany_51, r_X11_hangMany_54, r_X11_hangMany_57, r_X11_hangMany_58, gF_0, gF_1, gF_2, gF_3, gF_4, gF_5, gF_6, gF_7, gF_8, gF_9, gF_10, gF_11, gF_12, gF_13, gF_14, gF_15, gF_16, gF_17, pF_0, pF_1, pF_2, pF_3, pF_4, pF_5, pF_6, pF_7, pF_8, pF_9, pF_10, pF_11, pF_12, pF_13, pF_14, pF_15, pF_16, pF_17, gI_of, gL_of, gR_of, sI_of, sL_of, gN_of, gO_of, cl_i, cl_r, cl_l, cl_n, pu_s, pu_n, rV_s, hg_same, hg_ne, if_true, if_false, true_and, and_true, ne_eq, not_false_eq_true, not_true_eq_false, eq_self, reduceCtorEq, Nat.reduceAdd, nI_add, n_mul, n_sub, n_div, n_dec, n_dif, n_shl1, n_bit, n_eq0, n_0eq, n_eq, n_lt, n_le, n_lt0, n_ge0, n_gt0, n_le0, n_em1, n_m1e, n_m1lt0, n_m1ge0, n_m1gt0, n_m1eq0, n_m1lt, bI_eq0, bI_ne0, tb_eq0, tb_eq1, e0, e, m_parentPlace H hG hn ho hx]
              refine ihf (pl G n o x) (by omega) (h2.trans ?_) hp.2
              by_cases hxq : x < q
              · rw [fr_up hok (by omega) hxq]
              · rw [fr_ge (show q ≤ x by omega), fr_ge (show q ≤ pl G n o x by omega)]
                constructor
                · intro e2; omega
                · intro e2; omega
          · have hx : x = n := by omega
            subst hx
            rw [vf_no (Nat.lt_irrefl x)]
            exact out h2
      have := key2 n k (by omega) Iff.rfl (by omega)
      rw [vf_of hk] at this
      exact this
  exact key 0 (by omega) _
