theorem x_has {d S k : Nat} {h : j_H} {Q : Option Value → j_H → Prop} (hS : S < 2 ^ 31) (hk : k < 32) : WP d mX10_has 0 [some (.int (nI S)), some (.int (nI k))] [] h Q = Q (some (.int (bI (S.testBit k)))) h := by
  simp (disch := first | omega | assumption) only [r_X10_has_0, r_X10_has_1, r_X10_has_2, r_X10_has_3, r_X10_has_4, r_X10_has_5, r_X10_has_8, r_X10_has_9, r_X10_has_12, r_X10_has_13, r_X10_has_13_0, r_X10_has_13_1, gF_0, gF_1, gF_2, gF_3, gF_4, gF_5, gF_6, gF_7, gF_8, gF_9, gF_10, gF_11, gF_12, gF_13, gF_14, gF_15, gF_16, gF_17, pF_0, pF_1, pF_2, pF_3, pF_4, pF_5, pF_6, pF_7, pF_8, pF_9, pF_10, pF_11, pF_12, pF_13, pF_14, pF_15, pF_16, pF_17, gI_of, gL_of, gR_of, sI_of, sL_of, gN_of, gO_of, cl_i, cl_r, cl_l, cl_n, pu_s, pu_n, rV_s, hg_same, hg_ne, if_true, if_false, true_and, and_true, ne_eq, not_false_eq_true, not_true_eq_false, nI_add, n_mul, n_sub, n_div, n_dec, n_dif, n_shl1, n_bit, n_eq0, n_0eq, n_eq, n_lt, n_le, n_lt0, n_ge0, n_gt0, n_le0, n_em1, n_m1e, n_m1lt0, n_m1ge0, n_m1gt0, n_m1eq0, n_m1lt, bI_eq0, bI_ne0, tb_eq0, tb_eq1]
  have := tb_lt S k
  simp (disch := omega) only [nI_add, n_mul, n_sub, n_div, n_dec, n_dif, n_shl1, n_bit, n_eq0, n_0eq, n_eq, n_lt, n_le, n_lt0, n_ge0, n_gt0, n_le0, n_em1, n_m1e, n_m1lt0, n_m1ge0, n_m1gt0, n_m1eq0, n_m1lt, bI_eq0, bI_ne0, tb_eq0, tb_eq1]
  cases S.testBit k <;> simp
theorem x_bit {d k : Nat} {h : j_H} {Q : Option Value → j_H → Prop} (hk : k < 32) : WP d mX10_bit 0 [some (.int (nI k))] [] h Q = Q (some (.int (nI (2 ^ k)))) h := by
  simp (disch := first | omega | assumption) only [r_X10_bit_0, r_X10_bit_1, r_X10_bit_2, r_X10_bit_3, gF_0, gF_1, gF_2, gF_3, gF_4, gF_5, gF_6, gF_7, gF_8, gF_9, gF_10, gF_11, gF_12, gF_13, gF_14, gF_15, gF_16, gF_17, pF_0, pF_1, pF_2, pF_3, pF_4, pF_5, pF_6, pF_7, pF_8, pF_9, pF_10, pF_11, pF_12, pF_13, pF_14, pF_15, pF_16, pF_17, gI_of, gL_of, gR_of, sI_of, sL_of, gN_of, gO_of, cl_i, cl_r, cl_l, cl_n, pu_s, pu_n, rV_s, hg_same, hg_ne, if_true, if_false, true_and, and_true, ne_eq, not_false_eq_true, not_true_eq_false, nI_add, n_mul, n_sub, n_div, n_dec, n_dif, n_shl1, n_bit, n_eq0, n_0eq, n_eq, n_lt, n_le, n_lt0, n_ge0, n_gt0, n_le0, n_em1, n_m1e, n_m1lt0, n_m1ge0, n_m1gt0, n_m1eq0, n_m1lt, bI_eq0, bI_ne0, tb_eq0, tb_eq1]
theorem x_isWithin {d : Nat} {v a b : Int32} {h : j_H} {Q : Option Value → j_H → Prop} : WP d mX10_isWithin 0 [some (.int v), some (.int a), some (.int b)] [] h Q = Q (some (.int (bI (decide (a ≤ v ∧ v ≤ b))))) h := by
  simp (disch := first | omega | assumption) only [r_X10_isWithin_0, r_X10_isWithin_1, r_X10_isWithin_2, r_X10_isWithin_5, r_X10_isWithin_6, r_X10_isWithin_7, r_X10_isWithin_10, r_X10_isWithin_11, r_X10_isWithin_14, r_X10_isWithin_15, r_X10_isWithin_15_0, r_X10_isWithin_15_1, gF_0, gF_1, gF_2, gF_3, gF_4, gF_5, gF_6, gF_7, gF_8, gF_9, gF_10, gF_11, gF_12, gF_13, gF_14, gF_15, gF_16, gF_17, pF_0, pF_1, pF_2, pF_3, pF_4, pF_5, pF_6, pF_7, pF_8, pF_9, pF_10, pF_11, pF_12, pF_13, pF_14, pF_15, pF_16, pF_17, gI_of, gL_of, gR_of, sI_of, sL_of, gN_of, gO_of, cl_i, cl_r, cl_l, cl_n, pu_s, pu_n, rV_s, hg_same, hg_ne, if_true, if_false, true_and, and_true, ne_eq, not_false_eq_true, not_true_eq_false]
  by_cases h1 : a ≤ v
  · by_cases h2 : v ≤ b
    · have h1' : ¬ v < a := Int32.not_lt.mpr h1
      have h2' : ¬ b < v := Int32.not_lt.mpr h2
      simp [h1, h2, h1', h2']
    · have h1' : ¬ v < a := Int32.not_lt.mpr h1
      have h2' : b < v := Int32.not_le.mp h2
      simp [h1, h2, h1', h2']
  · have h1' : v < a := Int32.not_le.mp h1
    simp [h1, h1']
