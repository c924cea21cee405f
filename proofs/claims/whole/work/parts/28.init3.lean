theorem i_ThinTables {d : Nat} {h : j_H} {Q : Option Value → j_H → Prop} (h1 : hg h 1 = some (oB 10 (j_df 10))) (hz : h.1 = 2)
    (k : ∀ h1, h1.1 = 88 → h1.2.1 = h.2.1 + 5533 → hg h1 0 = hg h 0 → XI h1 (4, fun _ _ => 0, fun _ => 0, fun i => i, 10007) → Q none h1) : WP (d + 3) mX10_init 0 [some (.ref 1)] [] h Q := by
  rw [jd_10] at h1
  simp (disch := first | omega | (simp only [hn_1, hm_1, hs_sz, hz]; omega) | (simp only [hn_1, hm_1, hs_sz, hz]; done) | assumption) only [r_X10_init_0, r_X10_init_1, r_X10_init_4, r_X10_init_5, r_X10_init_8, r_X10_init_9, r_X10_init_12, r_X10_init_15, r_X10_init_16, r_X10_init_19, r_X10_init_20, r_X10_init_23, r_X10_init_26, r_X10_init_27, r_X10_init_30, r_X10_init_31, r_X10_init_34, r_X10_init_37, r_X10_init_38, r_X10_init_41, r_X10_init_42, r_X10_init_45, r_X10_init_48, r_X10_init_49, r_X10_init_52, r_X10_init_53, r_X10_init_56, r_X10_init_59, r_X10_init_60, r_X10_init_63, r_X10_init_64, r_X10_init_67, r_X10_init_70, r_X10_init_71, r_X10_init_74, r_X10_init_75, r_X10_init_78, r_X10_init_81, r_X10_init_82, r_X10_init_85, r_X10_init_86, r_X10_init_89, r_X10_init_92, r_X10_init_93, r_X10_init_96, r_X10_init_97, r_X10_init_100, r_X10_init_103, r_X10_init_104, r_X10_init_107, r_X10_init_108, r_X10_init_111, r_X10_init_112, r_X10_init_115, r_X10_init_116, r_X10_init_119, gF_0, gF_1, gF_2, gF_3, gF_4, gF_5, gF_6, gF_7, gF_8, gF_9, gF_10, gF_11, gF_12, gF_13, gF_14, gF_15, gF_16, gF_17, pF_0, pF_1, pF_2, pF_3, pF_4, pF_5, pF_6, pF_7, pF_8, pF_9, pF_10, pF_11, pF_12, pF_13, pF_14, pF_15, pF_16, pF_17, gI_of, gL_of, gR_of, sI_of, sL_of, gN_of, gO_of, cl_i, cl_r, cl_l, cl_n, pu_s, pu_n, rV_s, hg_same, hg_ne, if_true, if_false, true_and, and_true, ne_eq, not_false_eq_true, not_true_eq_false, h1, hg_hn_ne, hn_1, hs_sz, hz, Nat.reduceAdd]
  refine i_Table (hg_hn_eq (by simp only [hs_sz, hz])) (by simp only [hn_1, hs_sz, hz]) (fun g0 nw0 f0_0 f0_1 f0_2 f0_3 => ?_)
  have z0 : g0.1 = 27 := by rw [nw0.1]; simp only [hn_1, hs_sz, hz]
  have s0 : g0.2.1 = h.2.1 + 5 + 480 := by rw [nw0.2.1]; simp only [hn_2, hs_sl, jn_9]
  have k0 : ∀ b, b < 2 → b ≠ 1 → hg g0 b = hg h b := fun b p1 p2 => (nw0.2.2 b (by simp only [hn_1, hs_sz, hz]; omega) (by omega)).trans ((hg_hn_ne (by simp only [hs_sz, hz]; omega)))
  have o0 : hg g0 1 = some (oB 10 [.null, .null, .null, .null, .null, .null, .null, .null, .null]) := (nw0.2.2 1 (by simp only [hn_1, hs_sz, hz]; omega) (by omega)).trans ((hg_hn_ne (by simp only [hs_sz, hz]; omega)).trans h1)
  simp (disch := first | omega | (simp only [hn_1, hm_1, hs_sz, z0]; omega) | (simp only [hn_1, hm_1, hs_sz, z0]; done) | assumption) only [r_X10_init_0, r_X10_init_1, r_X10_init_4, r_X10_init_5, r_X10_init_8, r_X10_init_9, r_X10_init_12, r_X10_init_15, r_X10_init_16, r_X10_init_19, r_X10_init_20, r_X10_init_23, r_X10_init_26, r_X10_init_27, r_X10_init_30, r_X10_init_31, r_X10_init_34, r_X10_init_37, r_X10_init_38, r_X10_init_41, r_X10_init_42, r_X10_init_45, r_X10_init_48, r_X10_init_49, r_X10_init_52, r_X10_init_53, r_X10_init_56, r_X10_init_59, r_X10_init_60, r_X10_init_63, r_X10_init_64, r_X10_init_67, r_X10_init_70, r_X10_init_71, r_X10_init_74, r_X10_init_75, r_X10_init_78, r_X10_init_81, r_X10_init_82, r_X10_init_85, r_X10_init_86, r_X10_init_89, r_X10_init_92, r_X10_init_93, r_X10_init_96, r_X10_init_97, r_X10_init_100, r_X10_init_103, r_X10_init_104, r_X10_init_107, r_X10_init_108, r_X10_init_111, r_X10_init_112, r_X10_init_115, r_X10_init_116, r_X10_init_119, gF_0, gF_1, gF_2, gF_3, gF_4, gF_5, gF_6, gF_7, gF_8, gF_9, gF_10, gF_11, gF_12, gF_13, gF_14, gF_15, gF_16, gF_17, pF_0, pF_1, pF_2, pF_3, pF_4, pF_5, pF_6, pF_7, pF_8, pF_9, pF_10, pF_11, pF_12, pF_13, pF_14, pF_15, pF_16, pF_17, gI_of, gL_of, gR_of, sI_of, sL_of, gN_of, gO_of, cl_i, cl_r, cl_l, cl_n, pu_s, pu_n, rV_s, hg_same, hg_ne, if_true, if_false, true_and, and_true, ne_eq, not_false_eq_true, not_true_eq_false, o0, hg_hn_ne, hn_1, hs_sz, z0, Nat.reduceAdd]
  refine i_Matching (hg_hn_eq (by simp only [hs_sz, z0])) (by simp only [hn_1, hs_sz, z0]) (fun g1 nw1 f1_0 f1_1 => ?_)
  have z1 : g1.1 = 32 := by rw [nw1.1]; simp only [hn_1, hs_sz, z0]
  have s1 : g1.2.1 = g0.2.1 + 5 + 80 := by rw [nw1.2.1]; simp only [hn_2, hs_sl, jn_5]
  have k1 : ∀ b, b < 27 → b ≠ 1 → hg g1 b = hg g0 b := fun b p1 p2 => (nw1.2.2 b (by simp only [hn_1, hs_sz, z0]; omega) (by omega)).trans ((hg_hn_ne (by simp only [hs_sz, z0]; omega)).trans (hg_ne p2))
  have o1 : hg g1 1 = some (oB 10 [.ref 2, .null, .null, .null, .null, .null, .null, .null, .null]) := (nw1.2.2 1 (by simp only [hn_1, hs_sz, z0]; omega) (by omega)).trans ((hg_hn_ne (by simp only [hs_sz, z0]; omega)).trans (hg_same _ _ _))
  simp (disch := first | omega | (simp only [hn_1, hm_1, hs_sz, z1]; omega) | (simp only [hn_1, hm_1, hs_sz, z1]; done) | assumption) only [r_X10_init_0, r_X10_init_1, r_X10_init_4, r_X10_init_5, r_X10_init_8, r_X10_init_9, r_X10_init_12, r_X10_init_15, r_X10_init_16, r_X10_init_19, r_X10_init_20, r_X10_init_23, r_X10_init_26, r_X10_init_27, r_X10_init_30, r_X10_init_31, r_X10_init_34, r_X10_init_37, r_X10_init_38, r_X10_init_41, r_X10_init_42, r_X10_init_45, r_X10_init_48, r_X10_init_49, r_X10_init_52, r_X10_init_53, r_X10_init_56, r_X10_init_59, r_X10_init_60, r_X10_init_63, r_X10_init_64, r_X10_init_67, r_X10_init_70, r_X10_init_71, r_X10_init_74, r_X10_init_75, r_X10_init_78, r_X10_init_81, r_X10_init_82, r_X10_init_85, r_X10_init_86, r_X10_init_89, r_X10_init_92, r_X10_init_93, r_X10_init_96, r_X10_init_97, r_X10_init_100, r_X10_init_103, r_X10_init_104, r_X10_init_107, r_X10_init_108, r_X10_init_111, r_X10_init_112, r_X10_init_115, r_X10_init_116, r_X10_init_119, gF_0, gF_1, gF_2, gF_3, gF_4, gF_5, gF_6, gF_7, gF_8, gF_9, gF_10, gF_11, gF_12, gF_13, gF_14, gF_15, gF_16, gF_17, pF_0, pF_1, pF_2, pF_3, pF_4, pF_5, pF_6, pF_7, pF_8, pF_9, pF_10, pF_11, pF_12, pF_13, pF_14, pF_15, pF_16, pF_17, gI_of, gL_of, gR_of, sI_of, sL_of, gN_of, gO_of, cl_i, cl_r, cl_l, cl_n, pu_s, pu_n, rV_s, hg_same, hg_ne, if_true, if_false, true_and, and_true, ne_eq, not_false_eq_true, not_true_eq_false, o1, hg_hn_ne, hn_1, hs_sz, z1, Nat.reduceAdd]
  refine i_Blocks (hg_hn_eq (by simp only [hs_sz, z1])) (by simp only [hn_1, hs_sz, z1]) (fun g2 nw2 f2_0 f2_1 => ?_)
  have z2 : g2.1 = 35 := by rw [nw2.1]; simp only [hn_1, hs_sz, z1]
  have s2 : g2.2.1 = g1.2.1 + 3 + 40 := by rw [nw2.2.1]; simp only [hn_2, hs_sl, jn_0]
  have k2 : ∀ b, b < 32 → b ≠ 1 → hg g2 b = hg g1 b := fun b p1 p2 => (nw2.2.2 b (by simp only [hn_1, hs_sz, z1]; omega) (by omega)).trans ((hg_hn_ne (by simp only [hs_sz, z1]; omega)).trans (hg_ne p2))
  have o2 : hg g2 1 = some (oB 10 [.ref 2, .ref 27, .null, .null, .null, .null, .null, .null, .null]) := (nw2.2.2 1 (by simp only [hn_1, hs_sz, z1]; omega) (by omega)).trans ((hg_hn_ne (by simp only [hs_sz, z1]; omega)).trans (hg_same _ _ _))
  simp (disch := first | omega | (simp only [hn_1, hm_1, hs_sz, z2]; omega) | (simp only [hn_1, hm_1, hs_sz, z2]; done) | assumption) only [r_X10_init_0, r_X10_init_1, r_X10_init_4, r_X10_init_5, r_X10_init_8, r_X10_init_9, r_X10_init_12, r_X10_init_15, r_X10_init_16, r_X10_init_19, r_X10_init_20, r_X10_init_23, r_X10_init_26, r_X10_init_27, r_X10_init_30, r_X10_init_31, r_X10_init_34, r_X10_init_37, r_X10_init_38, r_X10_init_41, r_X10_init_42, r_X10_init_45, r_X10_init_48, r_X10_init_49, r_X10_init_52, r_X10_init_53, r_X10_init_56, r_X10_init_59, r_X10_init_60, r_X10_init_63, r_X10_init_64, r_X10_init_67, r_X10_init_70, r_X10_init_71, r_X10_init_74, r_X10_init_75, r_X10_init_78, r_X10_init_81, r_X10_init_82, r_X10_init_85, r_X10_init_86, r_X10_init_89, r_X10_init_92, r_X10_init_93, r_X10_init_96, r_X10_init_97, r_X10_init_100, r_X10_init_103, r_X10_init_104, r_X10_init_107, r_X10_init_108, r_X10_init_111, r_X10_init_112, r_X10_init_115, r_X10_init_116, r_X10_init_119, gF_0, gF_1, gF_2, gF_3, gF_4, gF_5, gF_6, gF_7, gF_8, gF_9, gF_10, gF_11, gF_12, gF_13, gF_14, gF_15, gF_16, gF_17, pF_0, pF_1, pF_2, pF_3, pF_4, pF_5, pF_6, pF_7, pF_8, pF_9, pF_10, pF_11, pF_12, pF_13, pF_14, pF_15, pF_16, pF_17, gI_of, gL_of, gR_of, sI_of, sL_of, gN_of, gO_of, cl_i, cl_r, cl_l, cl_n, pu_s, pu_n, rV_s, hg_same, hg_ne, if_true, if_false, true_and, and_true, ne_eq, not_false_eq_true, not_true_eq_false, o2, hg_hn_ne, hn_1, hs_sz, z2, Nat.reduceAdd]
  refine i_Sequence (hg_hn_eq (by simp only [hs_sz, z2])) (by simp only [hn_1, hs_sz, z2]) (fun g3 nw3 f3_0 f3_1 => ?_)
  have z3 : g3.1 = 37 := by rw [nw3.1]; simp only [hn_1, hs_sz, z2]
  have s3 : g3.2.1 = g2.2.1 + 1 + 20 := by rw [nw3.2.1]; simp only [hn_2, hs_sl, jn_8]
  have k3 : ∀ b, b < 35 → b ≠ 1 → hg g3 b = hg g2 b := fun b p1 p2 => (nw3.2.2 b (by simp only [hn_1, hs_sz, z2]; omega) (by omega)).trans ((hg_hn_ne (by simp only [hs_sz, z2]; omega)).trans (hg_ne p2))
  have o3 : hg g3 1 = some (oB 10 [.ref 2, .ref 27, .ref 32, .null, .null, .null, .null, .null, .null]) := (nw3.2.2 1 (by simp only [hn_1, hs_sz, z2]; omega) (by omega)).trans ((hg_hn_ne (by simp only [hs_sz, z2]; omega)).trans (hg_same _ _ _))
  simp (disch := first | omega | (simp only [hn_1, hm_1, hs_sz, z3]; omega) | (simp only [hn_1, hm_1, hs_sz, z3]; done) | assumption) only [r_X10_init_0, r_X10_init_1, r_X10_init_4, r_X10_init_5, r_X10_init_8, r_X10_init_9, r_X10_init_12, r_X10_init_15, r_X10_init_16, r_X10_init_19, r_X10_init_20, r_X10_init_23, r_X10_init_26, r_X10_init_27, r_X10_init_30, r_X10_init_31, r_X10_init_34, r_X10_init_37, r_X10_init_38, r_X10_init_41, r_X10_init_42, r_X10_init_45, r_X10_init_48, r_X10_init_49, r_X10_init_52, r_X10_init_53, r_X10_init_56, r_X10_init_59, r_X10_init_60, r_X10_init_63, r_X10_init_64, r_X10_init_67, r_X10_init_70, r_X10_init_71, r_X10_init_74, r_X10_init_75, r_X10_init_78, r_X10_init_81, r_X10_init_82, r_X10_init_85, r_X10_init_86, r_X10_init_89, r_X10_init_92, r_X10_init_93, r_X10_init_96, r_X10_init_97, r_X10_init_100, r_X10_init_103, r_X10_init_104, r_X10_init_107, r_X10_init_108, r_X10_init_111, r_X10_init_112, r_X10_init_115, r_X10_init_116, r_X10_init_119, gF_0, gF_1, gF_2, gF_3, gF_4, gF_5, gF_6, gF_7, gF_8, gF_9, gF_10, gF_11, gF_12, gF_13, gF_14, gF_15, gF_16, gF_17, pF_0, pF_1, pF_2, pF_3, pF_4, pF_5, pF_6, pF_7, pF_8, pF_9, pF_10, pF_11, pF_12, pF_13, pF_14, pF_15, pF_16, pF_17, gI_of, gL_of, gR_of, sI_of, sL_of, gN_of, gO_of, cl_i, cl_r, cl_l, cl_n, pu_s, pu_n, rV_s, hg_same, hg_ne, if_true, if_false, true_and, and_true, ne_eq, not_false_eq_true, not_true_eq_false, o3, hg_hn_ne, hn_1, hs_sz, z3, Nat.reduceAdd]
  refine i_Elim (hg_hn_eq (by simp only [hs_sz, z3])) (by simp only [hn_1, hs_sz, z3]) (fun g4 nw4 f4_0 f4_1 f4_2 => ?_)
  have z4 : g4.1 = 44 := by rw [nw4.1]; simp only [hn_1, hs_sz, z3]
  have s4 : g4.2.1 = g3.2.1 + 9 + 102 := by rw [nw4.2.1]; simp only [hn_2, hs_sl, jn_1]
  have k4 : ∀ b, b < 37 → b ≠ 1 → hg g4 b = hg g3 b := fun b p1 p2 => (nw4.2.2 b (by simp only [hn_1, hs_sz, z3]; omega) (by omega)).trans ((hg_hn_ne (by simp only [hs_sz, z3]; omega)).trans (hg_ne p2))
  have o4 : hg g4 1 = some (oB 10 [.ref 2, .ref 27, .ref 32, .ref 35, .null, .null, .null, .null, .null]) := (nw4.2.2 1 (by simp only [hn_1, hs_sz, z3]; omega) (by omega)).trans ((hg_hn_ne (by simp only [hs_sz, z3]; omega)).trans (hg_same _ _ _))
  simp (disch := first | omega | (simp only [hn_1, hm_1, hs_sz, z4]; omega) | (simp only [hn_1, hm_1, hs_sz, z4]; done) | assumption) only [r_X10_init_0, r_X10_init_1, r_X10_init_4, r_X10_init_5, r_X10_init_8, r_X10_init_9, r_X10_init_12, r_X10_init_15, r_X10_init_16, r_X10_init_19, r_X10_init_20, r_X10_init_23, r_X10_init_26, r_X10_init_27, r_X10_init_30, r_X10_init_31, r_X10_init_34, r_X10_init_37, r_X10_init_38, r_X10_init_41, r_X10_init_42, r_X10_init_45, r_X10_init_48, r_X10_init_49, r_X10_init_52, r_X10_init_53, r_X10_init_56, r_X10_init_59, r_X10_init_60, r_X10_init_63, r_X10_init_64, r_X10_init_67, r_X10_init_70, r_X10_init_71, r_X10_init_74, r_X10_init_75, r_X10_init_78, r_X10_init_81, r_X10_init_82, r_X10_init_85, r_X10_init_86, r_X10_init_89, r_X10_init_92, r_X10_init_93, r_X10_init_96, r_X10_init_97, r_X10_init_100, r_X10_init_103, r_X10_init_104, r_X10_init_107, r_X10_init_108, r_X10_init_111, r_X10_init_112, r_X10_init_115, r_X10_init_116, r_X10_init_119, gF_0, gF_1, gF_2, gF_3, gF_4, gF_5, gF_6, gF_7, gF_8, gF_9, gF_10, gF_11, gF_12, gF_13, gF_14, gF_15, gF_16, gF_17, pF_0, pF_1, pF_2, pF_3, pF_4, pF_5, pF_6, pF_7, pF_8, pF_9, pF_10, pF_11, pF_12, pF_13, pF_14, pF_15, pF_16, pF_17, gI_of, gL_of, gR_of, sI_of, sL_of, gN_of, gO_of, cl_i, cl_r, cl_l, cl_n, pu_s, pu_n, rV_s, hg_same, hg_ne, if_true, if_false, true_and, and_true, ne_eq, not_false_eq_true, not_true_eq_false, o4, hg_hn_ne, hn_1, hs_sz, z4, Nat.reduceAdd]
  refine i_OrderMaker (hg_hn_eq (by simp only [hs_sz, z4])) (by simp only [hn_1, hs_sz, z4]) (fun g5 nw5 f5_0 f5_1 f5_2 => ?_)
  have z5 : g5.1 = 47 := by rw [nw5.1]; simp only [hn_1, hs_sz, z4]
  have s5 : g5.2.1 = g4.2.1 + 1 + 22 := by rw [nw5.2.1]; simp only [hn_2, hs_sl, jn_6]
  have k5 : ∀ b, b < 44 → b ≠ 1 → hg g5 b = hg g4 b := fun b p1 p2 => (nw5.2.2 b (by simp only [hn_1, hs_sz, z4]; omega) (by omega)).trans ((hg_hn_ne (by simp only [hs_sz, z4]; omega)).trans (hg_ne p2))
  have o5 : hg g5 1 = some (oB 10 [.ref 2, .ref 27, .ref 32, .ref 35, .ref 37, .null, .null, .null, .null]) := (nw5.2.2 1 (by simp only [hn_1, hs_sz, z4]; omega) (by omega)).trans ((hg_hn_ne (by simp only [hs_sz, z4]; omega)).trans (hg_same _ _ _))
  simp (disch := first | omega | (simp only [hn_1, hm_1, hs_sz, z5]; omega) | (simp only [hn_1, hm_1, hs_sz, z5]; done) | assumption) only [r_X10_init_0, r_X10_init_1, r_X10_init_4, r_X10_init_5, r_X10_init_8, r_X10_init_9, r_X10_init_12, r_X10_init_15, r_X10_init_16, r_X10_init_19, r_X10_init_20, r_X10_init_23, r_X10_init_26, r_X10_init_27, r_X10_init_30, r_X10_init_31, r_X10_init_34, r_X10_init_37, r_X10_init_38, r_X10_init_41, r_X10_init_42, r_X10_init_45, r_X10_init_48, r_X10_init_49, r_X10_init_52, r_X10_init_53, r_X10_init_56, r_X10_init_59, r_X10_init_60, r_X10_init_63, r_X10_init_64, r_X10_init_67, r_X10_init_70, r_X10_init_71, r_X10_init_74, r_X10_init_75, r_X10_init_78, r_X10_init_81, r_X10_init_82, r_X10_init_85, r_X10_init_86, r_X10_init_89, r_X10_init_92, r_X10_init_93, r_X10_init_96, r_X10_init_97, r_X10_init_100, r_X10_init_103, r_X10_init_104, r_X10_init_107, r_X10_init_108, r_X10_init_111, r_X10_init_112, r_X10_init_115, r_X10_init_116, r_X10_init_119, gF_0, gF_1, gF_2, gF_3, gF_4, gF_5, gF_6, gF_7, gF_8, gF_9, gF_10, gF_11, gF_12, gF_13, gF_14, gF_15, gF_16, gF_17, pF_0, pF_1, pF_2, pF_3, pF_4, pF_5, pF_6, pF_7, pF_8, pF_9, pF_10, pF_11, pF_12, pF_13, pF_14, pF_15, pF_16, pF_17, gI_of, gL_of, gR_of, sI_of, sL_of, gN_of, gO_of, cl_i, cl_r, cl_l, cl_n, pu_s, pu_n, rV_s, hg_same, hg_ne, if_true, if_false, true_and, and_true, ne_eq, not_false_eq_true, not_true_eq_false, o5, hg_hn_ne, hn_1, hs_sz, z5, Nat.reduceAdd]
  refine i_LeastFill (hg_hn_eq (by simp only [hs_sz, z5])) (by simp only [hn_1, hs_sz, z5]) (fun g6 nw6 f6_0 f6_1 f6_2 f6_3 => ?_)
  have z6 : g6.1 = 63 := by rw [nw6.1]; simp only [hn_1, hs_sz, z5]
  have s6 : g6.2.1 = g5.2.1 + 3 + 4265 := by rw [nw6.2.1]; simp only [hn_2, hs_sl, jn_4]
  have k6 : ∀ b, b < 47 → b ≠ 1 → hg g6 b = hg g5 b := fun b p1 p2 => (nw6.2.2 b (by simp only [hn_1, hs_sz, z5]; omega) (by omega)).trans ((hg_hn_ne (by simp only [hs_sz, z5]; omega)).trans (hg_ne p2))
  have o6 : hg g6 1 = some (oB 10 [.ref 2, .ref 27, .ref 32, .ref 35, .ref 37, .ref 44, .null, .null, .null]) := (nw6.2.2 1 (by simp only [hn_1, hs_sz, z5]; omega) (by omega)).trans ((hg_hn_ne (by simp only [hs_sz, z5]; omega)).trans (hg_same _ _ _))
  simp (disch := first | omega | (simp only [hn_1, hm_1, hs_sz, z6]; omega) | (simp only [hn_1, hm_1, hs_sz, z6]; done) | assumption) only [r_X10_init_0, r_X10_init_1, r_X10_init_4, r_X10_init_5, r_X10_init_8, r_X10_init_9, r_X10_init_12, r_X10_init_15, r_X10_init_16, r_X10_init_19, r_X10_init_20, r_X10_init_23, r_X10_init_26, r_X10_init_27, r_X10_init_30, r_X10_init_31, r_X10_init_34, r_X10_init_37, r_X10_init_38, r_X10_init_41, r_X10_init_42, r_X10_init_45, r_X10_init_48, r_X10_init_49, r_X10_init_52, r_X10_init_53, r_X10_init_56, r_X10_init_59, r_X10_init_60, r_X10_init_63, r_X10_init_64, r_X10_init_67, r_X10_init_70, r_X10_init_71, r_X10_init_74, r_X10_init_75, r_X10_init_78, r_X10_init_81, r_X10_init_82, r_X10_init_85, r_X10_init_86, r_X10_init_89, r_X10_init_92, r_X10_init_93, r_X10_init_96, r_X10_init_97, r_X10_init_100, r_X10_init_103, r_X10_init_104, r_X10_init_107, r_X10_init_108, r_X10_init_111, r_X10_init_112, r_X10_init_115, r_X10_init_116, r_X10_init_119, gF_0, gF_1, gF_2, gF_3, gF_4, gF_5, gF_6, gF_7, gF_8, gF_9, gF_10, gF_11, gF_12, gF_13, gF_14, gF_15, gF_16, gF_17, pF_0, pF_1, pF_2, pF_3, pF_4, pF_5, pF_6, pF_7, pF_8, pF_9, pF_10, pF_11, pF_12, pF_13, pF_14, pF_15, pF_16, pF_17, gI_of, gL_of, gR_of, sI_of, sL_of, gN_of, gO_of, cl_i, cl_r, cl_l, cl_n, pu_s, pu_n, rV_s, hg_same, hg_ne, if_true, if_false, true_and, and_true, ne_eq, not_false_eq_true, not_true_eq_false, o6, hg_hn_ne, hn_1, hs_sz, z6, Nat.reduceAdd]
  refine i_Rests (hg_hn_eq (by simp only [hs_sz, z6])) (by simp only [hn_1, hs_sz, z6]) (fun g7 nw7 f7_0 f7_1 f7_2 f7_3 => ?_)
  have z7 : g7.1 = 86 := by rw [nw7.1]; simp only [hn_1, hs_sz, z6]
  have s7 : g7.2.1 = g6.2.1 + 4 + 460 := by rw [nw7.2.1]; simp only [hn_2, hs_sl, jn_7]
  have k7 : ∀ b, b < 63 → b ≠ 1 → hg g7 b = hg g6 b := fun b p1 p2 => (nw7.2.2 b (by simp only [hn_1, hs_sz, z6]; omega) (by omega)).trans ((hg_hn_ne (by simp only [hs_sz, z6]; omega)).trans (hg_ne p2))
  have o7 : hg g7 1 = some (oB 10 [.ref 2, .ref 27, .ref 32, .ref 35, .ref 37, .ref 44, .ref 47, .null, .null]) := (nw7.2.2 1 (by simp only [hn_1, hs_sz, z6]; omega) (by omega)).trans ((hg_hn_ne (by simp only [hs_sz, z6]; omega)).trans (hg_same _ _ _))
  simp (disch := first | omega | (simp only [hn_1, hm_1, hs_sz, z7]; omega) | (simp only [hn_1, hm_1, hs_sz, z7]; done) | assumption) only [r_X10_init_0, r_X10_init_1, r_X10_init_4, r_X10_init_5, r_X10_init_8, r_X10_init_9, r_X10_init_12, r_X10_init_15, r_X10_init_16, r_X10_init_19, r_X10_init_20, r_X10_init_23, r_X10_init_26, r_X10_init_27, r_X10_init_30, r_X10_init_31, r_X10_init_34, r_X10_init_37, r_X10_init_38, r_X10_init_41, r_X10_init_42, r_X10_init_45, r_X10_init_48, r_X10_init_49, r_X10_init_52, r_X10_init_53, r_X10_init_56, r_X10_init_59, r_X10_init_60, r_X10_init_63, r_X10_init_64, r_X10_init_67, r_X10_init_70, r_X10_init_71, r_X10_init_74, r_X10_init_75, r_X10_init_78, r_X10_init_81, r_X10_init_82, r_X10_init_85, r_X10_init_86, r_X10_init_89, r_X10_init_92, r_X10_init_93, r_X10_init_96, r_X10_init_97, r_X10_init_100, r_X10_init_103, r_X10_init_104, r_X10_init_107, r_X10_init_108, r_X10_init_111, r_X10_init_112, r_X10_init_115, r_X10_init_116, r_X10_init_119, gF_0, gF_1, gF_2, gF_3, gF_4, gF_5, gF_6, gF_7, gF_8, gF_9, gF_10, gF_11, gF_12, gF_13, gF_14, gF_15, gF_16, gF_17, pF_0, pF_1, pF_2, pF_3, pF_4, pF_5, pF_6, pF_7, pF_8, pF_9, pF_10, pF_11, pF_12, pF_13, pF_14, pF_15, pF_16, pF_17, gI_of, gL_of, gR_of, sI_of, sL_of, gN_of, gO_of, cl_i, cl_r, cl_l, cl_n, pu_s, pu_n, rV_s, hg_same, hg_ne, if_true, if_false, true_and, and_true, ne_eq, not_false_eq_true, not_true_eq_false, o7, hg_hn_ne, hn_1, hs_sz, z7, Nat.reduceAdd]
  refine i_Fractions (hg_hn_eq (by simp only [hs_sz, z7])) (by simp only [hn_1, hs_sz, z7]) (fun g8 nw8 f8_0 f8_1 => ?_)
  have z8 : g8.1 = 88 := by rw [nw8.1]; simp only [hn_1, hs_sz, z7]
  have s8 : g8.2.1 = g7.2.1 + 1 + 32 := by rw [nw8.2.1]; simp only [hn_2, hs_sl, jn_2]
  have k8 : ∀ b, b < 86 → b ≠ 1 → hg g8 b = hg g7 b := fun b p1 p2 => (nw8.2.2 b (by simp only [hn_1, hs_sz, z7]; omega) (by omega)).trans ((hg_hn_ne (by simp only [hs_sz, z7]; omega)).trans (hg_ne p2))
  have o8 : hg g8 1 = some (oB 10 [.ref 2, .ref 27, .ref 32, .ref 35, .ref 37, .ref 44, .ref 47, .ref 63, .null]) := (nw8.2.2 1 (by simp only [hn_1, hs_sz, z7]; omega) (by omega)).trans ((hg_hn_ne (by simp only [hs_sz, z7]; omega)).trans (hg_same _ _ _))
  simp (disch := first | omega | assumption) only [r_X10_init_0, r_X10_init_1, r_X10_init_4, r_X10_init_5, r_X10_init_8, r_X10_init_9, r_X10_init_12, r_X10_init_15, r_X10_init_16, r_X10_init_19, r_X10_init_20, r_X10_init_23, r_X10_init_26, r_X10_init_27, r_X10_init_30, r_X10_init_31, r_X10_init_34, r_X10_init_37, r_X10_init_38, r_X10_init_41, r_X10_init_42, r_X10_init_45, r_X10_init_48, r_X10_init_49, r_X10_init_52, r_X10_init_53, r_X10_init_56, r_X10_init_59, r_X10_init_60, r_X10_init_63, r_X10_init_64, r_X10_init_67, r_X10_init_70, r_X10_init_71, r_X10_init_74, r_X10_init_75, r_X10_init_78, r_X10_init_81, r_X10_init_82, r_X10_init_85, r_X10_init_86, r_X10_init_89, r_X10_init_92, r_X10_init_93, r_X10_init_96, r_X10_init_97, r_X10_init_100, r_X10_init_103, r_X10_init_104, r_X10_init_107, r_X10_init_108, r_X10_init_111, r_X10_init_112, r_X10_init_115, r_X10_init_116, r_X10_init_119, gF_0, gF_1, gF_2, gF_3, gF_4, gF_5, gF_6, gF_7, gF_8, gF_9, gF_10, gF_11, gF_12, gF_13, gF_14, gF_15, gF_16, gF_17, pF_0, pF_1, pF_2, pF_3, pF_4, pF_5, pF_6, pF_7, pF_8, pF_9, pF_10, pF_11, pF_12, pF_13, pF_14, pF_15, pF_16, pF_17, gI_of, gL_of, gR_of, sI_of, sL_of, gN_of, gO_of, cl_i, cl_r, cl_l, cl_n, pu_s, pu_n, rV_s, hg_same, hg_ne, if_true, if_false, true_and, and_true, ne_eq, not_false_eq_true, not_true_eq_false, o8]
  have K : ∀ b, b ≠ 1 → hg (hs g8 1 (oB 10 [.ref 2, .ref 27, .ref 32, .ref 35, .ref 37, .ref 44, .ref 47, .ref 63, .ref 86])) b = hg g8 b := fun b hb => hg_ne hb
  have t0 : xT g0 0 (fun _ _ => 0) := by
    obtain ⟨R, r1, r2⟩ := f0_1
    refine ⟨f0_0, ⟨R, r1, r2⟩, fun i hi => ⟨_, f0_2 i hi, fun _ _ => rfl⟩, ⟨_, f0_3 25 (by omega) (by omega), fun i hi => ?_⟩, ⟨_, f0_3 26 (by omega) (by omega), fun i hi => ?_⟩⟩
    · show (0 : Int32) = nI (ac (fun _ _ => 0) i)
      rw [(z_wipe i hi).1]; rfl
    · show (0 : Int32) = nI (dn (fun _ _ => 0) i)
      rw [(z_wipe i hi).2]; rfl
  generalize hG : hs g8 1 (oB 10 [.ref 2, .ref 27, .ref 32, .ref 35, .ref 37, .ref 44, .ref 47, .ref 63, .ref 86]) = G at K ⊢
  have zG : G.1 = 88 := by rw [← hG]; exact z8
  have sG : G.2.1 = g8.2.1 := by rw [← hG]; rfl
  have oG : hg G 1 = some (oB 10 [.ref 2, .ref 27, .ref 32, .ref 35, .ref 37, .ref 44, .ref 47, .ref 63, .ref 86]) := by rw [← hG]; exact hg_same _ _ _
  have E8 : ∀ b, b ≠ 1 → b < 88 → hg G b = hg g8 b := fun b h1 _ => K b h1
  have E7 : ∀ b, b ≠ 1 → b < 86 → hg G b = hg g7 b := fun b h1 h2 => (E8 b h1 (by omega)).trans (k8 b (by omega) h1)
  have E6 : ∀ b, b ≠ 1 → b < 63 → hg G b = hg g6 b := fun b h1 h2 => (E7 b h1 (by omega)).trans (k7 b (by omega) h1)
  have E5 : ∀ b, b ≠ 1 → b < 47 → hg G b = hg g5 b := fun b h1 h2 => (E6 b h1 (by omega)).trans (k6 b (by omega) h1)
  have E4 : ∀ b, b ≠ 1 → b < 44 → hg G b = hg g4 b := fun b h1 h2 => (E5 b h1 (by omega)).trans (k5 b (by omega) h1)
  have E3 : ∀ b, b ≠ 1 → b < 37 → hg G b = hg g3 b := fun b h1 h2 => (E4 b h1 (by omega)).trans (k4 b (by omega) h1)
  have E2 : ∀ b, b ≠ 1 → b < 35 → hg G b = hg g2 b := fun b h1 h2 => (E3 b h1 (by omega)).trans (k3 b (by omega) h1)
  have E1 : ∀ b, b ≠ 1 → b < 32 → hg G b = hg g1 b := fun b h1 h2 => (E2 b h1 (by omega)).trans (k2 b (by omega) h1)
  have E0 : ∀ b, b ≠ 1 → b < 27 → hg G b = hg g0 b := fun b h1 h2 => (E1 b h1 (by omega)).trans (k1 b (by omega) h1)
  have EE : hg G 0 = hg h 0 := (E0 0 (by omega) (by omega)).trans (k0 0 (by omega) (by omega))
  have T : xT G 0 (fun _ _ => 0) := t0.eq (fun b p1 p2 => E0 b (by omega) p2)
  have S24 : isI G 24 20 := ⟨_, (E0 24 (by omega) (by omega)).trans (f0_3 24 (by omega) (by omega))⟩
  have XM : xM G := ⟨⟨_, (E1 27 (by omega) (by omega)).trans f1_0⟩, ⟨_, (E1 28 (by omega) (by omega)).trans (f1_1 28 (by omega) (by omega))⟩, ⟨_, (E1 29 (by omega) (by omega)).trans (f1_1 29 (by omega) (by omega))⟩, ⟨_, (E1 30 (by omega) (by omega)).trans (f1_1 30 (by omega) (by omega))⟩, ⟨_, (E1 31 (by omega) (by omega)).trans (f1_1 31 (by omega) (by omega))⟩⟩
  have XB : xB G := ⟨⟨_, (E2 32 (by omega) (by omega)).trans f2_0⟩, ⟨_, (E2 33 (by omega) (by omega)).trans (f2_1 33 (by omega) (by omega))⟩, ⟨_, (E2 34 (by omega) (by omega)).trans (f2_1 34 (by omega) (by omega))⟩⟩
  have O35 := (E3 35 (by omega) (by omega)).trans f3_0
  have O36 := (E3 36 (by omega) (by omega)).trans (f3_1 36 (by omega) (by omega))
  have XE : xE G := ⟨⟨_, _, _, _, (E4 37 (by omega) (by omega)).trans f4_0⟩, ⟨_, (E4 38 (by omega) (by omega)).trans f4_1⟩, ⟨_, (E4 39 (by omega) (by omega)).trans (f4_2 39 (by omega) (by omega))⟩, ⟨_, (E4 40 (by omega) (by omega)).trans (f4_2 40 (by omega) (by omega))⟩, ⟨_, (E4 41 (by omega) (by omega)).trans (f4_2 41 (by omega) (by omega))⟩, ⟨_, (E4 42 (by omega) (by omega)).trans (f4_2 42 (by omega) (by omega))⟩, ⟨_, (E4 43 (by omega) (by omega)).trans (f4_2 43 (by omega) (by omega))⟩⟩
  have XD : xD G := ⟨(E5 44 (by omega) (by omega)).trans f5_0, ⟨_, (E5 45 (by omega) (by omega)).trans f5_1⟩, ⟨_, (E5 46 (by omega) (by omega)).trans f5_2⟩⟩
  have XL : xL G := by
    obtain ⟨R, r1, r2⟩ := f6_2
    exact ⟨⟨_, (E6 47 (by omega) (by omega)).trans f6_0⟩, ⟨_, (E6 48 (by omega) (by omega)).trans f6_1⟩, ⟨R, (E6 49 (by omega) (by omega)).trans r1, r2⟩, fun i hi => ⟨_, (E6 (50 + i) (by omega) (by omega)).trans (f6_3 i hi)⟩⟩
  have XR : xR G 10007 := by
    obtain ⟨R, r1, r2⟩ := f7_1
    exact ⟨⟨_, (E7 63 (by omega) (by omega)).trans f7_0⟩, ⟨R, fun i => i, (E7 64 (by omega) (by omega)).trans r1, fun i hi => ⟨r2 i hi, hi⟩, fun i j _ _ e => e⟩, fun i hi => ⟨_, (E7 (65 + i) (by omega) (by omega)).trans (f7_2 i hi)⟩, ⟨_, (E7 85 (by omega) (by omega)).trans f7_3⟩⟩
  have XF : xF G := ⟨(E8 86 (by omega) (by omega)).trans f8_0, ⟨_, (E8 87 (by omega) (by omega)).trans f8_1⟩⟩
  have T2 : hg g8 2 = _ := (K 2 (by omega)).symm.trans T.1
  simp only [T2, gO_of]
  refine x_wipe (m := 4) T S24 (fun w tw w24 sw => ?_)
  have ow := (sw.at (b := 1) (by omega)).trans oG
  have w35 := (sw.at (b := 35) (by omega)).trans O35
  have w36 := (sw.at (b := 36) (by omega)).trans O36
  simp (disch := first | omega | assumption) only [r_X10_init_0, r_X10_init_1, r_X10_init_4, r_X10_init_5, r_X10_init_8, r_X10_init_9, r_X10_init_12, r_X10_init_15, r_X10_init_16, r_X10_init_19, r_X10_init_20, r_X10_init_23, r_X10_init_26, r_X10_init_27, r_X10_init_30, r_X10_init_31, r_X10_init_34, r_X10_init_37, r_X10_init_38, r_X10_init_41, r_X10_init_42, r_X10_init_45, r_X10_init_48, r_X10_init_49, r_X10_init_52, r_X10_init_53, r_X10_init_56, r_X10_init_59, r_X10_init_60, r_X10_init_63, r_X10_init_64, r_X10_init_67, r_X10_init_70, r_X10_init_71, r_X10_init_74, r_X10_init_75, r_X10_init_78, r_X10_init_81, r_X10_init_82, r_X10_init_85, r_X10_init_86, r_X10_init_89, r_X10_init_92, r_X10_init_93, r_X10_init_96, r_X10_init_97, r_X10_init_100, r_X10_init_103, r_X10_init_104, r_X10_init_107, r_X10_init_108, r_X10_init_111, r_X10_init_112, r_X10_init_115, r_X10_init_116, r_X10_init_119, gF_0, gF_1, gF_2, gF_3, gF_4, gF_5, gF_6, gF_7, gF_8, gF_9, gF_10, gF_11, gF_12, gF_13, gF_14, gF_15, gF_16, gF_17, pF_0, pF_1, pF_2, pF_3, pF_4, pF_5, pF_6, pF_7, pF_8, pF_9, pF_10, pF_11, pF_12, pF_13, pF_14, pF_15, pF_16, pF_17, gI_of, gL_of, gR_of, sI_of, sL_of, gN_of, gO_of, cl_i, cl_r, cl_l, cl_n, pu_s, pu_n, rV_s, hg_same, hg_ne, if_true, if_false, true_and, and_true, ne_eq, not_false_eq_true, not_true_eq_false, ow, w35]
  refine x_setAsTheyAre (n := 4) w35 w36 (by omega) (fun g hg => ?_)
  simp (disch := first | omega | assumption) only [r_X10_init_0, r_X10_init_1, r_X10_init_4, r_X10_init_5, r_X10_init_8, r_X10_init_9, r_X10_init_12, r_X10_init_15, r_X10_init_16, r_X10_init_19, r_X10_init_20, r_X10_init_23, r_X10_init_26, r_X10_init_27, r_X10_init_30, r_X10_init_31, r_X10_init_34, r_X10_init_37, r_X10_init_38, r_X10_init_41, r_X10_init_42, r_X10_init_45, r_X10_init_48, r_X10_init_49, r_X10_init_52, r_X10_init_53, r_X10_init_56, r_X10_init_59, r_X10_init_60, r_X10_init_63, r_X10_init_64, r_X10_init_67, r_X10_init_70, r_X10_init_71, r_X10_init_74, r_X10_init_75, r_X10_init_78, r_X10_init_81, r_X10_init_82, r_X10_init_85, r_X10_init_86, r_X10_init_89, r_X10_init_92, r_X10_init_93, r_X10_init_96, r_X10_init_97, r_X10_init_100, r_X10_init_103, r_X10_init_104, r_X10_init_107, r_X10_init_108, r_X10_init_111, r_X10_init_112, r_X10_init_115, r_X10_init_116, r_X10_init_119, gF_0, gF_1, gF_2, gF_3, gF_4, gF_5, gF_6, gF_7, gF_8, gF_9, gF_10, gF_11, gF_12, gF_13, gF_14, gF_15, gF_16, gF_17, pF_0, pF_1, pF_2, pF_3, pF_4, pF_5, pF_6, pF_7, pF_8, pF_9, pF_10, pF_11, pF_12, pF_13, pF_14, pF_15, pF_16, pF_17, gI_of, gL_of, gR_of, sI_of, sL_of, gN_of, gO_of, cl_i, cl_r, cl_l, cl_n, pu_s, pu_n, rV_s, hg_same, hg_ne, if_true, if_false, true_and, and_true, ne_eq, not_false_eq_true, not_true_eq_false]
  have SW : Sm (fun b => b = 36) w (hs w 36 (aI 20 g)) := (Sm.rf _ w).set rfl
  refine k _ ?_ ?_ ?_ ⟨?_, ?_, ?_, ?_, ?_, ?_, ?_, ?_, ?_, ?_, ?_⟩
  · show w.1 = 88; rw [sw.1, zG]
  · show w.2.1 = _; rw [sw.2.1, sG, s8, s7, s6, s5, s4, s3, s2, s1, s0]
  · rw [SW.at (by omega), sw.at (by omega), EE]
  · rw [SW.at (by omega)]; exact ow
  · exact tw.keep SW (fun b q => by omega)
  · exact w24.keep (SW.at (by omega))
  · exact (XM.keep sw (fun b q => by omega)).keep SW (fun b q => by omega)
  · exact (XB.keep sw (fun b q => by omega)).keep SW (fun b q => by omega)
  · exact ⟨(SW.at (by omega)).trans w35, ⟨g, hg_same _ _ _, hg⟩⟩
  · exact (XE.keep sw (fun b q => by omega)).keep SW (fun b q => by omega)
  · exact (XD.keep sw (fun b q => by omega)).keep SW (fun b q => by omega)
  · exact (XL.keep sw (fun b q => by omega)).keep SW (fun b q => by omega)
  · exact (XR.keep sw (fun b q => by omega)).keep SW (fun b q => by omega)
  · exact (XF.keep sw (fun b q => by omega)).keep SW (fun b q => by omega)

theorem m_begin {d n m p : Nat} {h : j_H} {Q : Option Value → j_H → Prop} (h0 : mO h n p) (h1 : isI h 89 400) (h2 : isI h 90 20) (h3 : isI h 91 20) (k : ∀ h1, mO h1 m p → mC h1 (fun _ _ => 0) → hI h1 90 20 20 (fun _ => 0) → hI h1 91 20 20 (fun i => nI i) → Sm (fun b => 88 ≤ b ∧ b < 92) h h1 → Q none h1) : WP d mX11_begin 0 [some (.ref 88), some (.int (nI m)), none] [] h Q := by
  obtain ⟨a, b, c, h0⟩ := h0
  obtain ⟨f89, h1⟩ := h1
  obtain ⟨f90, h2⟩ := h2
  obtain ⟨f91, h3⟩ := h3
  simp (disch := first | omega | assumption) only [r_X11_begin_0, r_X11_begin_1, r_X11_begin_2, r_X11_begin_5, r_X11_begin_6, r_X11_begin_8, r_X11_begin_11, r_X11_begin_14, r_X11_begin_15, r_X11_begin_18, r_X11_begin_19, r_X11_begin_20, r_X11_begin_21, r_X11_begin_24, r_X11_begin_27, r_X11_begin_28, r_X11_begin_30, r_X11_begin_32, r_X11_begin_35, r_X11_begin_36, r_X11_begin_39, r_X11_begin_40, r_X11_begin_41, r_X11_begin_42, r_X11_begin_43, r_X11_begin_46, r_X11_begin_47, r_X11_begin_48, r_X11_begin_49, r_X11_begin_52, r_X11_begin_55, gF_0, gF_1, gF_2, gF_3, gF_4, gF_5, gF_6, gF_7, gF_8, gF_9, gF_10, gF_11, gF_12, gF_13, gF_14, gF_15, gF_16, gF_17, pF_0, pF_1, pF_2, pF_3, pF_4, pF_5, pF_6, pF_7, pF_8, pF_9, pF_10, pF_11, pF_12, pF_13, pF_14, pF_15, pF_16, pF_17, gI_of, gL_of, gR_of, sI_of, sL_of, gN_of, gO_of, cl_i, cl_r, cl_l, cl_n, pu_s, pu_n, rV_s, hg_same, hg_ne, if_true, if_false, true_and, and_true, ne_eq, not_false_eq_true, not_true_eq_false, h0]
  generalize hG : hs h 88 _ = G
  have g88 : hg G 88 = some (oB 11 [.int (nI m), .ref 89, .ref 90, .ref 91, .int (nI p), .ref 92, .ref 93, .ref 94, .ref 95, .int a, .ref 96, .ref 97, .ref 98, .ref 99, .ref 100, .int b, .int c, .ref 101]) := by rw [← hG]; exact hg_same _ _ _
  have S0 : Sm (fun b => 88 ≤ b ∧ b < 92) h G := by rw [← hG]; exact (Sm.rf _ h).set (by omega)
  have g89 : hg G 89 = some (aI 400 f89) := by rw [← hG, hg_ne (by omega)]; exact h1
  have g90 : hg G 90 = some (aI 20 f90) := by rw [← hG, hg_ne (by omega)]; exact h2
  have g91 : hg G 91 = some (aI 20 f91) := by rw [← hG, hg_ne (by omega)]; exact h3
  have key2 : ∀ i, i ≤ 20 → ∀ f9 g s, (∀ j, j < 400 → f9 j = 0) → (∀ j, j < i → g j = 0 ∧ s j = nI j) → WP d mX11_begin 29 [some (.ref 88), some (.int (nI m)), some (.int (nI i))] [] (hs (hs (hs G 89 (aI 400 f9)) 90 (aI 20 g)) 91 (aI 20 s)) Q := by
    refine lup (P := fun i => ∀ f9 g s, (∀ j, j < 400 → f9 j = 0) → (∀ j, j < i → g j = 0 ∧ s j = nI j) → WP d mX11_begin 29 [some (.ref 88), some (.int (nI m)), some (.int (nI i))] [] (hs (hs (hs G 89 (aI 400 f9)) 90 (aI 20 g)) 91 (aI 20 s)) Q) ?_ ?_
    · intro f9 g s p1 p2
      rw [r_X11_begin_29]
      simp (disch := first | omega | assumption) only [r_X11_begin_0, r_X11_begin_1, r_X11_begin_2, r_X11_begin_5, r_X11_begin_6, r_X11_begin_8, r_X11_begin_11, r_X11_begin_14, r_X11_begin_15, r_X11_begin_18, r_X11_begin_19, r_X11_begin_20, r_X11_begin_21, r_X11_begin_24, r_X11_begin_27, r_X11_begin_28, r_X11_begin_30, r_X11_begin_32, r_X11_begin_35, r_X11_begin_36, r_X11_begin_39, r_X11_begin_40, r_X11_begin_41, r_X11_begin_42, r_X11_begin_43, r_X11_begin_46, r_X11_begin_47, r_X11_begin_48, r_X11_begin_49, r_X11_begin_52, r_X11_begin_55, gF_0, gF_1, gF_2, gF_3, gF_4, gF_5, gF_6, gF_7, gF_8, gF_9, gF_10, gF_11, gF_12, gF_13, gF_14, gF_15, gF_16, gF_17, pF_0, pF_1, pF_2, pF_3, pF_4, pF_5, pF_6, pF_7, pF_8, pF_9, pF_10, pF_11, pF_12, pF_13, pF_14, pF_15, pF_16, pF_17, gI_of, gL_of, gR_of, sI_of, sL_of, gN_of, gO_of, cl_i, cl_r, cl_l, cl_n, pu_s, pu_n, rV_s, hg_same, hg_ne, if_true, if_false, true_and, and_true, ne_eq, not_false_eq_true, not_true_eq_false, nI_add, n_mul, n_sub, n_div, n_dec, n_dif, n_shl1, n_bit, n_eq0, n_0eq, n_eq, n_lt, n_le, n_lt0, n_ge0, n_gt0, n_le0, n_em1, n_m1e, n_m1lt0, n_m1ge0, n_m1gt0, n_m1eq0, n_m1lt, bI_eq0, bI_ne0, tb_eq0, tb_eq1, Nat.le_refl]
      refine k _ ⟨a, b, c, ?_⟩ ⟨f9, ?_, fun i j hi hj => p1 _ (by omega)⟩ ⟨g, ?_, fun i hi => (p2 i hi).1⟩ ⟨s, ?_, fun i hi => (p2 i hi).2⟩ (((S0.set (by omega)).set (by omega)).set (by omega))
      · simp (disch := omega) only [hg_ne, g88]
      · simp (disch := omega) only [hg_ne, hg_same]
      · simp (disch := omega) only [hg_ne, hg_same]
      · exact hg_same _ _ _
    · intro i hi ih f9 g s p1 p2
      rw [r_X11_begin_29]
      simp (disch := first | omega | assumption) only [r_X11_begin_0, r_X11_begin_1, r_X11_begin_2, r_X11_begin_5, r_X11_begin_6, r_X11_begin_8, r_X11_begin_11, r_X11_begin_14, r_X11_begin_15, r_X11_begin_18, r_X11_begin_19, r_X11_begin_20, r_X11_begin_21, r_X11_begin_24, r_X11_begin_27, r_X11_begin_28, r_X11_begin_30, r_X11_begin_32, r_X11_begin_35, r_X11_begin_36, r_X11_begin_39, r_X11_begin_40, r_X11_begin_41, r_X11_begin_42, r_X11_begin_43, r_X11_begin_46, r_X11_begin_47, r_X11_begin_48, r_X11_begin_49, r_X11_begin_52, r_X11_begin_55, gF_0, gF_1, gF_2, gF_3, gF_4, gF_5, gF_6, gF_7, gF_8, gF_9, gF_10, gF_11, gF_12, gF_13, gF_14, gF_15, gF_16, gF_17, pF_0, pF_1, pF_2, pF_3, pF_4, pF_5, pF_6, pF_7, pF_8, pF_9, pF_10, pF_11, pF_12, pF_13, pF_14, pF_15, pF_16, pF_17, gI_of, gL_of, gR_of, sI_of, sL_of, gN_of, gO_of, cl_i, cl_r, cl_l, cl_n, pu_s, pu_n, rV_s, hg_same, hg_ne, if_true, if_false, true_and, and_true, ne_eq, not_false_eq_true, not_true_eq_false, nI_add, n_mul, n_sub, n_div, n_dec, n_dif, n_shl1, n_bit, n_eq0, n_0eq, n_eq, n_lt, n_le, n_lt0, n_ge0, n_gt0, n_le0, n_em1, n_m1e, n_m1lt0, n_m1ge0, n_m1gt0, n_m1eq0, n_m1lt, bI_eq0, bI_ne0, tb_eq0, tb_eq1, show ¬ 20 ≤ i by omega, g88]
      rw [hs_3 (show (90 : Nat) ≠ 91 by decide), hs_hs]
      refine ih f9 _ _ p1 (fun j hj => ?_)
      by_cases e : j = i
      · subst e; rw [up_same, up_same]; exact ⟨rfl, rfl⟩
      · rw [up_ne e, up_ne e]; exact p2 j (by omega)
  have key : ∀ i, i ≤ 400 → ∀ g, (∀ j, j < i → g j = 0) → WP d mX11_begin 7 [some (.ref 88), some (.int (nI m)), some (.int (nI i))] [] (hs G 89 (aI 400 g)) Q := by
    refine lup (P := fun i => ∀ g, (∀ j, j < i → g j = 0) → WP d mX11_begin 7 [some (.ref 88), some (.int (nI m)), some (.int (nI i))] [] (hs G 89 (aI 400 g)) Q) ?_ ?_
    · intro g p1
      rw [r_X11_begin_7]
      simp (disch := first | omega | assumption) only [r_X11_begin_0, r_X11_begin_1, r_X11_begin_2, r_X11_begin_5, r_X11_begin_6, r_X11_begin_8, r_X11_begin_11, r_X11_begin_14, r_X11_begin_15, r_X11_begin_18, r_X11_begin_19, r_X11_begin_20, r_X11_begin_21, r_X11_begin_24, r_X11_begin_27, r_X11_begin_28, r_X11_begin_30, r_X11_begin_32, r_X11_begin_35, r_X11_begin_36, r_X11_begin_39, r_X11_begin_40, r_X11_begin_41, r_X11_begin_42, r_X11_begin_43, r_X11_begin_46, r_X11_begin_47, r_X11_begin_48, r_X11_begin_49, r_X11_begin_52, r_X11_begin_55, gF_0, gF_1, gF_2, gF_3, gF_4, gF_5, gF_6, gF_7, gF_8, gF_9, gF_10, gF_11, gF_12, gF_13, gF_14, gF_15, gF_16, gF_17, pF_0, pF_1, pF_2, pF_3, pF_4, pF_5, pF_6, pF_7, pF_8, pF_9, pF_10, pF_11, pF_12, pF_13, pF_14, pF_15, pF_16, pF_17, gI_of, gL_of, gR_of, sI_of, sL_of, gN_of, gO_of, cl_i, cl_r, cl_l, cl_n, pu_s, pu_n, rV_s, hg_same, hg_ne, if_true, if_false, true_and, and_true, ne_eq, not_false_eq_true, not_true_eq_false, nI_add, n_mul, n_sub, n_div, n_dec, n_dif, n_shl1, n_bit, n_eq0, n_0eq, n_eq, n_lt, n_le, n_lt0, n_ge0, n_gt0, n_le0, n_em1, n_m1e, n_m1lt0, n_m1ge0, n_m1gt0, n_m1eq0, n_m1lt, bI_eq0, bI_ne0, tb_eq0, tb_eq1, Nat.le_refl]
      have := key2 0 (by omega) g f90 f91 p1 (fun j hj => by omega)
      rw [hs_self (h := hs G 89 (aI 400 g)) (a := 90) (by simp (disch := omega) only [hg_ne, g90]), hs_self (h := hs G 89 (aI 400 g)) (a := 91) (by simp (disch := omega) only [hg_ne, g91])] at this
      exact this
    · intro i hi ih g p1
      rw [r_X11_begin_7]
      simp (disch := first | omega | assumption) only [r_X11_begin_0, r_X11_begin_1, r_X11_begin_2, r_X11_begin_5, r_X11_begin_6, r_X11_begin_8, r_X11_begin_11, r_X11_begin_14, r_X11_begin_15, r_X11_begin_18, r_X11_begin_19, r_X11_begin_20, r_X11_begin_21, r_X11_begin_24, r_X11_begin_27, r_X11_begin_28, r_X11_begin_30, r_X11_begin_32, r_X11_begin_35, r_X11_begin_36, r_X11_begin_39, r_X11_begin_40, r_X11_begin_41, r_X11_begin_42, r_X11_begin_43, r_X11_begin_46, r_X11_begin_47, r_X11_begin_48, r_X11_begin_49, r_X11_begin_52, r_X11_begin_55, gF_0, gF_1, gF_2, gF_3, gF_4, gF_5, gF_6, gF_7, gF_8, gF_9, gF_10, gF_11, gF_12, gF_13, gF_14, gF_15, gF_16, gF_17, pF_0, pF_1, pF_2, pF_3, pF_4, pF_5, pF_6, pF_7, pF_8, pF_9, pF_10, pF_11, pF_12, pF_13, pF_14, pF_15, pF_16, pF_17, gI_of, gL_of, gR_of, sI_of, sL_of, gN_of, gO_of, cl_i, cl_r, cl_l, cl_n, pu_s, pu_n, rV_s, hg_same, hg_ne, if_true, if_false, true_and, and_true, ne_eq, not_false_eq_true, not_true_eq_false, nI_add, n_mul, n_sub, n_div, n_dec, n_dif, n_shl1, n_bit, n_eq0, n_0eq, n_eq, n_lt, n_le, n_lt0, n_ge0, n_gt0, n_le0, n_em1, n_m1e, n_m1lt0, n_m1ge0, n_m1gt0, n_m1eq0, n_m1lt, bI_eq0, bI_ne0, tb_eq0, tb_eq1, show ¬ 400 ≤ i by omega, g88, hs_hs]
      refine ih _ (fun j hj => ?_)
      by_cases e : j = i
      · subst e; rw [up_same]; rfl
      · rw [up_ne e]; exact p1 j (by omega)
  have := key 0 (by omega) f89 (fun j hj => by omega)
  rw [hs_self g89] at this
  exact this
theorem i_Model {d : Nat} {h : j_H} {Q : Option Value → j_H → Prop} (h2 : hg h 88 = some (oB 11 (j_df 11))) (hz : h.1 = 89)
    (k : ∀ h1, h1.1 = 102 → h1.2.1 = h.2.1 + 5502 → (∀ b, b < 88 → hg h1 b = hg h b) → MI h1 (4, fun _ _ => 0, fun _ => 0, fun i => i, 10007) → Q none h1) : WP (d + 1) mX11_init 0 [some (.ref 88)] [] h Q := by
  rw [jd_11] at h2
  simp (disch := first | omega | (simp only [hn_1, hm_1, hs_sz, hz]; omega) | (simp only [hn_1, hm_1, hs_sz, hz]; done) | assumption) only [r_X11_init_0, r_X11_init_1, r_X11_init_4, r_X11_init_5, r_X11_init_6, r_X11_init_9, r_X11_init_10, r_X11_init_13, r_X11_init_15, r_X11_init_18, r_X11_init_19, r_X11_init_21, r_X11_init_23, r_X11_init_26, r_X11_init_27, r_X11_init_29, r_X11_init_31, r_X11_init_34, r_X11_init_35, r_X11_init_38, r_X11_init_41, r_X11_init_42, r_X11_init_44, r_X11_init_46, r_X11_init_49, r_X11_init_50, r_X11_init_52, r_X11_init_54, r_X11_init_57, r_X11_init_58, r_X11_init_60, r_X11_init_62, r_X11_init_65, r_X11_init_66, r_X11_init_68, r_X11_init_70, r_X11_init_73, r_X11_init_74, r_X11_init_76, r_X11_init_78, r_X11_init_81, r_X11_init_82, r_X11_init_84, r_X11_init_86, r_X11_init_89, r_X11_init_90, r_X11_init_92, r_X11_init_94, r_X11_init_97, r_X11_init_98, r_X11_init_101, r_X11_init_103, r_X11_init_106, r_X11_init_107, r_X11_init_110, r_X11_init_112, r_X11_init_115, r_X11_init_116, r_X11_init_118, r_X11_init_120, r_X11_init_123, r_X11_init_124, r_X11_init_125, r_X11_init_128, gF_0, gF_1, gF_2, gF_3, gF_4, gF_5, gF_6, gF_7, gF_8, gF_9, gF_10, gF_11, gF_12, gF_13, gF_14, gF_15, gF_16, gF_17, pF_0, pF_1, pF_2, pF_3, pF_4, pF_5, pF_6, pF_7, pF_8, pF_9, pF_10, pF_11, pF_12, pF_13, pF_14, pF_15, pF_16, pF_17, gI_of, gL_of, gR_of, sI_of, sL_of, gN_of, gO_of, cl_i, cl_r, cl_l, cl_n, pu_s, pu_n, rV_s, hg_same, hg_ne, if_true, if_false, true_and, and_true, ne_eq, not_false_eq_true, not_true_eq_false, h2, hg_hn_ne, hn_1, hs_sz, hz, Nat.reduceAdd]
  generalize hG : hs _ 88 _ = G
  have ev : ∀ b, b < 88 → hg G b = hg h b := fun b hb => by
    rw [← hG]
    simp (disch := first | omega | (simp only [hn_1, hm_1, hs_sz, hz]; omega) | (simp only [hn_1, hm_1, hs_sz, hz]; done) | assumption) only [hg_ne, hg_hn_ne]
  have e89 : hg G 89 = some (aI 400 (fun _ => 0)) := by
    rw [← hG]
    simp (disch := first | omega | (simp only [hn_1, hm_1, hs_sz, hz]; omega) | (simp only [hn_1, hm_1, hs_sz, hz]; done) | assumption) only [hg_same, hg_ne, hg_hn_ne, hg_hn_eq]
  have e90 : hg G 90 = some (aI 20 (fun _ => 0)) := by
    rw [← hG]
    simp (disch := first | omega | (simp only [hn_1, hm_1, hs_sz, hz]; omega) | (simp only [hn_1, hm_1, hs_sz, hz]; done) | assumption) only [hg_same, hg_ne, hg_hn_ne, hg_hn_eq]
  have e91 : hg G 91 = some (aI 20 (fun _ => 0)) := by
    rw [← hG]
    simp (disch := first | omega | (simp only [hn_1, hm_1, hs_sz, hz]; omega) | (simp only [hn_1, hm_1, hs_sz, hz]; done) | assumption) only [hg_same, hg_ne, hg_hn_ne, hg_hn_eq]
  have e92 : hg G 92 = some (aI 20 (fun _ => 0)) := by
    rw [← hG]
    simp (disch := first | omega | (simp only [hn_1, hm_1, hs_sz, hz]; omega) | (simp only [hn_1, hm_1, hs_sz, hz]; done) | assumption) only [hg_same, hg_ne, hg_hn_ne, hg_hn_eq]
  have e93 : hg G 93 = some (aI 20 (fun _ => 0)) := by
    rw [← hG]
    simp (disch := first | omega | (simp only [hn_1, hm_1, hs_sz, hz]; omega) | (simp only [hn_1, hm_1, hs_sz, hz]; done) | assumption) only [hg_same, hg_ne, hg_hn_ne, hg_hn_eq]
  have e94 : hg G 94 = some (aI 21 (fun _ => 0)) := by
    rw [← hG]
    simp (disch := first | omega | (simp only [hn_1, hm_1, hs_sz, hz]; omega) | (simp only [hn_1, hm_1, hs_sz, hz]; done) | assumption) only [hg_same, hg_ne, hg_hn_ne, hg_hn_eq]
  have e95 : hg G 95 = some (aI 20 (fun _ => 0)) := by
    rw [← hG]
    simp (disch := first | omega | (simp only [hn_1, hm_1, hs_sz, hz]; omega) | (simp only [hn_1, hm_1, hs_sz, hz]; done) | assumption) only [hg_same, hg_ne, hg_hn_ne, hg_hn_eq]
  have e96 : hg G 96 = some (aI 20 (fun _ => 0)) := by
    rw [← hG]
    simp (disch := first | omega | (simp only [hn_1, hm_1, hs_sz, hz]; omega) | (simp only [hn_1, hm_1, hs_sz, hz]; done) | assumption) only [hg_same, hg_ne, hg_hn_ne, hg_hn_eq]
  have e97 : hg G 97 = some (aI 20 (fun _ => 0)) := by
    rw [← hG]
    simp (disch := first | omega | (simp only [hn_1, hm_1, hs_sz, hz]; omega) | (simp only [hn_1, hm_1, hs_sz, hz]; done) | assumption) only [hg_same, hg_ne, hg_hn_ne, hg_hn_eq]
  have e98 : hg G 98 = some (aI 20 (fun _ => 0)) := by
    rw [← hG]
    simp (disch := first | omega | (simp only [hn_1, hm_1, hs_sz, hz]; omega) | (simp only [hn_1, hm_1, hs_sz, hz]; done) | assumption) only [hg_same, hg_ne, hg_hn_ne, hg_hn_eq]
  have e99 : hg G 99 = some (aI 4096 (fun _ => 0)) := by
    rw [← hG]
    simp (disch := first | omega | (simp only [hn_1, hm_1, hs_sz, hz]; omega) | (simp only [hn_1, hm_1, hs_sz, hz]; done) | assumption) only [hg_same, hg_ne, hg_hn_ne, hg_hn_eq]
  have e100 : hg G 100 = some (aL 800 (fun _ => 0)) := by
    rw [← hG]
    simp (disch := first | omega | (simp only [hn_1, hm_1, hs_sz, hz]; omega) | (simp only [hn_1, hm_1, hs_sz, hz]; done) | assumption) only [hg_same, hg_ne, hg_hn_ne, hg_hn_eq]
  have e101 : hg G 101 = some (aL 25 (fun _ => 0)) := by
    rw [← hG]
    simp (disch := first | omega | (simp only [hn_1, hm_1, hs_sz, hz]; omega) | (simp only [hn_1, hm_1, hs_sz, hz]; done) | assumption) only [hg_same, hg_ne, hg_hn_ne, hg_hn_eq]
  have e88 : mO G 4 10007 := by
    refine ⟨0, 0, 0, ?_⟩
    rw [← hG]
    exact hg_same _ _ _
  have zG : G.1 = 102 := by rw [← hG]; simp only [hs_sz, hn_1, hz]
  have sG : G.2.1 = h.2.1 + 5502 := by rw [← hG]; simp only [hs_sl, hn_2, Nat.add_assoc, Nat.reduceAdd]
  refine m_begin e88 ⟨_, e89⟩ ⟨_, e90⟩ ⟨_, e91⟩ (fun w w88 w89 w90 w91 sw => ?_)
  simp (disch := first | omega | assumption) only [r_X11_init_0, r_X11_init_1, r_X11_init_4, r_X11_init_5, r_X11_init_6, r_X11_init_9, r_X11_init_10, r_X11_init_13, r_X11_init_15, r_X11_init_18, r_X11_init_19, r_X11_init_21, r_X11_init_23, r_X11_init_26, r_X11_init_27, r_X11_init_29, r_X11_init_31, r_X11_init_34, r_X11_init_35, r_X11_init_38, r_X11_init_41, r_X11_init_42, r_X11_init_44, r_X11_init_46, r_X11_init_49, r_X11_init_50, r_X11_init_52, r_X11_init_54, r_X11_init_57, r_X11_init_58, r_X11_init_60, r_X11_init_62, r_X11_init_65, r_X11_init_66, r_X11_init_68, r_X11_init_70, r_X11_init_73, r_X11_init_74, r_X11_init_76, r_X11_init_78, r_X11_init_81, r_X11_init_82, r_X11_init_84, r_X11_init_86, r_X11_init_89, r_X11_init_90, r_X11_init_92, r_X11_init_94, r_X11_init_97, r_X11_init_98, r_X11_init_101, r_X11_init_103, r_X11_init_106, r_X11_init_107, r_X11_init_110, r_X11_init_112, r_X11_init_115, r_X11_init_116, r_X11_init_118, r_X11_init_120, r_X11_init_123, r_X11_init_124, r_X11_init_125, r_X11_init_128, gF_0, gF_1, gF_2, gF_3, gF_4, gF_5, gF_6, gF_7, gF_8, gF_9, gF_10, gF_11, gF_12, gF_13, gF_14, gF_15, gF_16, gF_17, pF_0, pF_1, pF_2, pF_3, pF_4, pF_5, pF_6, pF_7, pF_8, pF_9, pF_10, pF_11, pF_12, pF_13, pF_14, pF_15, pF_16, pF_17, gI_of, gL_of, gR_of, sI_of, sL_of, gN_of, gO_of, cl_i, cl_r, cl_l, cl_n, pu_s, pu_n, rV_s, hg_same, hg_ne, if_true, if_false, true_and, and_true, ne_eq, not_false_eq_true, not_true_eq_false]
  refine k _ (sw.1.trans zG) (sw.2.1.trans sG) (fun b hb => (sw.at (by omega)).trans (ev b hb)) ⟨w88, w89, w90, ?_, ?_⟩
  · obtain ⟨f, p1, p2⟩ := w91
    exact ⟨f, p1, fun i (hi : i < 4) => p2 i (by omega)⟩
  · have : mS G := ⟨⟨_, e92⟩, ⟨_, e93⟩, ⟨_, e94⟩, ⟨_, e95⟩, ⟨_, e96⟩, ⟨_, e97⟩, ⟨_, e98⟩, ⟨_, e99⟩, ⟨_, e100⟩, ⟨_, e101⟩⟩
    exact this.keep sw (fun b q => by omega)
theorem Gd_0 : Gd (4, fun _ _ => 0, fun _ => 0, fun i => i, 10007) := by
  have v0 : vl 0 := by unfold vl; decide +kernel
  refine ⟨by decide, fun _ _ _ => rfl, fun _ _ => v0, fun _ => v0, ⟨fun i hi => hi, fun i j _ _ e => e⟩, by decide, by decide, fun d h1 h2 => ?_⟩
  have hd : d ≤ 100 := by
    apply Nat.le_of_not_lt
    intro hc
    have : 101 * 101 ≤ d * d := Nat.mul_le_mul hc hc
    have h2 : d * d ≤ 10007 := h2
    omega
  exact (by decide +kernel : ∀ d, d ≤ 100 → 2 ≤ d → 10007 % d ≠ 0) d hd h1
theorem law_of (hA : AllP) {L : Nat} {xs : Nat → Int32} (hL : L ≤ 256) : WP 1000 166 0 [some (.ref 0), none, none, none] [] (h_0 L xs) (fun r h' => r = some (.int 1) ∧ h'.1 ≤ 600001 ∧ h'.2.1 ≤ 7302250) := by
  show WP 1000 mL_law 0 [some (.ref 0), none, none, none] [] (h_0 L xs) LQ
  have z0 : (h_0 L xs).1 = 1 := rfl
  have e0 : hg (h_0 L xs) 0 = some (aI L xs) := rfl
  simp (disch := first | omega | assumption) only [r_L_law_0, r_L_law_3, r_L_law_4, gF_0, gF_1, gF_2, gF_3, gF_4, gF_5, gF_6, gF_7, gF_8, gF_9, gF_10, gF_11, gF_12, gF_13, gF_14, gF_15, gF_16, gF_17, pF_0, pF_1, pF_2, pF_3, pF_4, pF_5, pF_6, pF_7, pF_8, pF_9, pF_10, pF_11, pF_12, pF_13, pF_14, pF_15, pF_16, pF_17, gI_of, gL_of, gR_of, sI_of, sL_of, gN_of, gO_of, cl_i, cl_r, cl_l, cl_n, pu_s, pu_n, rV_s, hg_same, hg_ne, if_true, if_false, true_and, and_true, ne_eq, not_false_eq_true, not_true_eq_false, z0]
  refine i_ThinTables (d := 996) (hg_hn_eq z0.symm) (by rw [hn_1, z0]) (fun g zg sg og hX => ?_)
  simp (disch := first | omega | assumption) only [r_L_law_7, r_L_law_8, r_L_law_11, r_L_law_12, gF_0, gF_1, gF_2, gF_3, gF_4, gF_5, gF_6, gF_7, gF_8, gF_9, gF_10, gF_11, gF_12, gF_13, gF_14, gF_15, gF_16, gF_17, pF_0, pF_1, pF_2, pF_3, pF_4, pF_5, pF_6, pF_7, pF_8, pF_9, pF_10, pF_11, pF_12, pF_13, pF_14, pF_15, pF_16, pF_17, gI_of, gL_of, gR_of, sI_of, sL_of, gN_of, gO_of, cl_i, cl_r, cl_l, cl_n, pu_s, pu_n, rV_s, hg_same, hg_ne, if_true, if_false, true_and, and_true, ne_eq, not_false_eq_true, not_true_eq_false, zg]
  refine i_Model (d := 998) (hg_hn_eq zg.symm) (by rw [hn_1, zg]) (fun w zw sw ow hM => ?_)
  simp (disch := first | omega | assumption) only [r_L_law_15, r_L_law_16, r_L_law_17, gF_0, gF_1, gF_2, gF_3, gF_4, gF_5, gF_6, gF_7, gF_8, gF_9, gF_10, gF_11, gF_12, gF_13, gF_14, gF_15, gF_16, gF_17, pF_0, pF_1, pF_2, pF_3, pF_4, pF_5, pF_6, pF_7, pF_8, pF_9, pF_10, pF_11, pF_12, pF_13, pF_14, pF_15, pF_16, pF_17, gI_of, gL_of, gR_of, sI_of, sL_of, gN_of, gO_of, cl_i, cl_r, cl_l, cl_n, pu_s, pu_n, rV_s, hg_same, hg_ne, if_true, if_false, true_and, and_true, ne_eq, not_false_eq_true, not_true_eq_false]
  have hX' : XI w (4, fun _ _ => 0, fun _ => 0, fun i => i, 10007) := by
    have k : ∀ b, b < 88 → hg w b = hg g b := fun b hb => (ow b hb).trans (hg_hn_ne (by omega))
    obtain ⟨h0, h1, h2, h3, h4, h5, h6, h7, h8, h9, h10⟩ := hX
    exact ⟨(k 1 (by omega)).trans h0, h1.eq (fun b _ _ => k b (by omega)), h2.keep (k 24 (by omega)), h3.eq (fun b _ _ => k b (by omega)), h4.eq (fun b _ _ => k b (by omega)), h5.eq (fun b _ _ => k b (by omega)), h6.eq (fun b _ _ => k b (by omega)), h7.eq (fun b _ _ => k b (by omega)), h8.eq (fun b _ _ => k b (by omega)), h9.eq (fun b _ _ => k b (by omega)), h10.eq (fun b _ _ => k b (by omega))⟩
  have H : LI L xs w (4, fun _ _ => 0, fun _ => 0, fun i => i, 10007) := by
    refine ⟨hX', hM, Gd_0, ?_, by rw [zw]; decide, ?_⟩
    · rw [ow 0 (by omega), hg_hn_ne (by omega), og, hg_hn_ne (by omega)]
      exact e0
    · rw [sw, hn_2, sg, hn_2, jn_10, jn_11]
      show 0 + 9 + 5533 + 18 + 5502 ≤ 7302250
      decide
  exact law_loop hA hL (L + 5) 0 (by omega) (by omega) w _ H
