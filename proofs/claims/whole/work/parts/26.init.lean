theorem hn_1 (h : j_H) (n : Nat) (c : j_C) : (hn h n c).1 = h.1 + 1 := rfl
theorem hn_2 (h : j_H) (n : Nat) (c : j_C) : (hn h n c).2.1 = h.2.1 + n := rfl
theorem hm_1 (h : j_H) (n k : Nat) : (hm h n k).1 = h.1 + 1 + n := rfl
theorem hm_2 (h : j_H) (n k : Nat) : (hm h n k).2.1 = h.2.1 + n + n * k := rfl
theorem hg_hn_eq {h : j_H} {n b : Nat} {c : j_C} (e : b = h.1) : hg (hn h n c) b = some c := if_pos e
theorem hg_hn_ne {h : j_H} {n b : Nat} {c : j_C} (e : b ≠ h.1) : hg (hn h n c) b = hg h b := if_neg e
theorem hg_hm_eq {h : j_H} {n k b : Nat} (e : b = h.1) : hg (hm h n k) b = some (aR n (fun i => if i < n then some (h.1 + 1 + i) else none)) := if_pos e
theorem hg_hm_row {h : j_H} {n k b : Nat} (e : h.1 < b) (e2 : b < h.1 + 1 + n) : hg (hm h n k) b = some (aI k (fun _ => 0)) := by
  show (if b = h.1 then _ else if h.1 < b ∧ b < h.1 + 1 + n then _ else _) = _
  rw [if_neg (by omega), if_pos ⟨e, e2⟩]
theorem hg_hm_ne {h : j_H} {n k b : Nat} (e : b < h.1 ∨ h.1 + 1 + n ≤ b) : hg (hm h n k) b = hg h b := by
  show (if b = h.1 then _ else if h.1 < b ∧ b < h.1 + 1 + n then _ else _) = _
  rw [if_neg (by omega), if_neg (by omega)]
  rfl
theorem jd_0 : j_df 0 = [.int 0, .null, .null] := rfl
theorem jd_1 : j_df 1 = [.int 0, .int 0, .int 0, .int 0, .null, .null, .null, .null, .null] := rfl
theorem jd_2 : j_df 2 = [.null] := rfl
theorem jd_3 : j_df 3 = [.int 0, .null] := rfl
theorem jd_4 : j_df 4 = [.int 0, .null, .null] := rfl
theorem jd_5 : j_df 5 = [.int 0, .null, .null, .null, .null] := rfl
theorem jd_6 : j_df 6 = [.null] := rfl
theorem jd_7 : j_df 7 = [.int 0, .int 0, .null, .null] := rfl
theorem jd_8 : j_df 8 = [.null] := rfl
theorem jd_9 : j_df 9 = [.int 0, .null, .null, .null, .null] := rfl
theorem jd_10 : j_df 10 = [.null, .null, .null, .null, .null, .null, .null, .null, .null] := rfl
theorem jd_11 : j_df 11 = [.int 0, .null, .null, .null, .int 0, .null, .null, .null, .null, .int 0, .null, .null, .null, .null, .null, .int 0, .int 0, .null] := rfl
/-- old cells stay, z cells of q slots are new -/
def Nw (a z q : Nat) (h h' : j_H) : Prop := h'.1 = h.1 + z ∧ h'.2.1 = h.2.1 + q ∧ ∀ b, b < h.1 → b ≠ a → hg h' b = hg h b
theorem i_Table {d : Nat} {h : j_H} {Q : Option Value → j_H → Prop} (h2 : hg h 2 = some (oB 9 (j_df 9))) (hz : h.1 = 3)
    (k : ∀ h1, Nw 2 24 480 h h1 → hg h1 2 = some (oB 9 [.int 0, .ref 3, .ref 24, .ref 25, .ref 26]) → (∃ R, hg h1 3 = some (aR 20 R) ∧ ∀ i, i < 20 → R i = some (4 + i)) → (∀ i, i < 20 → hg h1 (4 + i) = some (aI 20 (fun _ => 0))) → (∀ b, 24 ≤ b → b < 27 → hg h1 b = some (aI 20 (fun _ => 0))) → Q none h1) : WP (d + 1) mX9_init 0 [some (.ref 2)] [] h Q := by
  rw [jd_9] at h2
  simp (disch := first | omega | (simp only [hn_1, hm_1, hs_sz, hz]; omega) | (simp only [hn_1, hm_1, hs_sz, hz]; done) | assumption) only [r_X9_init_0, r_X9_init_1, r_X9_init_4, r_X9_init_5, r_X9_init_7, r_X9_init_9, r_X9_init_13, r_X9_init_16, r_X9_init_17, r_X9_init_19, r_X9_init_21, r_X9_init_24, r_X9_init_25, r_X9_init_27, r_X9_init_29, r_X9_init_32, r_X9_init_33, r_X9_init_35, r_X9_init_37, r_X9_init_40, gF_0, gF_1, gF_2, gF_3, gF_4, gF_5, gF_6, gF_7, gF_8, gF_9, gF_10, gF_11, gF_12, gF_13, gF_14, gF_15, gF_16, gF_17, pF_0, pF_1, pF_2, pF_3, pF_4, pF_5, pF_6, pF_7, pF_8, pF_9, pF_10, pF_11, pF_12, pF_13, pF_14, pF_15, pF_16, pF_17, gI_of, gL_of, gR_of, sI_of, sL_of, gN_of, gO_of, cl_i, cl_r, cl_l, cl_n, pu_s, pu_n, rV_s, hg_same, hg_ne, if_true, if_false, true_and, and_true, ne_eq, not_false_eq_true, not_true_eq_false, h2, hg_hn_ne, hg_hm_ne, hn_1, hm_1, hs_sz, hz, Nat.reduceAdd]
  refine k _ ⟨?_, ?_, fun b hb hne => ?_⟩ ?_ ?_ ?_ ?_
  · simp only [hn_1, hm_1, hs_sz, hz]
  · simp only [hn_2, hm_2, hs_sl]
  · rw [hz] at hb
    simp (disch := first | omega | (simp only [hn_1, hm_1, hs_sz, hz]; omega) | (simp only [hn_1, hm_1, hs_sz, hz]; done) | assumption) only [hg_same, hg_ne, hg_hn_ne, hg_hn_eq, hg_hm_ne, hg_hm_eq, hg_hm_row, hn_1, hm_1, hs_sz, hz]
  · simp (disch := first | omega | (simp only [hn_1, hm_1, hs_sz, hz]; omega) | (simp only [hn_1, hm_1, hs_sz, hz]; done) | assumption) only [hg_same, hg_ne, hg_hn_ne, hg_hn_eq, hg_hm_ne, hg_hm_eq, hg_hm_row, hn_1, hm_1, hs_sz, hz]
  · refine ⟨fun i => if i < 20 then some (4 + i) else none, ?_, fun i hi => if_pos hi⟩
    simp (disch := first | omega | (simp only [hn_1, hm_1, hs_sz, hz]; omega) | (simp only [hn_1, hm_1, hs_sz, hz]; done) | assumption) only [hg_same, hg_ne, hg_hn_ne, hg_hn_eq, hg_hm_ne, hg_hm_eq, hg_hm_row, hn_1, hm_1, hs_sz, hz]
  · intro i hi
    simp (disch := first | omega | (simp only [hn_1, hm_1, hs_sz, hz]; omega) | (simp only [hn_1, hm_1, hs_sz, hz]; done) | assumption) only [hg_same, hg_ne, hg_hn_ne, hg_hn_eq, hg_hm_ne, hg_hm_eq, hg_hm_row, hn_1, hm_1, hs_sz, hz]
  · intro b q1 q2
    rcases (show b = 24 ∨ b = 25 ∨ b = 26 by omega) with rfl | rfl | rfl <;> simp (disch := first | omega | (simp only [hn_1, hm_1, hs_sz, hz]; omega) | (simp only [hn_1, hm_1, hs_sz, hz]; done) | assumption) only [hg_same, hg_ne, hg_hn_ne, hg_hn_eq, hg_hm_ne, hg_hm_eq, hg_hm_row, hn_1, hm_1, hs_sz, hz]

theorem i_Matching {d : Nat} {h : j_H} {Q : Option Value → j_H → Prop} (h2 : hg h 27 = some (oB 5 (j_df 5))) (hz : h.1 = 28)
    (k : ∀ h1, Nw 27 4 80 h h1 → hg h1 27 = some (oB 5 [.int 0, .ref 28, .ref 29, .ref 30, .ref 31]) → (∀ b, 28 ≤ b → b < 32 → hg h1 b = some (aI 20 (fun _ => 0))) → Q none h1) : WP (d + 1) mX5_init 0 [some (.ref 27)] [] h Q := by
  rw [jd_5] at h2
  simp (disch := first | omega | (simp only [hn_1, hm_1, hs_sz, hz]; omega) | (simp only [hn_1, hm_1, hs_sz, hz]; done) | assumption) only [r_X5_init_0, r_X5_init_1, r_X5_init_4, r_X5_init_5, r_X5_init_7, r_X5_init_9, r_X5_init_12, r_X5_init_13, r_X5_init_15, r_X5_init_17, r_X5_init_20, r_X5_init_21, r_X5_init_23, r_X5_init_25, r_X5_init_28, r_X5_init_29, r_X5_init_31, r_X5_init_33, r_X5_init_36, gF_0, gF_1, gF_2, gF_3, gF_4, gF_5, gF_6, gF_7, gF_8, gF_9, gF_10, gF_11, gF_12, gF_13, gF_14, gF_15, gF_16, gF_17, pF_0, pF_1, pF_2, pF_3, pF_4, pF_5, pF_6, pF_7, pF_8, pF_9, pF_10, pF_11, pF_12, pF_13, pF_14, pF_15, pF_16, pF_17, gI_of, gL_of, gR_of, sI_of, sL_of, gN_of, gO_of, cl_i, cl_r, cl_l, cl_n, pu_s, pu_n, rV_s, hg_same, hg_ne, if_true, if_false, true_and, and_true, ne_eq, not_false_eq_true, not_true_eq_false, h2, hg_hn_ne, hg_hm_ne, hn_1, hm_1, hs_sz, hz, Nat.reduceAdd]
  refine k _ ⟨?_, ?_, fun b hb hne => ?_⟩ ?_ ?_
  · simp only [hn_1, hm_1, hs_sz, hz]
  · simp only [hn_2, hm_2, hs_sl]
  · rw [hz] at hb
    simp (disch := first | omega | (simp only [hn_1, hm_1, hs_sz, hz]; omega) | (simp only [hn_1, hm_1, hs_sz, hz]; done) | assumption) only [hg_same, hg_ne, hg_hn_ne, hg_hn_eq, hg_hm_ne, hg_hm_eq, hg_hm_row, hn_1, hm_1, hs_sz, hz]
  · simp (disch := first | omega | (simp only [hn_1, hm_1, hs_sz, hz]; omega) | (simp only [hn_1, hm_1, hs_sz, hz]; done) | assumption) only [hg_same, hg_ne, hg_hn_ne, hg_hn_eq, hg_hm_ne, hg_hm_eq, hg_hm_row, hn_1, hm_1, hs_sz, hz]
  · intro b q1 q2
    rcases (show b = 28 ∨ b = 29 ∨ b = 30 ∨ b = 31 by omega) with rfl | rfl | rfl | rfl <;> simp (disch := first | omega | (simp only [hn_1, hm_1, hs_sz, hz]; omega) | (simp only [hn_1, hm_1, hs_sz, hz]; done) | assumption) only [hg_same, hg_ne, hg_hn_ne, hg_hn_eq, hg_hm_ne, hg_hm_eq, hg_hm_row, hn_1, hm_1, hs_sz, hz]

theorem i_Blocks {d : Nat} {h : j_H} {Q : Option Value → j_H → Prop} (h2 : hg h 32 = some (oB 0 (j_df 0))) (hz : h.1 = 33)
    (k : ∀ h1, Nw 32 2 40 h h1 → hg h1 32 = some (oB 0 [.int 0, .ref 33, .ref 34]) → (∀ b, 33 ≤ b → b < 35 → hg h1 b = some (aI 20 (fun _ => 0))) → Q none h1) : WP (d + 1) mX0_init 0 [some (.ref 32)] [] h Q := by
  rw [jd_0] at h2
  simp (disch := first | omega | (simp only [hn_1, hm_1, hs_sz, hz]; omega) | (simp only [hn_1, hm_1, hs_sz, hz]; done) | assumption) only [r_X0_init_0, r_X0_init_1, r_X0_init_4, r_X0_init_5, r_X0_init_7, r_X0_init_9, r_X0_init_12, r_X0_init_13, r_X0_init_15, r_X0_init_17, r_X0_init_20, gF_0, gF_1, gF_2, gF_3, gF_4, gF_5, gF_6, gF_7, gF_8, gF_9, gF_10, gF_11, gF_12, gF_13, gF_14, gF_15, gF_16, gF_17, pF_0, pF_1, pF_2, pF_3, pF_4, pF_5, pF_6, pF_7, pF_8, pF_9, pF_10, pF_11, pF_12, pF_13, pF_14, pF_15, pF_16, pF_17, gI_of, gL_of, gR_of, sI_of, sL_of, gN_of, gO_of, cl_i, cl_r, cl_l, cl_n, pu_s, pu_n, rV_s, hg_same, hg_ne, if_true, if_false, true_and, and_true, ne_eq, not_false_eq_true, not_true_eq_false, h2, hg_hn_ne, hg_hm_ne, hn_1, hm_1, hs_sz, hz, Nat.reduceAdd]
  refine k _ ⟨?_, ?_, fun b hb hne => ?_⟩ ?_ ?_
  · simp only [hn_1, hm_1, hs_sz, hz]
  · simp only [hn_2, hm_2, hs_sl]
  · rw [hz] at hb
    simp (disch := first | omega | (simp only [hn_1, hm_1, hs_sz, hz]; omega) | (simp only [hn_1, hm_1, hs_sz, hz]; done) | assumption) only [hg_same, hg_ne, hg_hn_ne, hg_hn_eq, hg_hm_ne, hg_hm_eq, hg_hm_row, hn_1, hm_1, hs_sz, hz]
  · simp (disch := first | omega | (simp only [hn_1, hm_1, hs_sz, hz]; omega) | (simp only [hn_1, hm_1, hs_sz, hz]; done) | assumption) only [hg_same, hg_ne, hg_hn_ne, hg_hn_eq, hg_hm_ne, hg_hm_eq, hg_hm_row, hn_1, hm_1, hs_sz, hz]
  · intro b q1 q2
    rcases (show b = 33 ∨ b = 34 by omega) with rfl | rfl <;> simp (disch := first | omega | (simp only [hn_1, hm_1, hs_sz, hz]; omega) | (simp only [hn_1, hm_1, hs_sz, hz]; done) | assumption) only [hg_same, hg_ne, hg_hn_ne, hg_hn_eq, hg_hm_ne, hg_hm_eq, hg_hm_row, hn_1, hm_1, hs_sz, hz]

theorem i_Sequence {d : Nat} {h : j_H} {Q : Option Value → j_H → Prop} (h2 : hg h 35 = some (oB 8 (j_df 8))) (hz : h.1 = 36)
    (k : ∀ h1, Nw 35 1 20 h h1 → hg h1 35 = some (oB 8 [.ref 36]) → (∀ b, 36 ≤ b → b < 37 → hg h1 b = some (aI 20 (fun _ => 0))) → Q none h1) : WP (d + 1) mX8_init 0 [some (.ref 35)] [] h Q := by
  rw [jd_8] at h2
  simp (disch := first | omega | (simp only [hn_1, hm_1, hs_sz, hz]; omega) | (simp only [hn_1, hm_1, hs_sz, hz]; done) | assumption) only [r_X8_init_0, r_X8_init_1, r_X8_init_4, r_X8_init_5, r_X8_init_7, r_X8_init_9, r_X8_init_12, gF_0, gF_1, gF_2, gF_3, gF_4, gF_5, gF_6, gF_7, gF_8, gF_9, gF_10, gF_11, gF_12, gF_13, gF_14, gF_15, gF_16, gF_17, pF_0, pF_1, pF_2, pF_3, pF_4, pF_5, pF_6, pF_7, pF_8, pF_9, pF_10, pF_11, pF_12, pF_13, pF_14, pF_15, pF_16, pF_17, gI_of, gL_of, gR_of, sI_of, sL_of, gN_of, gO_of, cl_i, cl_r, cl_l, cl_n, pu_s, pu_n, rV_s, hg_same, hg_ne, if_true, if_false, true_and, and_true, ne_eq, not_false_eq_true, not_true_eq_false, h2, hg_hn_ne, hg_hm_ne, hn_1, hm_1, hs_sz, hz, Nat.reduceAdd]
  refine k _ ⟨?_, ?_, fun b hb hne => ?_⟩ ?_ ?_
  · simp only [hn_1, hm_1, hs_sz, hz]
  · simp only [hn_2, hm_2, hs_sl]
  · rw [hz] at hb
    simp (disch := first | omega | (simp only [hn_1, hm_1, hs_sz, hz]; omega) | (simp only [hn_1, hm_1, hs_sz, hz]; done) | assumption) only [hg_same, hg_ne, hg_hn_ne, hg_hn_eq, hg_hm_ne, hg_hm_eq, hg_hm_row, hn_1, hm_1, hs_sz, hz]
  · simp (disch := first | omega | (simp only [hn_1, hm_1, hs_sz, hz]; omega) | (simp only [hn_1, hm_1, hs_sz, hz]; done) | assumption) only [hg_same, hg_ne, hg_hn_ne, hg_hn_eq, hg_hm_ne, hg_hm_eq, hg_hm_row, hn_1, hm_1, hs_sz, hz]
  · intro b q1 q2
    obtain rfl : b = 36 := by omega
    simp (disch := first | omega | (simp only [hn_1, hm_1, hs_sz, hz]; omega) | (simp only [hn_1, hm_1, hs_sz, hz]; done) | assumption) only [hg_same, hg_ne, hg_hn_ne, hg_hn_eq, hg_hm_ne, hg_hm_eq, hg_hm_row, hn_1, hm_1, hs_sz, hz]

theorem i_Graph1 {d : Nat} {h : j_H} {Q : Option Value → j_H → Prop} (h2 : hg h 38 = some (oB 3 (j_df 3))) (hz : h.1 = 39)
    (k : ∀ h1, Nw 38 1 20 h h1 → hg h1 38 = some (oB 3 [.int 0, .ref 39]) → (∀ b, 39 ≤ b → b < 40 → hg h1 b = some (aI 20 (fun _ => 0))) → Q none h1) : WP (d + 1) mX3_init 0 [some (.ref 38)] [] h Q := by
  rw [jd_3] at h2
  simp (disch := first | omega | (simp only [hn_1, hm_1, hs_sz, hz]; omega) | (simp only [hn_1, hm_1, hs_sz, hz]; done) | assumption) only [r_X3_init_0, r_X3_init_1, r_X3_init_4, r_X3_init_5, r_X3_init_7, r_X3_init_9, r_X3_init_12, gF_0, gF_1, gF_2, gF_3, gF_4, gF_5, gF_6, gF_7, gF_8, gF_9, gF_10, gF_11, gF_12, gF_13, gF_14, gF_15, gF_16, gF_17, pF_0, pF_1, pF_2, pF_3, pF_4, pF_5, pF_6, pF_7, pF_8, pF_9, pF_10, pF_11, pF_12, pF_13, pF_14, pF_15, pF_16, pF_17, gI_of, gL_of, gR_of, sI_of, sL_of, gN_of, gO_of, cl_i, cl_r, cl_l, cl_n, pu_s, pu_n, rV_s, hg_same, hg_ne, if_true, if_false, true_and, and_true, ne_eq, not_false_eq_true, not_true_eq_false, h2, hg_hn_ne, hg_hm_ne, hn_1, hm_1, hs_sz, hz, Nat.reduceAdd]
  refine k _ ⟨?_, ?_, fun b hb hne => ?_⟩ ?_ ?_
  · simp only [hn_1, hm_1, hs_sz, hz]
  · simp only [hn_2, hm_2, hs_sl]
  · rw [hz] at hb
    simp (disch := first | omega | (simp only [hn_1, hm_1, hs_sz, hz]; omega) | (simp only [hn_1, hm_1, hs_sz, hz]; done) | assumption) only [hg_same, hg_ne, hg_hn_ne, hg_hn_eq, hg_hm_ne, hg_hm_eq, hg_hm_row, hn_1, hm_1, hs_sz, hz]
  · simp (disch := first | omega | (simp only [hn_1, hm_1, hs_sz, hz]; omega) | (simp only [hn_1, hm_1, hs_sz, hz]; done) | assumption) only [hg_same, hg_ne, hg_hn_ne, hg_hn_eq, hg_hm_ne, hg_hm_eq, hg_hm_row, hn_1, hm_1, hs_sz, hz]
  · intro b q1 q2
    obtain rfl : b = 39 := by omega
    simp (disch := first | omega | (simp only [hn_1, hm_1, hs_sz, hz]; omega) | (simp only [hn_1, hm_1, hs_sz, hz]; done) | assumption) only [hg_same, hg_ne, hg_hn_ne, hg_hn_eq, hg_hm_ne, hg_hm_eq, hg_hm_row, hn_1, hm_1, hs_sz, hz]

theorem i_Graph2 {d : Nat} {h : j_H} {Q : Option Value → j_H → Prop} (h2 : hg h 45 = some (oB 3 (j_df 3))) (hz : h.1 = 46)
    (k : ∀ h1, Nw 45 1 20 h h1 → hg h1 45 = some (oB 3 [.int 0, .ref 46]) → (∀ b, 46 ≤ b → b < 47 → hg h1 b = some (aI 20 (fun _ => 0))) → Q none h1) : WP (d + 1) mX3_init 0 [some (.ref 45)] [] h Q := by
  rw [jd_3] at h2
  simp (disch := first | omega | (simp only [hn_1, hm_1, hs_sz, hz]; omega) | (simp only [hn_1, hm_1, hs_sz, hz]; done) | assumption) only [r_X3_init_0, r_X3_init_1, r_X3_init_4, r_X3_init_5, r_X3_init_7, r_X3_init_9, r_X3_init_12, gF_0, gF_1, gF_2, gF_3, gF_4, gF_5, gF_6, gF_7, gF_8, gF_9, gF_10, gF_11, gF_12, gF_13, gF_14, gF_15, gF_16, gF_17, pF_0, pF_1, pF_2, pF_3, pF_4, pF_5, pF_6, pF_7, pF_8, pF_9, pF_10, pF_11, pF_12, pF_13, pF_14, pF_15, pF_16, pF_17, gI_of, gL_of, gR_of, sI_of, sL_of, gN_of, gO_of, cl_i, cl_r, cl_l, cl_n, pu_s, pu_n, rV_s, hg_same, hg_ne, if_true, if_false, true_and, and_true, ne_eq, not_false_eq_true, not_true_eq_false, h2, hg_hn_ne, hg_hm_ne, hn_1, hm_1, hs_sz, hz, Nat.reduceAdd]
  refine k _ ⟨?_, ?_, fun b hb hne => ?_⟩ ?_ ?_
  · simp only [hn_1, hm_1, hs_sz, hz]
  · simp only [hn_2, hm_2, hs_sl]
  · rw [hz] at hb
    simp (disch := first | omega | (simp only [hn_1, hm_1, hs_sz, hz]; omega) | (simp only [hn_1, hm_1, hs_sz, hz]; done) | assumption) only [hg_same, hg_ne, hg_hn_ne, hg_hn_eq, hg_hm_ne, hg_hm_eq, hg_hm_row, hn_1, hm_1, hs_sz, hz]
  · simp (disch := first | omega | (simp only [hn_1, hm_1, hs_sz, hz]; omega) | (simp only [hn_1, hm_1, hs_sz, hz]; done) | assumption) only [hg_same, hg_ne, hg_hn_ne, hg_hn_eq, hg_hm_ne, hg_hm_eq, hg_hm_row, hn_1, hm_1, hs_sz, hz]
  · intro b q1 q2
    obtain rfl : b = 46 := by omega
    simp (disch := first | omega | (simp only [hn_1, hm_1, hs_sz, hz]; omega) | (simp only [hn_1, hm_1, hs_sz, hz]; done) | assumption) only [hg_same, hg_ne, hg_hn_ne, hg_hn_eq, hg_hm_ne, hg_hm_eq, hg_hm_row, hn_1, hm_1, hs_sz, hz]

theorem i_LeastFill {d : Nat} {h : j_H} {Q : Option Value → j_H → Prop} (h2 : hg h 47 = some (oB 4 (j_df 4))) (hz : h.1 = 48)
    (k : ∀ h1, Nw 47 15 4265 h h1 → hg h1 47 = some (oB 4 [.int 0, .ref 48, .ref 49]) → hg h1 48 = some (aI 4096 (fun _ => 0)) → (∃ R, hg h1 49 = some (aR 13 R) ∧ ∀ i, i < 13 → R i = some (50 + i)) → (∀ i, i < 13 → hg h1 (50 + i) = some (aI 12 (fun _ => 0))) → Q none h1) : WP (d + 1) mX4_init 0 [some (.ref 47)] [] h Q := by
  rw [jd_4] at h2
  simp (disch := first | omega | (simp only [hn_1, hm_1, hs_sz, hz]; omega) | (simp only [hn_1, hm_1, hs_sz, hz]; done) | assumption) only [r_X4_init_0, r_X4_init_1, r_X4_init_4, r_X4_init_5, r_X4_init_8, r_X4_init_10, r_X4_init_13, r_X4_init_14, r_X4_init_16, r_X4_init_18, r_X4_init_22, r_X4_init_25, gF_0, gF_1, gF_2, gF_3, gF_4, gF_5, gF_6, gF_7, gF_8, gF_9, gF_10, gF_11, gF_12, gF_13, gF_14, gF_15, gF_16, gF_17, pF_0, pF_1, pF_2, pF_3, pF_4, pF_5, pF_6, pF_7, pF_8, pF_9, pF_10, pF_11, pF_12, pF_13, pF_14, pF_15, pF_16, pF_17, gI_of, gL_of, gR_of, sI_of, sL_of, gN_of, gO_of, cl_i, cl_r, cl_l, cl_n, pu_s, pu_n, rV_s, hg_same, hg_ne, if_true, if_false, true_and, and_true, ne_eq, not_false_eq_true, not_true_eq_false, h2, hg_hn_ne, hg_hm_ne, hn_1, hm_1, hs_sz, hz, Nat.reduceAdd]
  refine k _ ⟨?_, ?_, fun b hb hne => ?_⟩ ?_ ?_ ?_ ?_
  · simp only [hn_1, hm_1, hs_sz, hz]
  · simp only [hn_2, hm_2, hs_sl]
  · rw [hz] at hb
    simp (disch := first | omega | (simp only [hn_1, hm_1, hs_sz, hz]; omega) | (simp only [hn_1, hm_1, hs_sz, hz]; done) | assumption) only [hg_same, hg_ne, hg_hn_ne, hg_hn_eq, hg_hm_ne, hg_hm_eq, hg_hm_row, hn_1, hm_1, hs_sz, hz]
  · simp (disch := first | omega | (simp only [hn_1, hm_1, hs_sz, hz]; omega) | (simp only [hn_1, hm_1, hs_sz, hz]; done) | assumption) only [hg_same, hg_ne, hg_hn_ne, hg_hn_eq, hg_hm_ne, hg_hm_eq, hg_hm_row, hn_1, hm_1, hs_sz, hz]
  · simp (disch := first | omega | (simp only [hn_1, hm_1, hs_sz, hz]; omega) | (simp only [hn_1, hm_1, hs_sz, hz]; done) | assumption) only [hg_same, hg_ne, hg_hn_ne, hg_hn_eq, hg_hm_ne, hg_hm_eq, hg_hm_row, hn_1, hm_1, hs_sz, hz]
  · refine ⟨fun i => if i < 13 then some (50 + i) else none, ?_, fun i hi => if_pos hi⟩
    simp (disch := first | omega | (simp only [hn_1, hm_1, hs_sz, hz]; omega) | (simp only [hn_1, hm_1, hs_sz, hz]; done) | assumption) only [hg_same, hg_ne, hg_hn_ne, hg_hn_eq, hg_hm_ne, hg_hm_eq, hg_hm_row, hn_1, hm_1, hs_sz, hz]
  · intro i hi
    simp (disch := first | omega | (simp only [hn_1, hm_1, hs_sz, hz]; omega) | (simp only [hn_1, hm_1, hs_sz, hz]; done) | assumption) only [hg_same, hg_ne, hg_hn_ne, hg_hn_eq, hg_hm_ne, hg_hm_eq, hg_hm_row, hn_1, hm_1, hs_sz, hz]

theorem i_Rests {d : Nat} {h : j_H} {Q : Option Value → j_H → Prop} (h2 : hg h 63 = some (oB 7 (j_df 7))) (hz : h.1 = 64)
    (k : ∀ h1, Nw 63 22 460 h h1 → hg h1 63 = some (oB 7 [.int (nI 10007), .int 0, .ref 64, .ref 85]) → (∃ R, hg h1 64 = some (aR 20 R) ∧ ∀ i, i < 20 → R i = some (65 + i)) → (∀ i, i < 20 → hg h1 (65 + i) = some (aI 21 (fun _ => 0))) → hg h1 85 = some (aI 20 (fun _ => 0)) → Q none h1) : WP (d + 1) mX7_init 0 [some (.ref 63)] [] h Q := by
  rw [jd_7] at h2
  simp (disch := first | omega | (simp only [hn_1, hm_1, hs_sz, hz]; omega) | (simp only [hn_1, hm_1, hs_sz, hz]; done) | assumption) only [r_X7_init_0, r_X7_init_1, r_X7_init_4, r_X7_init_5, r_X7_init_8, r_X7_init_11, r_X7_init_12, r_X7_init_14, r_X7_init_16, r_X7_init_20, r_X7_init_23, r_X7_init_24, r_X7_init_26, r_X7_init_28, r_X7_init_31, gF_0, gF_1, gF_2, gF_3, gF_4, gF_5, gF_6, gF_7, gF_8, gF_9, gF_10, gF_11, gF_12, gF_13, gF_14, gF_15, gF_16, gF_17, pF_0, pF_1, pF_2, pF_3, pF_4, pF_5, pF_6, pF_7, pF_8, pF_9, pF_10, pF_11, pF_12, pF_13, pF_14, pF_15, pF_16, pF_17, gI_of, gL_of, gR_of, sI_of, sL_of, gN_of, gO_of, cl_i, cl_r, cl_l, cl_n, pu_s, pu_n, rV_s, hg_same, hg_ne, if_true, if_false, true_and, and_true, ne_eq, not_false_eq_true, not_true_eq_false, h2, hg_hn_ne, hg_hm_ne, hn_1, hm_1, hs_sz, hz, Nat.reduceAdd]
  refine k _ ⟨?_, ?_, fun b hb hne => ?_⟩ ?_ ?_ ?_ ?_
  · simp only [hn_1, hm_1, hs_sz, hz]
  · simp only [hn_2, hm_2, hs_sl]
  · rw [hz] at hb
    simp (disch := first | omega | (simp only [hn_1, hm_1, hs_sz, hz]; omega) | (simp only [hn_1, hm_1, hs_sz, hz]; done) | assumption) only [hg_same, hg_ne, hg_hn_ne, hg_hn_eq, hg_hm_ne, hg_hm_eq, hg_hm_row, hn_1, hm_1, hs_sz, hz]
  · simp (disch := first | omega | (simp only [hn_1, hm_1, hs_sz, hz]; omega) | (simp only [hn_1, hm_1, hs_sz, hz]; done) | assumption) only [hg_same, hg_ne, hg_hn_ne, hg_hn_eq, hg_hm_ne, hg_hm_eq, hg_hm_row, hn_1, hm_1, hs_sz, hz]
  · refine ⟨fun i => if i < 20 then some (65 + i) else none, ?_, fun i hi => if_pos hi⟩
    simp (disch := first | omega | (simp only [hn_1, hm_1, hs_sz, hz]; omega) | (simp only [hn_1, hm_1, hs_sz, hz]; done) | assumption) only [hg_same, hg_ne, hg_hn_ne, hg_hn_eq, hg_hm_ne, hg_hm_eq, hg_hm_row, hn_1, hm_1, hs_sz, hz]
  · intro i hi
    simp (disch := first | omega | (simp only [hn_1, hm_1, hs_sz, hz]; omega) | (simp only [hn_1, hm_1, hs_sz, hz]; done) | assumption) only [hg_same, hg_ne, hg_hn_ne, hg_hn_eq, hg_hm_ne, hg_hm_eq, hg_hm_row, hn_1, hm_1, hs_sz, hz]
  · simp (disch := first | omega | (simp only [hn_1, hm_1, hs_sz, hz]; omega) | (simp only [hn_1, hm_1, hs_sz, hz]; done) | assumption) only [hg_same, hg_ne, hg_hn_ne, hg_hn_eq, hg_hm_ne, hg_hm_eq, hg_hm_row, hn_1, hm_1, hs_sz, hz]

theorem i_Fractions {d : Nat} {h : j_H} {Q : Option Value → j_H → Prop} (h2 : hg h 86 = some (oB 2 (j_df 2))) (hz : h.1 = 87)
    (k : ∀ h1, Nw 86 1 32 h h1 → hg h1 86 = some (oB 2 [.ref 87]) → hg h1 87 = some (aL 32 (fun _ => 0)) → Q none h1) : WP (d + 1) mX2_init 0 [some (.ref 86)] [] h Q := by
  rw [jd_2] at h2
  simp (disch := first | omega | (simp only [hn_1, hm_1, hs_sz, hz]; omega) | (simp only [hn_1, hm_1, hs_sz, hz]; done) | assumption) only [r_X2_init_0, r_X2_init_1, r_X2_init_4, r_X2_init_5, r_X2_init_7, r_X2_init_9, r_X2_init_12, gF_0, gF_1, gF_2, gF_3, gF_4, gF_5, gF_6, gF_7, gF_8, gF_9, gF_10, gF_11, gF_12, gF_13, gF_14, gF_15, gF_16, gF_17, pF_0, pF_1, pF_2, pF_3, pF_4, pF_5, pF_6, pF_7, pF_8, pF_9, pF_10, pF_11, pF_12, pF_13, pF_14, pF_15, pF_16, pF_17, gI_of, gL_of, gR_of, sI_of, sL_of, gN_of, gO_of, cl_i, cl_r, cl_l, cl_n, pu_s, pu_n, rV_s, hg_same, hg_ne, if_true, if_false, true_and, and_true, ne_eq, not_false_eq_true, not_true_eq_false, h2, hg_hn_ne, hg_hm_ne, hn_1, hm_1, hs_sz, hz, Nat.reduceAdd]
  refine k _ ⟨?_, ?_, fun b hb hne => ?_⟩ ?_ ?_
  · simp only [hn_1, hm_1, hs_sz, hz]
  · simp only [hn_2, hm_2, hs_sl]
  · rw [hz] at hb
    simp (disch := first | omega | (simp only [hn_1, hm_1, hs_sz, hz]; omega) | (simp only [hn_1, hm_1, hs_sz, hz]; done) | assumption) only [hg_same, hg_ne, hg_hn_ne, hg_hn_eq, hg_hm_ne, hg_hm_eq, hg_hm_row, hn_1, hm_1, hs_sz, hz]
  · simp (disch := first | omega | (simp only [hn_1, hm_1, hs_sz, hz]; omega) | (simp only [hn_1, hm_1, hs_sz, hz]; done) | assumption) only [hg_same, hg_ne, hg_hn_ne, hg_hn_eq, hg_hm_ne, hg_hm_eq, hg_hm_row, hn_1, hm_1, hs_sz, hz]
  · simp (disch := first | omega | (simp only [hn_1, hm_1, hs_sz, hz]; omega) | (simp only [hn_1, hm_1, hs_sz, hz]; done) | assumption) only [hg_same, hg_ne, hg_hn_ne, hg_hn_eq, hg_hm_ne, hg_hm_eq, hg_hm_row, hn_1, hm_1, hs_sz, hz]
