def rw_ (v : Int32) (n : Nat) : Bool := decide (0 ≤ v.toInt ∧ v.toInt < n)
def vb (v : Int32) : Bool := decide (-99 ≤ v.toInt ∧ v.toInt ≤ 99)
theorem rw_of {v : Int32} {n : Nat} (hn : n ≤ 20) (h : rw_ v n = true) : ∃ j, j < n ∧ v = nI j := by
  obtain ⟨h1, h2⟩ := of_decide_eq_true h
  refine ⟨v.toInt.toNat, by omega, ?_⟩
  apply Int32.toInt_inj.mp
  rw [nI_toInt (by omega)]
  omega
theorem rw_nI {j n : Nat} (hj : j < n) (hn : n ≤ 20) : rw_ (nI j) n = true := by
  unfold rw_
  rw [nI_toInt (by omega)]
  simp; omega
theorem x_isRow {d n : Nat} {v : Int32} {h : j_H} {Q : Option Value → j_H → Prop} (h1 : hg h 1 = some (oB 10 [.ref 2, .ref 27, .ref 32, .ref 35, .ref 37, .ref 44, .ref 47, .ref 63, .ref 86])) (h2 : hg h 2 = some (oB 9 [.int (nI n), .ref 3, .ref 24, .ref 25, .ref 26])) (hn : 1 ≤ n ∧ n ≤ 20) : WP (d + 1) mX10_isRow 0 [some (.ref 1), some (.int v)] [] h Q = Q (some (.int (bI (rw_ v n)))) h := by
  simp (disch := first | omega | assumption) only [r_X10_isRow_0, r_X10_isRow_1, r_X10_isRow_2, r_X10_isRow_3, r_X10_isRow_6, r_X10_isRow_9, r_X10_isRow_10, r_X10_isRow_11, r_X10_isRow_14, r_X10_isRow_14_0, r_X10_isRow_14_1, gF_0, gF_1, gF_2, gF_3, gF_4, gF_5, gF_6, gF_7, gF_8, gF_9, gF_10, gF_11, gF_12, gF_13, gF_14, gF_15, gF_16, gF_17, pF_0, pF_1, pF_2, pF_3, pF_4, pF_5, pF_6, pF_7, pF_8, pF_9, pF_10, pF_11, pF_12, pF_13, pF_14, pF_15, pF_16, pF_17, gI_of, gL_of, gR_of, sI_of, sL_of, gN_of, gO_of, cl_i, cl_r, cl_l, cl_n, pu_s, pu_n, rV_s, hg_same, hg_ne, if_true, if_false, true_and, and_true, ne_eq, not_false_eq_true, not_true_eq_false, h1, h2, x_isWithin, n_sub]
  have e : decide (nI 0 ≤ v ∧ v ≤ nI (n - 1)) = rw_ v n := by
    unfold rw_
    apply decide_eq_decide.mpr
    rw [Int32.le_iff_toInt_le, Int32.le_iff_toInt_le, nI_toInt (by omega), nI_toInt (by omega)]
    omega
  rw [e]
theorem x_isValue {d : Nat} {v : Int32} {h : j_H} {Q : Option Value → j_H → Prop} : WP (d + 1) mX10_isValue 0 [some (.int v)] [] h Q = Q (some (.int (bI (vb v)))) h := by
  simp (disch := first | omega | assumption) only [r_X10_isValue_0, r_X10_isValue_1, r_X10_isValue_3, r_X10_isValue_5, r_X10_isValue_8, r_X10_isValue_8_0, r_X10_isValue_8_1, gF_0, gF_1, gF_2, gF_3, gF_4, gF_5, gF_6, gF_7, gF_8, gF_9, gF_10, gF_11, gF_12, gF_13, gF_14, gF_15, gF_16, gF_17, pF_0, pF_1, pF_2, pF_3, pF_4, pF_5, pF_6, pF_7, pF_8, pF_9, pF_10, pF_11, pF_12, pF_13, pF_14, pF_15, pF_16, pF_17, gI_of, gL_of, gR_of, sI_of, sL_of, gN_of, gO_of, cl_i, cl_r, cl_l, cl_n, pu_s, pu_n, rV_s, hg_same, hg_ne, if_true, if_false, true_and, and_true, ne_eq, not_false_eq_true, not_true_eq_false, x_isWithin]
  have e : decide ((-99 : Int32) ≤ v ∧ v ≤ nI 99) = vb v := by
    unfold vb
    apply decide_eq_decide.mpr
    rw [Int32.le_iff_toInt_le, Int32.le_iff_toInt_le, nI_toInt (by omega), show (-99 : Int32).toInt = -99 by decide +kernel]
    omega
  rw [e]
theorem lc_lt (a b : Int64) : (lg_cmp a b < 0) = (a < b) := by
  unfold lg_cmp
  by_cases h1 : a > b
  · rw [if_pos h1]
    have : ¬ a < b := fun h => by
      have e1 := Int64.lt_iff_toInt_lt.mp h1
      have e2 := Int64.lt_iff_toInt_lt.mp h
      omega
    simp [this]
  · rw [if_neg h1]
    by_cases h2 : a = b
    · subst h2; simp
    · have : a < b := by
        rw [Int64.lt_iff_toInt_lt]
        have e1 : ¬ b.toInt < a.toInt := fun q => h1 (Int64.lt_iff_toInt_lt.mpr q)
        have e2 : a.toInt ≠ b.toInt := fun q => h2 (Int64.toInt_inj.mp q)
        omega
      simp [h2, this]
theorem lc_gt (a b : Int64) : (0 < lg_cmp a b) = (b < a) := by
  unfold lg_cmp
  by_cases h1 : a > b
  · rw [if_pos h1]; simp [show b < a from h1]
  · rw [if_neg h1]
    have : ¬ b < a := h1
    by_cases h2 : a = b
    · subst h2; simp
    · simp [h2, this]
theorem lc_eq (a b : Int64) : (lg_cmp a b = 0) = (a = b) := by
  unfold lg_cmp
  by_cases h1 : a > b
  · rw [if_pos h1]
    have : a ≠ b := fun e => by subst e; exact absurd (Int64.lt_iff_toInt_lt.mp h1) (by omega)
    simp [this]
  · rw [if_neg h1]
    by_cases h2 : a = b <;> simp [h2]
theorem lc_le (a b : Int64) : (lg_cmp a b ≤ 0) = (a ≤ b) := by
  have := lc_gt a b
  rw [show (lg_cmp a b ≤ 0) = ¬ (0 < lg_cmp a b) from propext Int32.not_lt.symm, this]
  exact propext Int64.not_lt
theorem lc_ge (a b : Int64) : (0 ≤ lg_cmp a b) = (b ≤ a) := by
  have := lc_lt a b
  rw [show (0 ≤ lg_cmp a b) = ¬ (lg_cmp a b < 0) from propext Int32.not_lt.symm, this]
  exact propext Int64.not_lt
theorem m_in {d : Nat} {a b c : Int64} {h : j_H} {Q : Option Value → j_H → Prop} : WP d mX11_in 0 [some (.long a), none, some (.long b), none, some (.long c), none] [] h Q = Q (some (.int (bI (decide (b ≤ a ∧ a ≤ c))))) h := by
  simp (disch := first | omega | assumption) only [r_X11_in_0, r_X11_in_1, r_X11_in_2, r_X11_in_3, r_X11_in_6, r_X11_in_7, r_X11_in_9, r_X11_in_10, r_X11_in_13, r_X11_in_14, r_X11_in_17, r_X11_in_18, r_X11_in_18_0, r_X11_in_18_1, gF_0, gF_1, gF_2, gF_3, gF_4, gF_5, gF_6, gF_7, gF_8, gF_9, gF_10, gF_11, gF_12, gF_13, gF_14, gF_15, gF_16, gF_17, pF_0, pF_1, pF_2, pF_3, pF_4, pF_5, pF_6, pF_7, pF_8, pF_9, pF_10, pF_11, pF_12, pF_13, pF_14, pF_15, pF_16, pF_17, gI_of, gL_of, gR_of, sI_of, sL_of, gN_of, gO_of, cl_i, cl_r, cl_l, cl_n, pu_s, pu_n, rV_s, hg_same, hg_ne, if_true, if_false, true_and, and_true, ne_eq, not_false_eq_true, not_true_eq_false, lc_lt, lc_gt, lc_le, lc_ge]
  by_cases h1 : b ≤ a
  · by_cases h2 : a ≤ c
    · have h1' : ¬ a < b := Int64.not_lt.mpr h1
      have h2' : ¬ c < a := Int64.not_lt.mpr h2
      simp [h1, h2, h1', h2']
    · have h1' : ¬ a < b := Int64.not_lt.mpr h1
      have h2' : c < a := Int64.not_le.mp h2
      simp [h1, h2, h1', h2']
  · have h1' : a < b := Int64.not_le.mp h1
    simp [h1, h1']
theorem l_int (v : Int32) : v.toInt64.toInt = v.toInt := Int32.toInt_toInt64 v
theorem lN_int {n : Nat} (h : n < 2 ^ 63) : (lN n).toInt = n := pk_lT h
theorem m_is {d n p : Nat} {v : Int32} {h : j_H} {Q : Option Value → j_H → Prop} (h0 : mO h n p) (hn : 1 ≤ n ∧ n ≤ 20) : WP (d + 1) mX11_is 0 [some (.ref 88), some (.int v)] [] h Q = Q (some (.int (bI (rw_ v n)))) h := by
  obtain ⟨a, b, c, h0⟩ := h0
  simp (disch := first | omega | assumption) only [r_X11_is_0, r_X11_is_1, r_X11_is_2, r_X11_is_3, r_X11_is_4, r_X11_is_7, r_X11_is_8, r_X11_is_9, r_X11_is_10, r_X11_is_13, r_X11_is_13_0, r_X11_is_13_1, gF_0, gF_1, gF_2, gF_3, gF_4, gF_5, gF_6, gF_7, gF_8, gF_9, gF_10, gF_11, gF_12, gF_13, gF_14, gF_15, gF_16, gF_17, pF_0, pF_1, pF_2, pF_3, pF_4, pF_5, pF_6, pF_7, pF_8, pF_9, pF_10, pF_11, pF_12, pF_13, pF_14, pF_15, pF_16, pF_17, gI_of, gL_of, gR_of, sI_of, sL_of, gN_of, gO_of, cl_i, cl_r, cl_l, cl_n, pu_s, pu_n, rV_s, hg_same, hg_ne, if_true, if_false, true_and, and_true, ne_eq, not_false_eq_true, not_true_eq_false, h0, m_in, n_sub]
  have e : decide (lN 0 ≤ v.toInt64 ∧ v.toInt64 ≤ (nI (n - 1)).toInt64) = rw_ v n := by
    unfold rw_
    apply decide_eq_decide.mpr
    rw [Int64.le_iff_toInt_le, Int64.le_iff_toInt_le, l_int, l_int, lN_int (by decide), nI_toInt (by omega)]
    omega
  rw [e]
theorem m_val (v : Int32) : decide ((-99 : Int64) ≤ v.toInt64 ∧ v.toInt64 ≤ lN 99) = vb v := by
  unfold vb
  apply decide_eq_decide.mpr
  rw [Int64.le_iff_toInt_le, Int64.le_iff_toInt_le, l_int, lN_int (by decide), show (-99 : Int64).toInt = -99 by decide +kernel]
  exact Iff.rfl
theorem m_rng (v : Int32) (a b : Nat) (ha : a < 2 ^ 62) (hb : b < 2 ^ 62) : decide (lN a ≤ v.toInt64 ∧ v.toInt64 ≤ lN b) = decide ((a : Int) ≤ v.toInt ∧ v.toInt ≤ b) := by
  apply decide_eq_decide.mpr
  rw [Int64.le_iff_toInt_le, Int64.le_iff_toInt_le, l_int, lN_int (by omega), lN_int (by omega)]
theorem x_rng (v : Int32) (a b : Nat) (ha : a < 2 ^ 31) (hb : b < 2 ^ 31) : decide (nI a ≤ v ∧ v ≤ nI b) = decide ((a : Int) ≤ v.toInt ∧ v.toInt ≤ b) := by
  apply decide_eq_decide.mpr
  rw [Int32.le_iff_toInt_le, Int32.le_iff_toInt_le, nI_toInt ha, nI_toInt hb]
theorem rng_of {v : Int32} {a b : Nat} (h : decide ((a : Int) ≤ v.toInt ∧ v.toInt ≤ b) = true) : ∃ j, a ≤ j ∧ j ≤ b ∧ v = nI j := by
  obtain ⟨h1, h2⟩ := of_decide_eq_true h
  have hv := Int32.toInt_lt v
  refine ⟨v.toInt.toNat, by omega, by omega, ?_⟩
  apply Int32.toInt_inj.mp
  rw [nI_toInt (by omega)]
  omega
