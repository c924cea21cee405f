/-- a long by its number -/
def lI (z : Int) : Int64 := Int64.ofInt z
theorem lI_add (a b : Int) : lI a + lI b = lI (a + b) := (Int64.ofInt_add a b).symm
theorem lI_mul (a b : Int) : lI a * lI b = lI (a * b) := (Int64.ofInt_mul a b).symm
theorem lI_sub (a b : Int) : lI a - lI b = lI (a - b) := (Int64.ofInt_sub a b).symm
theorem lI_neg (a : Int) : -lI a = lI (-a) := (Int64.ofInt_neg a).symm
theorem lI_toInt {a : Int} (h1 : -9223372036854775808 ≤ a) (h2 : a < 9223372036854775808) : (lI a).toInt = a := Int64.toInt_ofInt_of_le h1 h2
theorem lN_lI (n : Nat) : lN n = lI n := (Int64.ofInt_eq_ofNat).symm
theorem nI_lI {n : Nat} (h : n < 2 ^ 31) : (nI n).toInt64 = lI n := by rw [nI_l h, lN_lI]
theorem i_lI (v : Int32) : v.toInt64 = lI v.toInt := by
  apply Int64.toInt_inj.mp
  have h1 := Int32.le_toInt v
  have h2 := Int32.toInt_lt v
  rw [l_int, lI_toInt (by omega) (by omega)]
theorem lI_i (n : Nat) : (lI n).toInt32 = nI n := by rw [← lN_lI, lN_i]
theorem lI_lt {a b : Int} (a1 : -9223372036854775808 ≤ a) (a2 : a < 9223372036854775808) (b1 : -9223372036854775808 ≤ b) (b2 : b < 9223372036854775808) : (lI a < lI b) = (a < b) := by
  rw [Int64.lt_iff_toInt_lt, lI_toInt a1 a2, lI_toInt b1 b2]
theorem lI_le {a b : Int} (a1 : -9223372036854775808 ≤ a) (a2 : a < 9223372036854775808) (b1 : -9223372036854775808 ≤ b) (b2 : b < 9223372036854775808) : (lI a ≤ lI b) = (a ≤ b) := by
  rw [Int64.le_iff_toInt_le, lI_toInt a1 a2, lI_toInt b1 b2]
theorem lI_eq {a b : Int} (a1 : -9223372036854775808 ≤ a) (a2 : a < 9223372036854775808) (b1 : -9223372036854775808 ≤ b) (b2 : b < 9223372036854775808) : (lI a = lI b) = (a = b) := by
  refine propext ⟨fun h => ?_, fun h => by rw [h]⟩
  have := congrArg Int64.toInt h
  rwa [lI_toInt a1 a2, lI_toInt b1 b2] at this
theorem lI_div {a b : Int} (a1 : -9223372036854775808 < a) (a2 : a < 9223372036854775808) (b1 : 0 < b) (b2 : b < 9223372036854775808) : lI a / lI b = lI (a.tdiv b) := by
  apply Int64.toInt_inj.mp
  have h := Int.natAbs_tdiv_le_natAbs a b
  rw [Int64.toInt_div_of_ne_left _ _ (fun e => by
    have := congrArg Int64.toInt e
    rw [lI_toInt (by omega) (by omega)] at this
    have h2 : Int64.minValue.toInt = -9223372036854775808 := by decide +kernel
    omega), lI_toInt (by omega) (by omega), lI_toInt (by omega) (by omega), lI_toInt (by omega) (by omega)]
theorem lI_rem {a b : Int} (a1 : -9223372036854775808 < a) (a2 : a < 9223372036854775808) (b1 : 0 < b) (b2 : b < 9223372036854775808) : lI a - lI a / lI b * lI b = lI (a.tmod b) := by
  rw [lI_div a1 a2 b1 b2, lI_mul, lI_sub, Int.tmod_def, Int.mul_comm]

theorem lI_ne0 {a : Int} (h1 : 0 < a) (h2 : a < 9223372036854775808) : (lI a = 0) = False := eq_false (fun e => by
  have := congrArg Int64.toInt e
  rw [lI_toInt (by omega) (by omega)] at this
  have h3 : (0 : Int64).toInt = 0 := by decide +kernel
  omega)
/-- the rest of a number -/
def rs (p : Nat) (v : Int) : Nat := (v % (p : Int)).toNat
theorem rs_lt {p : Nat} (hp : 0 < p) (v : Int) : rs p v < p := by
  have h1 := Int.emod_nonneg v (show (p : Int) ≠ 0 by omega)
  have h2 := Int.emod_lt_of_pos v (show (0 : Int) < p by omega)
  unfold rs
  omega
theorem rs_cast {p : Nat} (hp : 0 < p) (v : Int) : (rs p v : Int) = v % (p : Int) := by
  have h1 := Int.emod_nonneg v (show (p : Int) ≠ 0 by omega)
  unfold rs
  omega
theorem rs_tmod {p : Nat} (hp : 0 < p) (v : Int) : (rs p v : Int) = if v.tmod p < 0 then v.tmod p + p else v.tmod p := by
  rw [rs_cast hp]
  have h := Int.tmod_eq_emod_of_nonneg (a := v) (b := (p : Int))
  by_cases hv : 0 ≤ v
  · rw [Int.tmod_eq_emod_of_nonneg hv]
    have h1 := Int.emod_nonneg v (show (p : Int) ≠ 0 by omega)
    rw [if_neg (by omega)]
  · have h3 := Int.tmod_eq_emod_of_nonneg (a := -v) (b := (p : Int)) (by omega)
    rw [Int.neg_tmod] at h3
    have h1 := Int.emod_nonneg v (show (p : Int) ≠ 0 by omega)
    have h2 := Int.emod_lt_of_pos v (show (0 : Int) < p by omega)
    have e1 := Int.emod_nonneg (-v) (show (p : Int) ≠ 0 by omega)
    have e2 := Int.emod_lt_of_pos (-v) (show (0 : Int) < p by omega)
    have s1 := Int.mul_ediv_add_emod v p
    have s2 := Int.mul_ediv_add_emod (-v) p
    have s3 : (p : Int) * (v / p + (-v) / p) = -(v % p + (-v) % p) := by rw [Int.mul_add]; omega
    by_cases hz : (-v) % (p : Int) = 0
    · have ht : v.tmod p = 0 := by omega
      rw [ht, if_neg (by omega)]
      have h4 : v % (p : Int) = 0 := by
        have := Int.dvd_of_emod_eq_zero hz
        have h5 := (Int.dvd_neg (a := (p : Int)) (b := v)).mp this
        exact Int.emod_eq_zero_of_dvd h5
      exact h4
    · rw [if_pos (by omega)]
      have hk : v / p + (-v) / p = -1 := by
        have a1 : v % p + (-v) % p < 2 * p := by omega
        have a2 : 0 < v % p + (-v) % p := by omega
        generalize v / p + (-v) / p = t at s3
        have b1 : t < 0 := by
          apply Int.lt_of_not_ge
          intro hc
          have := Int.mul_nonneg (show (0 : Int) ≤ p by omega) hc
          omega
        have b2 : -2 < t := by
          apply Int.lt_of_not_ge
          intro hc
          have := Int.mul_le_mul_of_nonneg_left hc (show (0 : Int) ≤ p by omega)
          omega
        omega
      rw [hk] at s3
      omega
theorem x_restOf {d p : Nat} {v : Int} {w : Int32} {h : j_H} {Q : Option Value → j_H → Prop} (h0 : hg h 63 = some (oB 7 [.int (nI p), .int w, .ref 64, .ref 85])) (hp : 0 < p) (hp2 : p ≤ 46337) (v1 : -4611686018427387904 < v) (v2 : v < 4611686018427387904) : WP d mX7_restOf 0 [some (.ref 63), some (.long (lI v)), none, none, none] [] h Q = Q (some (.int (nI (rs p v)))) h := by
  have b1 := tmod_bounds (a := v) (M := (p : Int)) (by omega)
  have hr := rs_tmod hp v
  have hl := rs_lt hp v
  simp (disch := first | omega | assumption) only [r_X7_restOf_0, r_X7_restOf_1, r_X7_restOf_2, r_X7_restOf_5, r_X7_restOf_6, r_X7_restOf_7, r_X7_restOf_8, r_X7_restOf_9, r_X7_restOf_10, r_X7_restOf_11, r_X7_restOf_14, r_X7_restOf_15, r_X7_restOf_16, r_X7_restOf_19, r_X7_restOf_20, r_X7_restOf_21, r_X7_restOf_24, r_X7_restOf_25, r_X7_restOf_26, gF_0, gF_1, gF_2, gF_3, gF_4, gF_5, gF_6, gF_7, gF_8, gF_9, gF_10, gF_11, gF_12, gF_13, gF_14, gF_15, gF_16, gF_17, pF_0, pF_1, pF_2, pF_3, pF_4, pF_5, pF_6, pF_7, pF_8, pF_9, pF_10, pF_11, pF_12, pF_13, pF_14, pF_15, pF_16, pF_17, gI_of, gL_of, gR_of, sI_of, sL_of, gN_of, gO_of, cl_i, cl_r, cl_l, cl_n, pu_s, pu_n, rV_s, hg_same, hg_ne, if_true, if_false, true_and, and_true, ne_eq, not_false_eq_true, not_true_eq_false, eq_self, reduceCtorEq, Nat.reduceAdd, h0, nI_lI, lI_rem, lN_lI, lc_lt, lc_ge, lI_lt, lI_le, lI_add, lI_eq, Int.natCast_eq_zero]
  rw [lI_ne0 (by omega) (by omega), not_false_eq_true, true_and]
  by_cases hc : ((0 : Nat) : Int) ≤ v.tmod p
  · rw [if_pos hc]
    rw [if_neg (by omega)] at hr
    rw [← hr, lI_i]
  · rw [if_neg hc]
    rw [if_pos (by omega)] at hr
    rw [← hr, lI_i]
theorem m_rest {d n p : Nat} {v : Int} {h : j_H} {Q : Option Value → j_H → Prop} (h0 : mO h n p) (hp : 0 < p) (hp2 : p ≤ 46337) (v1 : -4611686018427387904 < v) (v2 : v < 4611686018427387904) : WP d mX11_rest 0 [some (.ref 88), some (.long (lI v)), none, none, none] [] h Q = Q (some (.long (lI (rs p v)))) h := by
  obtain ⟨a, b, c, h0⟩ := h0
  have b1 := tmod_bounds (a := v) (M := (p : Int)) (by omega)
  have hr := rs_tmod hp v
  have hl := rs_lt hp v
  simp (disch := first | omega | assumption) only [r_X11_rest_0, r_X11_rest_1, r_X11_rest_2, r_X11_rest_5, r_X11_rest_6, r_X11_rest_7, r_X11_rest_8, r_X11_rest_9, r_X11_rest_10, r_X11_rest_11, r_X11_rest_14, r_X11_rest_15, r_X11_rest_16, r_X11_rest_19, r_X11_rest_20, r_X11_rest_21, r_X11_rest_24, r_X11_rest_25, gF_0, gF_1, gF_2, gF_3, gF_4, gF_5, gF_6, gF_7, gF_8, gF_9, gF_10, gF_11, gF_12, gF_13, gF_14, gF_15, gF_16, gF_17, pF_0, pF_1, pF_2, pF_3, pF_4, pF_5, pF_6, pF_7, pF_8, pF_9, pF_10, pF_11, pF_12, pF_13, pF_14, pF_15, pF_16, pF_17, gI_of, gL_of, gR_of, sI_of, sL_of, gN_of, gO_of, cl_i, cl_r, cl_l, cl_n, pu_s, pu_n, rV_s, hg_same, hg_ne, if_true, if_false, true_and, and_true, ne_eq, not_false_eq_true, not_true_eq_false, eq_self, reduceCtorEq, Nat.reduceAdd, h0, nI_lI, lI_rem, lN_lI, lc_lt, lc_ge, lI_lt, lI_le, lI_add, lI_eq]
  rw [lI_ne0 (by omega) (by omega), not_false_eq_true, true_and]
  by_cases hc : ((0 : Nat) : Int) ≤ v.tmod p
  · rw [if_pos hc]
    rw [if_neg (by omega)] at hr
    rw [← hr]
  · rw [if_neg hc]
    rw [if_pos (by omega)] at hr
    rw [← hr]
/-- the power by which a rest is turned -/
def pw (p : Nat) : Nat → Nat → Nat → Nat → Nat
  | 0, _, a, _ => a
  | f + 1, e, a, s => if e = 0 then a else pw p f (e / 2) (if tb e 0 = 1 then a * s % p else a) (s * s % p)
def rcp (p v : Nat) : Nat := pw p 16 (p - 2) 1 v
theorem pw_lt {p : Nat} (hp : 0 < p) : ∀ (f e a s : Nat), a < p → pw p f e a s < p
  | 0, _, _, _, h => h
  | f + 1, e, a, s, h => by
    rw [pw]
    split
    · exact h
    · refine pw_lt hp f _ _ _ ?_
      split
      · exact Nat.mod_lt _ hp
      · exact h
theorem rcp_lt {p : Nat} (hp : 2 ≤ p) (v : Nat) : rcp p v < p := pw_lt (by omega) _ _ _ _ (by omega)
theorem n_rem {a p : Nat} (hp : 0 < p) : ((a : Int)).tmod (p : Int) = ((a % p : Nat) : Int) := by
  rw [Int.tmod_eq_emod_of_nonneg (by omega)]; rfl
theorem mul_lt {a b p : Nat} (ha : a < p) (hb : b < p) (hp : p ≤ 46337) : a * b < 2147117570 := by
  have h1 : a * b ≤ 46336 * 46336 := Nat.mul_le_mul (by omega) (by omega)
  omega
theorem lI_mr {a b p : Nat} (ha : a < p) (hb : b < p) (hp : p ≤ 46337) : lI a * lI b - lI a * lI b / lI p * lI p = lI ((a * b % p : Nat) : Int) := by
  have := mul_lt ha hb hp
  rw [lI_mul, ← Int.natCast_mul, lI_rem (by omega) (by omega) (by omega) (by omega), n_rem (by omega)]
theorem x_reciprocal {d p v : Nat} {w : Int32} {h : j_H} {Q : Option Value → j_H → Prop} (h0 : hg h 63 = some (oB 7 [.int (nI p), .int w, .ref 64, .ref 85])) (hp : 2 ≤ p) (hp2 : p ≤ 46337) (hv : v < p) : WP d mX7_reciprocal 0 [some (.ref 63), some (.int (nI v)), none, none, none, none, none] [] h Q = Q (some (.int (nI (rcp p v)))) h := by
  refine WP.det ?_ Q
  simp (disch := first | omega | assumption) only [r_X7_reciprocal_0, r_X7_reciprocal_1, r_X7_reciprocal_2, r_X7_reciprocal_3, r_X7_reciprocal_4, r_X7_reciprocal_6, r_X7_reciprocal_7, r_X7_reciprocal_10, r_X7_reciprocal_11, r_X7_reciprocal_12, r_X7_reciprocal_16, r_X7_reciprocal_19, r_X7_reciprocal_21, r_X7_reciprocal_22, r_X7_reciprocal_23, r_X7_reciprocal_26, r_X7_reciprocal_27, r_X7_reciprocal_29, r_X7_reciprocal_30, r_X7_reciprocal_31, r_X7_reciprocal_34, r_X7_reciprocal_35, r_X7_reciprocal_36, r_X7_reciprocal_37, r_X7_reciprocal_39, r_X7_reciprocal_41, r_X7_reciprocal_42, r_X7_reciprocal_43, r_X7_reciprocal_46, r_X7_reciprocal_47, r_X7_reciprocal_48, r_X7_reciprocal_50, r_X7_reciprocal_52, r_X7_reciprocal_53, r_X7_reciprocal_54, r_X7_reciprocal_56, r_X7_reciprocal_59, r_X7_reciprocal_60, r_X7_reciprocal_61, gF_0, gF_1, gF_2, gF_3, gF_4, gF_5, gF_6, gF_7, gF_8, gF_9, gF_10, gF_11, gF_12, gF_13, gF_14, gF_15, gF_16, gF_17, pF_0, pF_1, pF_2, pF_3, pF_4, pF_5, pF_6, pF_7, pF_8, pF_9, pF_10, pF_11, pF_12, pF_13, pF_14, pF_15, pF_16, pF_17, gI_of, gL_of, gR_of, sI_of, sL_of, gN_of, gO_of, cl_i, cl_r, cl_l, cl_n, pu_s, pu_n, rV_s, hg_same, hg_ne, if_true, if_false, true_and, and_true, ne_eq, not_false_eq_true, not_true_eq_false, eq_self, reduceCtorEq, Nat.reduceAdd, h0, nI_lI, lN_lI, n_sub]
  have key : ∀ f e a s : Nat, e < 2 ^ f → e < 2 ^ 31 → a < p → s < p → WP d mX7_reciprocal 14 [some (.ref 63), some (.int (nI v)), some (.long (lI a)), none, some (.long (lI s)), none, some (.int (nI e))] [] h (fun r h' => r = some (.int (nI (pw p f e a s))) ∧ h' = h) := by
    intro f
    induction f with
    | zero =>
      intro e a s he _ ha hs
      have : e = 0 := by omega
      subst this
      rw [r_X7_reciprocal_14]
      simp (disch := first | omega | assumption) only [r_X7_reciprocal_0, r_X7_reciprocal_1, r_X7_reciprocal_2, r_X7_reciprocal_3, r_X7_reciprocal_4, r_X7_reciprocal_6, r_X7_reciprocal_7, r_X7_reciprocal_10, r_X7_reciprocal_11, r_X7_reciprocal_12, r_X7_reciprocal_16, r_X7_reciprocal_19, r_X7_reciprocal_21, r_X7_reciprocal_22, r_X7_reciprocal_23, r_X7_reciprocal_26, r_X7_reciprocal_27, r_X7_reciprocal_29, r_X7_reciprocal_30, r_X7_reciprocal_31, r_X7_reciprocal_34, r_X7_reciprocal_35, r_X7_reciprocal_36, r_X7_reciprocal_37, r_X7_reciprocal_39, r_X7_reciprocal_41, r_X7_reciprocal_42, r_X7_reciprocal_43, r_X7_reciprocal_46, r_X7_reciprocal_47, r_X7_reciprocal_48, r_X7_reciprocal_50, r_X7_reciprocal_52, r_X7_reciprocal_53, r_X7_reciprocal_54, r_X7_reciprocal_56, r_X7_reciprocal_59, r_X7_reciprocal_60, r_X7_reciprocal_61, gF_0, gF_1, gF_2, gF_3, gF_4, gF_5, gF_6, gF_7, gF_8, gF_9, gF_10, gF_11, gF_12, gF_13, gF_14, gF_15, gF_16, gF_17, pF_0, pF_1, pF_2, pF_3, pF_4, pF_5, pF_6, pF_7, pF_8, pF_9, pF_10, pF_11, pF_12, pF_13, pF_14, pF_15, pF_16, pF_17, gI_of, gL_of, gR_of, sI_of, sL_of, gN_of, gO_of, cl_i, cl_r, cl_l, cl_n, pu_s, pu_n, rV_s, hg_same, hg_ne, if_true, if_false, true_and, and_true, ne_eq, not_false_eq_true, not_true_eq_false, eq_self, reduceCtorEq, Nat.reduceAdd, nI_add, n_mul, n_sub, n_div, n_dec, n_dif, n_shl1, n_bit, n_eq0, n_0eq, n_eq, n_lt, n_le, n_lt0, n_ge0, n_gt0, n_le0, n_em1, n_m1e, n_m1lt0, n_m1ge0, n_m1gt0, n_m1eq0, n_m1lt, bI_eq0, bI_ne0, tb_eq0, tb_eq1, lI_i]
      first | exact ⟨rfl, rfl⟩ | rfl
    | succ f ih =>
      intro e a s he he2 ha hs
      rw [r_X7_reciprocal_14]
      by_cases hz : e = 0
      · subst hz
        simp (disch := first | omega | assumption) only [r_X7_reciprocal_0, r_X7_reciprocal_1, r_X7_reciprocal_2, r_X7_reciprocal_3, r_X7_reciprocal_4, r_X7_reciprocal_6, r_X7_reciprocal_7, r_X7_reciprocal_10, r_X7_reciprocal_11, r_X7_reciprocal_12, r_X7_reciprocal_16, r_X7_reciprocal_19, r_X7_reciprocal_21, r_X7_reciprocal_22, r_X7_reciprocal_23, r_X7_reciprocal_26, r_X7_reciprocal_27, r_X7_reciprocal_29, r_X7_reciprocal_30, r_X7_reciprocal_31, r_X7_reciprocal_34, r_X7_reciprocal_35, r_X7_reciprocal_36, r_X7_reciprocal_37, r_X7_reciprocal_39, r_X7_reciprocal_41, r_X7_reciprocal_42, r_X7_reciprocal_43, r_X7_reciprocal_46, r_X7_reciprocal_47, r_X7_reciprocal_48, r_X7_reciprocal_50, r_X7_reciprocal_52, r_X7_reciprocal_53, r_X7_reciprocal_54, r_X7_reciprocal_56, r_X7_reciprocal_59, r_X7_reciprocal_60, r_X7_reciprocal_61, gF_0, gF_1, gF_2, gF_3, gF_4, gF_5, gF_6, gF_7, gF_8, gF_9, gF_10, gF_11, gF_12, gF_13, gF_14, gF_15, gF_16, gF_17, pF_0, pF_1, pF_2, pF_3, pF_4, pF_5, pF_6, pF_7, pF_8, pF_9, pF_10, pF_11, pF_12, pF_13, pF_14, pF_15, pF_16, pF_17, gI_of, gL_of, gR_of, sI_of, sL_of, gN_of, gO_of, cl_i, cl_r, cl_l, cl_n, pu_s, pu_n, rV_s, hg_same, hg_ne, if_true, if_false, true_and, and_true, ne_eq, not_false_eq_true, not_true_eq_false, eq_self, reduceCtorEq, Nat.reduceAdd, nI_add, n_mul, n_sub, n_div, n_dec, n_dif, n_shl1, n_bit, n_eq0, n_0eq, n_eq, n_lt, n_le, n_lt0, n_ge0, n_gt0, n_le0, n_em1, n_m1e, n_m1lt0, n_m1ge0, n_m1gt0, n_m1eq0, n_m1lt, bI_eq0, bI_ne0, tb_eq0, tb_eq1, lI_i]
        first | exact ⟨rfl, rfl⟩ | rfl
      · have hb := tb_lt e 0
        have h2 : e / 2 < 2 ^ f := by rw [Nat.pow_succ] at he; omega
        have hpn := lI_ne0 (a := (p : Int)) (by omega) (by omega)
        have hms : s * s % p < p := Nat.mod_lt _ (by omega)
        have hma : a * s % p < p := Nat.mod_lt _ (by omega)
        simp (disch := first | omega | assumption) only [r_X7_reciprocal_0, r_X7_reciprocal_1, r_X7_reciprocal_2, r_X7_reciprocal_3, r_X7_reciprocal_4, r_X7_reciprocal_6, r_X7_reciprocal_7, r_X7_reciprocal_10, r_X7_reciprocal_11, r_X7_reciprocal_12, r_X7_reciprocal_16, r_X7_reciprocal_19, r_X7_reciprocal_21, r_X7_reciprocal_22, r_X7_reciprocal_23, r_X7_reciprocal_26, r_X7_reciprocal_27, r_X7_reciprocal_29, r_X7_reciprocal_30, r_X7_reciprocal_31, r_X7_reciprocal_34, r_X7_reciprocal_35, r_X7_reciprocal_36, r_X7_reciprocal_37, r_X7_reciprocal_39, r_X7_reciprocal_41, r_X7_reciprocal_42, r_X7_reciprocal_43, r_X7_reciprocal_46, r_X7_reciprocal_47, r_X7_reciprocal_48, r_X7_reciprocal_50, r_X7_reciprocal_52, r_X7_reciprocal_53, r_X7_reciprocal_54, r_X7_reciprocal_56, r_X7_reciprocal_59, r_X7_reciprocal_60, r_X7_reciprocal_61, gF_0, gF_1, gF_2, gF_3, gF_4, gF_5, gF_6, gF_7, gF_8, gF_9, gF_10, gF_11, gF_12, gF_13, gF_14, gF_15, gF_16, gF_17, pF_0, pF_1, pF_2, pF_3, pF_4, pF_5, pF_6, pF_7, pF_8, pF_9, pF_10, pF_11, pF_12, pF_13, pF_14, pF_15, pF_16, pF_17, gI_of, gL_of, gR_of, sI_of, sL_of, gN_of, gO_of, cl_i, cl_r, cl_l, cl_n, pu_s, pu_n, rV_s, hg_same, hg_ne, if_true, if_false, true_and, and_true, ne_eq, not_false_eq_true, not_true_eq_false, eq_self, reduceCtorEq, Nat.reduceAdd, nI_add, n_mul, n_sub, n_div, n_dec, n_dif, n_shl1, n_bit, n_eq0, n_0eq, n_eq, n_lt, n_le, n_lt0, n_ge0, n_gt0, n_le0, n_em1, n_m1e, n_m1lt0, n_m1ge0, n_m1gt0, n_m1eq0, n_m1lt, bI_eq0, bI_ne0, tb_eq0, tb_eq1, hz, n_bit0, n_half, h0, nI_lI, lI_mr, hpn]
        rw [pw, if_neg hz]
        cases c1 : e.testBit 0 with
        | true =>
          have hq : (tb e 0 = 1) = True := by rw [tb_eq1, c1]; exact eq_true rfl
          simp only [hq, c1, eq_self, if_true, if_false, reduceCtorEq, not_true_eq_false, not_false_eq_true]
          exact ih _ _ _ h2 (by omega) hma hms
        | false =>
          have hq : (tb e 0 = 1) = False := by rw [tb_eq1, c1]; exact eq_false (by decide)
          simp only [hq, c1, eq_self, if_true, if_false, reduceCtorEq, not_true_eq_false, not_false_eq_true]
          exact ih _ _ _ h2 (by omega) ha hms
  exact key 16 (p - 2) 1 v (by omega) (by omega) (by omega) hv
theorem m_over {d n p v : Nat} {h : j_H} {Q : Option Value → j_H → Prop} (h0 : mO h n p) (hp : 2 ≤ p) (hp2 : p ≤ 46337) (hv : v < p) : WP d mX11_over 0 [some (.ref 88), some (.long (lI v)), none, none, none, none, none, none] [] h Q = Q (some (.long (lI (rcp p v)))) h := by
  obtain ⟨x1, x2, x3, h0⟩ := h0
  refine WP.det ?_ Q
  have hpn := lI_ne0 (a := (p : Int)) (by omega) (by omega)
  have h1p : lI ((1 : Nat) : Int) - lI ((1 : Nat) : Int) / lI (p : Int) * lI (p : Int) = lI ((1 : Nat) : Int) := by
    rw [lI_rem (by omega) (by omega) (by omega) (by omega), n_rem (by omega), Nat.mod_eq_of_lt (by omega)]
  simp (disch := first | omega | assumption) only [r_X11_over_0, r_X11_over_1, r_X11_over_2, r_X11_over_5, r_X11_over_6, r_X11_over_7, r_X11_over_8, r_X11_over_9, r_X11_over_11, r_X11_over_12, r_X11_over_15, r_X11_over_16, r_X11_over_17, r_X11_over_21, r_X11_over_24, r_X11_over_26, r_X11_over_27, r_X11_over_28, r_X11_over_29, r_X11_over_32, r_X11_over_33, r_X11_over_35, r_X11_over_36, r_X11_over_37, r_X11_over_40, r_X11_over_41, r_X11_over_42, r_X11_over_45, r_X11_over_46, r_X11_over_47, r_X11_over_49, r_X11_over_51, r_X11_over_52, r_X11_over_53, r_X11_over_56, r_X11_over_57, r_X11_over_58, r_X11_over_60, r_X11_over_62, r_X11_over_63, r_X11_over_64, r_X11_over_66, r_X11_over_69, r_X11_over_70, gF_0, gF_1, gF_2, gF_3, gF_4, gF_5, gF_6, gF_7, gF_8, gF_9, gF_10, gF_11, gF_12, gF_13, gF_14, gF_15, gF_16, gF_17, pF_0, pF_1, pF_2, pF_3, pF_4, pF_5, pF_6, pF_7, pF_8, pF_9, pF_10, pF_11, pF_12, pF_13, pF_14, pF_15, pF_16, pF_17, gI_of, gL_of, gR_of, sI_of, sL_of, gN_of, gO_of, cl_i, cl_r, cl_l, cl_n, pu_s, pu_n, rV_s, hg_same, hg_ne, if_true, if_false, true_and, and_true, ne_eq, not_false_eq_true, not_true_eq_false, eq_self, reduceCtorEq, Nat.reduceAdd, h0, nI_lI, lN_lI, n_sub, hpn, h1p]
  have key : ∀ f e a s : Nat, e < 2 ^ f → e < 2 ^ 31 → a < p → s < p → WP d mX11_over 19 [some (.ref 88), some (.long (lI v)), none, some (.long (lI a)), none, some (.long (lI s)), none, some (.int (nI e))] [] h (fun r h' => r = some (.long (lI (pw p f e a s))) ∧ h' = h) := by
    intro f
    induction f with
    | zero =>
      intro e a s he _ ha hs
      have : e = 0 := by omega
      subst this
      rw [r_X11_over_19]
      simp (disch := first | omega | assumption) only [r_X11_over_0, r_X11_over_1, r_X11_over_2, r_X11_over_5, r_X11_over_6, r_X11_over_7, r_X11_over_8, r_X11_over_9, r_X11_over_11, r_X11_over_12, r_X11_over_15, r_X11_over_16, r_X11_over_17, r_X11_over_21, r_X11_over_24, r_X11_over_26, r_X11_over_27, r_X11_over_28, r_X11_over_29, r_X11_over_32, r_X11_over_33, r_X11_over_35, r_X11_over_36, r_X11_over_37, r_X11_over_40, r_X11_over_41, r_X11_over_42, r_X11_over_45, r_X11_over_46, r_X11_over_47, r_X11_over_49, r_X11_over_51, r_X11_over_52, r_X11_over_53, r_X11_over_56, r_X11_over_57, r_X11_over_58, r_X11_over_60, r_X11_over_62, r_X11_over_63, r_X11_over_64, r_X11_over_66, r_X11_over_69, r_X11_over_70, gF_0, gF_1, gF_2, gF_3, gF_4, gF_5, gF_6, gF_7, gF_8, gF_9, gF_10, gF_11, gF_12, gF_13, gF_14, gF_15, gF_16, gF_17, pF_0, pF_1, pF_2, pF_3, pF_4, pF_5, pF_6, pF_7, pF_8, pF_9, pF_10, pF_11, pF_12, pF_13, pF_14, pF_15, pF_16, pF_17, gI_of, gL_of, gR_of, sI_of, sL_of, gN_of, gO_of, cl_i, cl_r, cl_l, cl_n, pu_s, pu_n, rV_s, hg_same, hg_ne, if_true, if_false, true_and, and_true, ne_eq, not_false_eq_true, not_true_eq_false, eq_self, reduceCtorEq, Nat.reduceAdd, nI_add, n_mul, n_sub, n_div, n_dec, n_dif, n_shl1, n_bit, n_eq0, n_0eq, n_eq, n_lt, n_le, n_lt0, n_ge0, n_gt0, n_le0, n_em1, n_m1e, n_m1lt0, n_m1ge0, n_m1gt0, n_m1eq0, n_m1lt, bI_eq0, bI_ne0, tb_eq0, tb_eq1]
      first | exact ⟨rfl, rfl⟩ | rfl
    | succ f ih =>
      intro e a s he he2 ha hs
      rw [r_X11_over_19]
      by_cases hz : e = 0
      · subst hz
        simp (disch := first | omega | assumption) only [r_X11_over_0, r_X11_over_1, r_X11_over_2, r_X11_over_5, r_X11_over_6, r_X11_over_7, r_X11_over_8, r_X11_over_9, r_X11_over_11, r_X11_over_12, r_X11_over_15, r_X11_over_16, r_X11_over_17, r_X11_over_21, r_X11_over_24, r_X11_over_26, r_X11_over_27, r_X11_over_28, r_X11_over_29, r_X11_over_32, r_X11_over_33, r_X11_over_35, r_X11_over_36, r_X11_over_37, r_X11_over_40, r_X11_over_41, r_X11_over_42, r_X11_over_45, r_X11_over_46, r_X11_over_47, r_X11_over_49, r_X11_over_51, r_X11_over_52, r_X11_over_53, r_X11_over_56, r_X11_over_57, r_X11_over_58, r_X11_over_60, r_X11_over_62, r_X11_over_63, r_X11_over_64, r_X11_over_66, r_X11_over_69, r_X11_over_70, gF_0, gF_1, gF_2, gF_3, gF_4, gF_5, gF_6, gF_7, gF_8, gF_9, gF_10, gF_11, gF_12, gF_13, gF_14, gF_15, gF_16, gF_17, pF_0, pF_1, pF_2, pF_3, pF_4, pF_5, pF_6, pF_7, pF_8, pF_9, pF_10, pF_11, pF_12, pF_13, pF_14, pF_15, pF_16, pF_17, gI_of, gL_of, gR_of, sI_of, sL_of, gN_of, gO_of, cl_i, cl_r, cl_l, cl_n, pu_s, pu_n, rV_s, hg_same, hg_ne, if_true, if_false, true_and, and_true, ne_eq, not_false_eq_true, not_true_eq_false, eq_self, reduceCtorEq, Nat.reduceAdd, nI_add, n_mul, n_sub, n_div, n_dec, n_dif, n_shl1, n_bit, n_eq0, n_0eq, n_eq, n_lt, n_le, n_lt0, n_ge0, n_gt0, n_le0, n_em1, n_m1e, n_m1lt0, n_m1ge0, n_m1gt0, n_m1eq0, n_m1lt, bI_eq0, bI_ne0, tb_eq0, tb_eq1]
        first | exact ⟨rfl, rfl⟩ | rfl
      · have hb := tb_lt e 0
        have h2 : e / 2 < 2 ^ f := by rw [Nat.pow_succ] at he; omega
        have hms : s * s % p < p := Nat.mod_lt _ (by omega)
        have hma : a * s % p < p := Nat.mod_lt _ (by omega)
        simp (disch := first | omega | assumption) only [r_X11_over_0, r_X11_over_1, r_X11_over_2, r_X11_over_5, r_X11_over_6, r_X11_over_7, r_X11_over_8, r_X11_over_9, r_X11_over_11, r_X11_over_12, r_X11_over_15, r_X11_over_16, r_X11_over_17, r_X11_over_21, r_X11_over_24, r_X11_over_26, r_X11_over_27, r_X11_over_28, r_X11_over_29, r_X11_over_32, r_X11_over_33, r_X11_over_35, r_X11_over_36, r_X11_over_37, r_X11_over_40, r_X11_over_41, r_X11_over_42, r_X11_over_45, r_X11_over_46, r_X11_over_47, r_X11_over_49, r_X11_over_51, r_X11_over_52, r_X11_over_53, r_X11_over_56, r_X11_over_57, r_X11_over_58, r_X11_over_60, r_X11_over_62, r_X11_over_63, r_X11_over_64, r_X11_over_66, r_X11_over_69, r_X11_over_70, gF_0, gF_1, gF_2, gF_3, gF_4, gF_5, gF_6, gF_7, gF_8, gF_9, gF_10, gF_11, gF_12, gF_13, gF_14, gF_15, gF_16, gF_17, pF_0, pF_1, pF_2, pF_3, pF_4, pF_5, pF_6, pF_7, pF_8, pF_9, pF_10, pF_11, pF_12, pF_13, pF_14, pF_15, pF_16, pF_17, gI_of, gL_of, gR_of, sI_of, sL_of, gN_of, gO_of, cl_i, cl_r, cl_l, cl_n, pu_s, pu_n, rV_s, hg_same, hg_ne, if_true, if_false, true_and, and_true, ne_eq, not_false_eq_true, not_true_eq_false, eq_self, reduceCtorEq, Nat.reduceAdd, nI_add, n_mul, n_sub, n_div, n_dec, n_dif, n_shl1, n_bit, n_eq0, n_0eq, n_eq, n_lt, n_le, n_lt0, n_ge0, n_gt0, n_le0, n_em1, n_m1e, n_m1lt0, n_m1ge0, n_m1gt0, n_m1eq0, n_m1lt, bI_eq0, bI_ne0, tb_eq0, tb_eq1, hz, n_bit0, n_half, h0, nI_lI, lI_mr, hpn]
        rw [pw, if_neg hz]
        cases c1 : e.testBit 0 with
        | true =>
          have hq : (tb e 0 = 1) = True := by rw [tb_eq1, c1]; exact eq_true rfl
          simp only [hq, c1, eq_self, if_true, if_false, reduceCtorEq, not_true_eq_false, not_false_eq_true]
          exact ih _ _ _ h2 (by omega) hma hms
        | false =>
          have hq : (tb e 0 = 1) = False := by rw [tb_eq1, c1]; exact eq_false (by decide)
          simp only [hq, c1, eq_self, if_true, if_false, reduceCtorEq, not_true_eq_false, not_false_eq_true]
          exact ih _ _ _ h2 (by omega) ha hms
  exact key 16 (p - 2) 1 v (by omega) (by omega) (by omega) hv
