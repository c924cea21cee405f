/-- of the numbers below k that q allows the one of least weight, of like ones the least -/
def lo (q : Nat → Bool) (w : Nat → Nat) : Nat → Option Nat
  | 0 => none
  | k + 1 => if q k = true then (match lo q w k with | none => some k | some b => if w k < w b then some k else some b) else lo q w k
def ov : Option Nat → Int32
  | none => -1
  | some b => nI b
theorem lo_lt {q : Nat → Bool} {w : Nat → Nat} : ∀ k b, lo q w k = some b → b < k ∧ q b = true := by
  intro k
  induction k with
  | zero => intro b h; cases h
  | succ k ih =>
    intro b h
    rw [lo] at h
    by_cases hq : q k = true
    · rw [if_pos hq] at h
      cases hl : lo q w k with
      | none => rw [hl] at h; simp only at h; cases h; exact ⟨by omega, hq⟩
      | some c =>
        rw [hl] at h
        simp only at h
        have := ih c hl
        by_cases hw : w k < w c
        · rw [if_pos hw] at h; cases h; exact ⟨by omega, hq⟩
        · rw [if_neg hw] at h; cases h; exact ⟨by omega, this.2⟩
    · rw [if_neg hq] at h
      have := ih b h
      exact ⟨by omega, this.2⟩
theorem lo_some {q : Nat → Bool} {w : Nat → Nat} : ∀ k i, i < k → q i = true → ∃ b, lo q w k = some b := by
  intro k
  induction k with
  | zero => intro i hi; omega
  | succ k ih =>
    intro i hi hq
    rw [lo]
    by_cases hk : q k = true
    · rw [if_pos hk]
      cases lo q w k with
      | none => exact ⟨k, rfl⟩
      | some c =>
        by_cases hw : w k < w c
        · exact ⟨k, if_pos hw⟩
        · exact ⟨c, if_neg hw⟩
    · rw [if_neg hk]
      have : i ≠ k := fun e => hk (e ▸ hq)
      exact ih i (by omega) hq
theorem lo_ext {q q' : Nat → Bool} {w w' : Nat → Nat} : ∀ k, (∀ i, i < k → q i = q' i) → (∀ i, i < k → q i = true → w i = w' i) → lo q w k = lo q' w' k := by
  intro k
  induction k with
  | zero => intro _ _; rfl
  | succ k ih =>
    intro h1 h2
    have ih := ih (fun i hi => h1 i (by omega)) (fun i hi => h2 i (by omega))
    rw [lo, lo, ← ih, ← h1 k (by omega)]
    by_cases hq : q k = true
    · rw [if_pos hq, if_pos hq]
      cases hl : lo q w k with
      | none => rfl
      | some c =>
        have hc := lo_lt k c hl
        simp only
        rw [h2 k (by omega) hq, h2 c (by omega) hc.2]
    · rw [if_neg hq, if_neg hq]
theorem sm_mono {f g : Nat → Nat} : ∀ n, (∀ i, i < n → f i ≤ g i) → sm f n ≤ sm g n := by
  intro n
  induction n with
  | zero => intro _; exact Nat.le_refl 0
  | succ n ih => intro h; rw [sm, sm]; have := ih (fun i hi => h i (by omega)); have := h n (by omega); omega
theorem pc_add1 (S g n : Nat) : pc (S ||| 2 ^ g) n ≤ pc S n + 1 := by
  have h : pc (S ||| 2 ^ g) n ≤ sm (fun i => tb S i + (if i = g then 1 else 0)) n := by
    rw [pc_sm]
    refine sm_mono n (fun i _ => ?_)
    unfold tb
    rw [tb_or_pow]
    by_cases e : i = g
    · simp [e]
    · simp [e]
  rw [sm_add, ← pc_sm, sm_one] at h
  split at h <;> omega
theorem pc_all {S n : Nat} (h : ∀ i, i < n → S.testBit i = true) : pc S n = n := by
  induction n with
  | zero => rfl
  | succ n ih => rw [pc, ih (fun i hi => h i (by omega)), tb_1 (h n (by omega))]
theorem gb_pc (o : Nat → Nat) (n : Nat) : ∀ k, pc (gb o k) n ≤ k := by
  intro k
  induction k with
  | zero =>
    show pc 0 n ≤ 0
    rw [pc_sm, sm_0 n (fun i _ => tb_0 (Nat.zero_testBit i))]
    exact Nat.le_refl 0
  | succ k ih =>
    rw [gb_s]
    have := pc_add1 (gb o k) (o k) n
    omega
theorem ex_free {o : Nat → Nat} {n k : Nat} (hk : k < n) : ∃ v, v < n ∧ (gb o k).testBit v = false := by
  apply Classical.byContradiction
  intro h
  have h1 : pc (gb o k) n = n := pc_all (fun i hi => by
    cases hb : (gb o k).testBit i with
    | true => rfl
    | false => exact absurd ⟨i, hi, hb⟩ h)
  have h2 := gb_pc o n k
  omega
theorem perm_of {o : Nat → Nat} {n : Nat} (h : ∀ k, k < n → o k < n ∧ (gb o k).testBit (o k) = false) : perm n o := by
  have key : ∀ i j, i < j → j < n → o i ≠ o j := fun i j hij hj e => by
    have h1 := (h j hj).2
    have h2 : (gb o j).testBit (o j) = true := (gb_tb o j (o j)).mpr ⟨i, hij, e⟩
    rw [h1] at h2; cases h2
  refine ⟨fun i hi => (h i hi).1, fun i j hi hj e => ?_⟩
  by_cases h1 : i < j
  · exact absurd e (key i j h1 hj)
  · by_cases h2 : j < i
    · exact absurd e.symm (key j i h2 hi)
    · omega
/-- the numbers below n that are not in a set -/
def cpl (n S : Nat) : Nat := mk (fun i => !S.testBit i) n
theorem cpl_tb (n S i : Nat) : (cpl n S).testBit i = (decide (i < n) && !S.testBit i) := mk_tb _ _ _
theorem cpl_lt (n S : Nat) : cpl n S < 2 ^ n := mk_lt _ _
theorem cpl_0 (n : Nat) : 2 ^ n - 1 = cpl n 0 := by
  apply tb_ext
  intro i
  rw [cpl_tb, Nat.testBit_two_pow_sub_one, Nat.zero_testBit]
  simp
theorem cpl_df {n S T : Nat} (hn : n ≤ 20) : df (cpl n S) T = cpl n (S ||| T) := by
  apply tb_ext
  intro i
  rw [tb_df (Nat.lt_trans (pow20 hn (cpl_lt n S)) (by decide)), cpl_tb, cpl_tb, Nat.testBit_or]
  cases decide (i < n) <;> cases S.testBit i <;> cases T.testBit i <;> rfl
/-- the next node by least degree -/
noncomputable def dgL (G : Nat → Nat) (n S : Nat) : Option Nat := lo (fun i => !S.testBit i) (fun i => pc (es G n S i) 20) n
noncomputable def dgS (G : Nat → Nat) (n : Nat) : Nat → Nat
  | 0 => 0
  | k + 1 => dgS G n k ||| 2 ^ ((dgL G n (dgS G n k)).getD 0)
noncomputable def dgO (G : Nat → Nat) (n k : Nat) : Nat := (dgL G n (dgS G n k)).getD 0
theorem dgS_gb (G : Nat → Nat) (n : Nat) : ∀ k, dgS G n k = gb (dgO G n) k := by
  intro k
  induction k with
  | zero => rfl
  | succ k ih => rw [dgS, gb_s, ← ih]; rfl
theorem dg_some {G : Nat → Nat} {n k : Nat} (hk : k < n) : dgL G n (gb (dgO G n) k) = some (dgO G n k) ∧ dgO G n k < n ∧ (gb (dgO G n) k).testBit (dgO G n k) = false := by
  obtain ⟨v, h1, h2⟩ := ex_free (o := dgO G n) hk
  obtain ⟨b, hb⟩ := lo_some (q := fun i => !(gb (dgO G n) k).testBit i) (w := fun i => pc (es G n (gb (dgO G n) k) i) 20) n v h1 (by rw [h2]; rfl)
  have hb' : dgL G n (gb (dgO G n) k) = some b := hb
  have e : dgO G n k = b := by
    show (dgL G n (dgS G n k)).getD 0 = b
    rw [dgS_gb, hb']; rfl
  have hl := lo_lt n b hb
  rw [e]
  refine ⟨hb', hl.1, ?_⟩
  have := hl.2
  cases hx : (gb (dgO G n) k).testBit b with
  | false => rfl
  | true => rw [hx] at this; cases this
theorem dg_perm (G : Nat → Nat) (n : Nat) : perm n (dgO G n) := perm_of (fun k hk => (dg_some hk).2)
theorem x_degree {d n a S i : Nat} {v : Int32} {G : Nat → Nat} {h : j_H} {Q : Option Value → j_H → Prop} (ha : hg h a = some (oB 3 [.int v, .ref (a + 1)])) (hN : nr h (a + 1) 20 n G S) (hn : n ≤ 20) (hi : i < n) (hS : S.testBit i = false) : WP (d + 1) mX3_degree 0 [some (.ref a), some (.int (nI i))] [] h Q = Q (some (.int (nI (pc (es G n S i) 20)))) h := by
  obtain ⟨f, f1, f2⟩ := hN
  have ei : f i = nI (es G n S i) := f2 i hi hS
  have hl := pow20 hn (es_lt G n S i)
  simp (disch := first | omega | assumption) only [r_X3_degree_0, r_X3_degree_1, r_X3_degree_4, r_X3_degree_5, r_X3_degree_6, r_X3_degree_9, gF_0, gF_1, gF_2, gF_3, gF_4, gF_5, gF_6, gF_7, gF_8, gF_9, gF_10, gF_11, gF_12, gF_13, gF_14, gF_15, gF_16, gF_17, pF_0, pF_1, pF_2, pF_3, pF_4, pF_5, pF_6, pF_7, pF_8, pF_9, pF_10, pF_11, pF_12, pF_13, pF_14, pF_15, pF_16, pF_17, gI_of, gL_of, gR_of, sI_of, sL_of, gN_of, gO_of, cl_i, cl_r, cl_l, cl_n, pu_s, pu_n, rV_s, hg_same, hg_ne, if_true, if_false, true_and, and_true, ne_eq, not_false_eq_true, not_true_eq_false, eq_self, reduceCtorEq, Nat.reduceAdd, nI_add, n_mul, n_sub, n_div, n_dec, n_dif, n_shl1, n_bit, n_eq0, n_0eq, n_eq, n_lt, n_le, n_lt0, n_ge0, n_gt0, n_le0, n_em1, n_m1e, n_m1lt0, n_m1ge0, n_m1gt0, n_m1eq0, n_m1lt, bI_eq0, bI_ne0, tb_eq0, tb_eq1, ha, f1, ei, x_bitCount]
theorem x_loneliest {d n a S A : Nat} {G : Nat → Nat} {h : j_H} {Q : Option Value → j_H → Prop} (ha : hg h a = some (oB 3 [.int (nI n), .ref (a + 1)])) (hN : nr h (a + 1) 20 n G S) (hn : n ≤ 20) (hA : A < 2 ^ 20) (hAS : ∀ i, i < n → A.testBit i = true → S.testBit i = false) : WP (d + 2) mX3_loneliest 0 [some (.ref a), some (.int (nI A)), none, none] [] h Q = Q (some (.int (ov (lo (fun i => A.testBit i) (fun i => pc (es G n S i) 20) n)))) h := by
  simp (disch := first | omega | assumption) only [r_X3_loneliest_0, r_X3_loneliest_1, r_X3_loneliest_2, r_X3_loneliest_3, r_X3_loneliest_5, r_X3_loneliest_6, r_X3_loneliest_9, r_X3_loneliest_12, r_X3_loneliest_13, r_X3_loneliest_14, r_X3_loneliest_17, r_X3_loneliest_20, r_X3_loneliest_21, r_X3_loneliest_22, r_X3_loneliest_25, r_X3_loneliest_26, r_X3_loneliest_27, r_X3_loneliest_30, r_X3_loneliest_31, r_X3_loneliest_32, r_X3_loneliest_35, r_X3_loneliest_38, r_X3_loneliest_39, r_X3_loneliest_40, r_X3_loneliest_43, r_X3_loneliest_46, r_X3_loneliest_47, gF_0, gF_1, gF_2, gF_3, gF_4, gF_5, gF_6, gF_7, gF_8, gF_9, gF_10, gF_11, gF_12, gF_13, gF_14, gF_15, gF_16, gF_17, pF_0, pF_1, pF_2, pF_3, pF_4, pF_5, pF_6, pF_7, pF_8, pF_9, pF_10, pF_11, pF_12, pF_13, pF_14, pF_15, pF_16, pF_17, gI_of, gL_of, gR_of, sI_of, sL_of, gN_of, gO_of, cl_i, cl_r, cl_l, cl_n, pu_s, pu_n, rV_s, hg_same, hg_ne, if_true, if_false, true_and, and_true, ne_eq, not_false_eq_true, not_true_eq_false, eq_self, reduceCtorEq, Nat.reduceAdd, nI_add, n_mul, n_sub, n_div, n_dec, n_dif, n_shl1, n_bit, n_eq0, n_0eq, n_eq, n_lt, n_le, n_lt0, n_ge0, n_gt0, n_le0, n_em1, n_m1e, n_m1lt0, n_m1ge0, n_m1gt0, n_m1eq0, n_m1lt, bI_eq0, bI_ne0, tb_eq0, tb_eq1, ha]
  have key : ∀ i, i ≤ n → WP (d + 2) mX3_loneliest 4 [some (.ref a), some (.int (nI A)), some (.int (ov (lo (fun i => A.testBit i) (fun i => pc (es G n S i) 20) i))), some (.int (nI i))] [] h Q = Q (some (.int (ov (lo (fun i => A.testBit i) (fun i => pc (es G n S i) 20) n)))) h := by
    refine lup (P := fun i => WP (d + 2) mX3_loneliest 4 [some (.ref a), some (.int (nI A)), some (.int (ov (lo (fun i => A.testBit i) (fun i => pc (es G n S i) 20) i))), some (.int (nI i))] [] h Q = Q (some (.int (ov (lo (fun i => A.testBit i) (fun i => pc (es G n S i) 20) n)))) h) ?_ ?_
    · rw [r_X3_loneliest_4]
      simp (disch := first | omega | assumption) only [r_X3_loneliest_0, r_X3_loneliest_1, r_X3_loneliest_2, r_X3_loneliest_3, r_X3_loneliest_5, r_X3_loneliest_6, r_X3_loneliest_9, r_X3_loneliest_12, r_X3_loneliest_13, r_X3_loneliest_14, r_X3_loneliest_17, r_X3_loneliest_20, r_X3_loneliest_21, r_X3_loneliest_22, r_X3_loneliest_25, r_X3_loneliest_26, r_X3_loneliest_27, r_X3_loneliest_30, r_X3_loneliest_31, r_X3_loneliest_32, r_X3_loneliest_35, r_X3_loneliest_38, r_X3_loneliest_39, r_X3_loneliest_40, r_X3_loneliest_43, r_X3_loneliest_46, r_X3_loneliest_47, gF_0, gF_1, gF_2, gF_3, gF_4, gF_5, gF_6, gF_7, gF_8, gF_9, gF_10, gF_11, gF_12, gF_13, gF_14, gF_15, gF_16, gF_17, pF_0, pF_1, pF_2, pF_3, pF_4, pF_5, pF_6, pF_7, pF_8, pF_9, pF_10, pF_11, pF_12, pF_13, pF_14, pF_15, pF_16, pF_17, gI_of, gL_of, gR_of, sI_of, sL_of, gN_of, gO_of, cl_i, cl_r, cl_l, cl_n, pu_s, pu_n, rV_s, hg_same, hg_ne, if_true, if_false, true_and, and_true, ne_eq, not_false_eq_true, not_true_eq_false, eq_self, reduceCtorEq, Nat.reduceAdd, nI_add, n_mul, n_sub, n_div, n_dec, n_dif, n_shl1, n_bit, n_eq0, n_0eq, n_eq, n_lt, n_le, n_lt0, n_ge0, n_gt0, n_le0, n_em1, n_m1e, n_m1lt0, n_m1ge0, n_m1gt0, n_m1eq0, n_m1lt, bI_eq0, bI_ne0, tb_eq0, tb_eq1, Nat.le_refl, ha]
    · intro i hi ih
      rw [lo] at ih
      have hlt := lo_lt (q := fun i => A.testBit i) (w := fun i => pc (es G n S i) 20) i
      rw [r_X3_loneliest_4]
      cases hb : A.testBit i with
      | false =>
        simp only [hb, Bool.false_eq_true, if_false] at ih
        simp (disch := first | omega | assumption) only [r_X3_loneliest_0, r_X3_loneliest_1, r_X3_loneliest_2, r_X3_loneliest_3, r_X3_loneliest_5, r_X3_loneliest_6, r_X3_loneliest_9, r_X3_loneliest_12, r_X3_loneliest_13, r_X3_loneliest_14, r_X3_loneliest_17, r_X3_loneliest_20, r_X3_loneliest_21, r_X3_loneliest_22, r_X3_loneliest_25, r_X3_loneliest_26, r_X3_loneliest_27, r_X3_loneliest_30, r_X3_loneliest_31, r_X3_loneliest_32, r_X3_loneliest_35, r_X3_loneliest_38, r_X3_loneliest_39, r_X3_loneliest_40, r_X3_loneliest_43, r_X3_loneliest_46, r_X3_loneliest_47, gF_0, gF_1, gF_2, gF_3, gF_4, gF_5, gF_6, gF_7, gF_8, gF_9, gF_10, gF_11, gF_12, gF_13, gF_14, gF_15, gF_16, gF_17, pF_0, pF_1, pF_2, pF_3, pF_4, pF_5, pF_6, pF_7, pF_8, pF_9, pF_10, pF_11, pF_12, pF_13, pF_14, pF_15, pF_16, pF_17, gI_of, gL_of, gR_of, sI_of, sL_of, gN_of, gO_of, cl_i, cl_r, cl_l, cl_n, pu_s, pu_n, rV_s, hg_same, hg_ne, if_true, if_false, true_and, and_true, ne_eq, not_false_eq_true, not_true_eq_false, eq_self, reduceCtorEq, Nat.reduceAdd, nI_add, n_mul, n_sub, n_div, n_dec, n_dif, n_shl1, n_bit, n_eq0, n_0eq, n_eq, n_lt, n_le, n_lt0, n_ge0, n_gt0, n_le0, n_em1, n_m1e, n_m1lt0, n_m1ge0, n_m1gt0, n_m1eq0, n_m1lt, bI_eq0, bI_ne0, tb_eq0, tb_eq1, show ¬ n ≤ i by omega, ha, x_has, hb, Bool.false_eq_true]
        exact ih
      | true =>
        simp only [hb, if_true] at ih
        have hSi := hAS i hi hb
        cases hl : lo (fun i => A.testBit i) (fun i => pc (es G n S i) 20) i with
        | none =>
          rw [hl] at ih
          simp only [ov] at ih ⊢
          simp (disch := first | omega | assumption) only [r_X3_loneliest_0, r_X3_loneliest_1, r_X3_loneliest_2, r_X3_loneliest_3, r_X3_loneliest_5, r_X3_loneliest_6, r_X3_loneliest_9, r_X3_loneliest_12, r_X3_loneliest_13, r_X3_loneliest_14, r_X3_loneliest_17, r_X3_loneliest_20, r_X3_loneliest_21, r_X3_loneliest_22, r_X3_loneliest_25, r_X3_loneliest_26, r_X3_loneliest_27, r_X3_loneliest_30, r_X3_loneliest_31, r_X3_loneliest_32, r_X3_loneliest_35, r_X3_loneliest_38, r_X3_loneliest_39, r_X3_loneliest_40, r_X3_loneliest_43, r_X3_loneliest_46, r_X3_loneliest_47, gF_0, gF_1, gF_2, gF_3, gF_4, gF_5, gF_6, gF_7, gF_8, gF_9, gF_10, gF_11, gF_12, gF_13, gF_14, gF_15, gF_16, gF_17, pF_0, pF_1, pF_2, pF_3, pF_4, pF_5, pF_6, pF_7, pF_8, pF_9, pF_10, pF_11, pF_12, pF_13, pF_14, pF_15, pF_16, pF_17, gI_of, gL_of, gR_of, sI_of, sL_of, gN_of, gO_of, cl_i, cl_r, cl_l, cl_n, pu_s, pu_n, rV_s, hg_same, hg_ne, if_true, if_false, true_and, and_true, ne_eq, not_false_eq_true, not_true_eq_false, eq_self, reduceCtorEq, Nat.reduceAdd, nI_add, n_mul, n_sub, n_div, n_dec, n_dif, n_shl1, n_bit, n_eq0, n_0eq, n_eq, n_lt, n_le, n_lt0, n_ge0, n_gt0, n_le0, n_em1, n_m1e, n_m1lt0, n_m1ge0, n_m1gt0, n_m1eq0, n_m1lt, bI_eq0, bI_ne0, tb_eq0, tb_eq1, show ¬ n ≤ i by omega, ha, x_has, hb]
          exact ih
        | some c =>
          have hc := hlt c hl
          have hSc := hAS c (by omega) hc.2
          have p1 := pc_le (es G n S i) 20
          have p2 := pc_le (es G n S c) 20
          rw [hl] at ih
          simp only [ov] at ih ⊢
          by_cases hw : pc (es G n S i) 20 < pc (es G n S c) 20
          · rw [if_pos hw] at ih
            simp only [ov] at ih
            simp (disch := first | omega | assumption) only [r_X3_loneliest_0, r_X3_loneliest_1, r_X3_loneliest_2, r_X3_loneliest_3, r_X3_loneliest_5, r_X3_loneliest_6, r_X3_loneliest_9, r_X3_loneliest_12, r_X3_loneliest_13, r_X3_loneliest_14, r_X3_loneliest_17, r_X3_loneliest_20, r_X3_loneliest_21, r_X3_loneliest_22, r_X3_loneliest_25, r_X3_loneliest_26, r_X3_loneliest_27, r_X3_loneliest_30, r_X3_loneliest_31, r_X3_loneliest_32, r_X3_loneliest_35, r_X3_loneliest_38, r_X3_loneliest_39, r_X3_loneliest_40, r_X3_loneliest_43, r_X3_loneliest_46, r_X3_loneliest_47, gF_0, gF_1, gF_2, gF_3, gF_4, gF_5, gF_6, gF_7, gF_8, gF_9, gF_10, gF_11, gF_12, gF_13, gF_14, gF_15, gF_16, gF_17, pF_0, pF_1, pF_2, pF_3, pF_4, pF_5, pF_6, pF_7, pF_8, pF_9, pF_10, pF_11, pF_12, pF_13, pF_14, pF_15, pF_16, pF_17, gI_of, gL_of, gR_of, sI_of, sL_of, gN_of, gO_of, cl_i, cl_r, cl_l, cl_n, pu_s, pu_n, rV_s, hg_same, hg_ne, if_true, if_false, true_and, and_true, ne_eq, not_false_eq_true, not_true_eq_false, eq_self, reduceCtorEq, Nat.reduceAdd, nI_add, n_mul, n_sub, n_div, n_dec, n_dif, n_shl1, n_bit, n_eq0, n_0eq, n_eq, n_lt, n_le, n_lt0, n_ge0, n_gt0, n_le0, n_em1, n_m1e, n_m1lt0, n_m1ge0, n_m1gt0, n_m1eq0, n_m1lt, bI_eq0, bI_ne0, tb_eq0, tb_eq1, show ¬ n ≤ i by omega, ha, x_has, hb, x_degree ha hN hn hi hSi, x_degree ha hN hn (show c < n by omega) hSc, show ¬ pc (es G n S c) 20 ≤ pc (es G n S i) 20 by omega]
            exact ih
          · rw [if_neg hw] at ih
            simp only [ov] at ih
            simp (disch := first | omega | assumption) only [r_X3_loneliest_0, r_X3_loneliest_1, r_X3_loneliest_2, r_X3_loneliest_3, r_X3_loneliest_5, r_X3_loneliest_6, r_X3_loneliest_9, r_X3_loneliest_12, r_X3_loneliest_13, r_X3_loneliest_14, r_X3_loneliest_17, r_X3_loneliest_20, r_X3_loneliest_21, r_X3_loneliest_22, r_X3_loneliest_25, r_X3_loneliest_26, r_X3_loneliest_27, r_X3_loneliest_30, r_X3_loneliest_31, r_X3_loneliest_32, r_X3_loneliest_35, r_X3_loneliest_38, r_X3_loneliest_39, r_X3_loneliest_40, r_X3_loneliest_43, r_X3_loneliest_46, r_X3_loneliest_47, gF_0, gF_1, gF_2, gF_3, gF_4, gF_5, gF_6, gF_7, gF_8, gF_9, gF_10, gF_11, gF_12, gF_13, gF_14, gF_15, gF_16, gF_17, pF_0, pF_1, pF_2, pF_3, pF_4, pF_5, pF_6, pF_7, pF_8, pF_9, pF_10, pF_11, pF_12, pF_13, pF_14, pF_15, pF_16, pF_17, gI_of, gL_of, gR_of, sI_of, sL_of, gN_of, gO_of, cl_i, cl_r, cl_l, cl_n, pu_s, pu_n, rV_s, hg_same, hg_ne, if_true, if_false, true_and, and_true, ne_eq, not_false_eq_true, not_true_eq_false, eq_self, reduceCtorEq, Nat.reduceAdd, nI_add, n_mul, n_sub, n_div, n_dec, n_dif, n_shl1, n_bit, n_eq0, n_0eq, n_eq, n_lt, n_le, n_lt0, n_ge0, n_gt0, n_le0, n_em1, n_m1e, n_m1lt0, n_m1ge0, n_m1gt0, n_m1eq0, n_m1lt, bI_eq0, bI_ne0, tb_eq0, tb_eq1, show ¬ n ≤ i by omega, ha, x_has, hb, x_degree ha hN hn hi hSi, x_degree ha hN hn (show c < n by omega) hSc, show pc (es G n S c) 20 ≤ pc (es G n S i) 20 by omega]
            exact ih
  exact key 0 (by omega)
theorem x_byLeastDegree {d n : Nat} {C : Nat → Nat → Int32} {h : j_H} {Q : Option Value → j_H → Prop} (hT : xT h n C) (h35 : hg h 35 = some (oB 8 [.ref 36])) (h36 : isI h 36 20) (hD : xD h) (hn : 1 ≤ n ∧ n ≤ 20) (hz : ∀ a b, (n ≤ a ∨ n ≤ b) → C a b = 0)
    (k : ∀ h1, hI h1 36 20 n (fun i => nI (dgO (jo C) n i)) → xD h1 → Sm (fun b => b = 36 ∨ b = 45 ∨ b = 46) h h1 → Q none h1) : WP (d + 3) mX6_byLeastDegree 0 [some (.ref 44), some (.ref 2), some (.ref 35), none, none, none] [] h Q := by
  obtain ⟨e44, ⟨v, e45⟩, e46⟩ := hD
  have x2 := hT.1
  have hG := jo_ok hn.2 hz
  simp (disch := first | omega | assumption) only [r_X6_byLeastDegree_0, r_X6_byLeastDegree_1, r_X6_byLeastDegree_4, r_X6_byLeastDegree_5, r_X6_byLeastDegree_8, r_X6_byLeastDegree_9, r_X6_byLeastDegree_12, r_X6_byLeastDegree_15, r_X6_byLeastDegree_16, r_X6_byLeastDegree_17, r_X6_byLeastDegree_18, r_X6_byLeastDegree_19, r_X6_byLeastDegree_23, r_X6_byLeastDegree_24, r_X6_byLeastDegree_27, r_X6_byLeastDegree_30, r_X6_byLeastDegree_31, r_X6_byLeastDegree_34, r_X6_byLeastDegree_35, r_X6_byLeastDegree_38, r_X6_byLeastDegree_40, r_X6_byLeastDegree_42, r_X6_byLeastDegree_43, r_X6_byLeastDegree_46, r_X6_byLeastDegree_47, r_X6_byLeastDegree_48, r_X6_byLeastDegree_51, r_X6_byLeastDegree_53, r_X6_byLeastDegree_56, r_X6_byLeastDegree_57, r_X6_byLeastDegree_58, r_X6_byLeastDegree_60, r_X6_byLeastDegree_63, r_X6_byLeastDegree_64, r_X6_byLeastDegree_65, r_X6_byLeastDegree_66, r_X6_byLeastDegree_67, r_X6_byLeastDegree_68, r_X6_byLeastDegree_71, r_X6_byLeastDegree_73, r_X6_byLeastDegree_75, r_X6_byLeastDegree_76, r_X6_byLeastDegree_79, r_X6_byLeastDegree_82, gF_0, gF_1, gF_2, gF_3, gF_4, gF_5, gF_6, gF_7, gF_8, gF_9, gF_10, gF_11, gF_12, gF_13, gF_14, gF_15, gF_16, gF_17, pF_0, pF_1, pF_2, pF_3, pF_4, pF_5, pF_6, pF_7, pF_8, pF_9, pF_10, pF_11, pF_12, pF_13, pF_14, pF_15, pF_16, pF_17, gI_of, gL_of, gR_of, sI_of, sL_of, gN_of, gO_of, cl_i, cl_r, cl_l, cl_n, pu_s, pu_n, rV_s, hg_same, hg_ne, if_true, if_false, true_and, and_true, ne_eq, not_false_eq_true, not_true_eq_false, eq_self, reduceCtorEq, Nat.reduceAdd, nI_add, n_mul, n_sub, n_div, n_dec, n_dif, n_shl1, n_bit, n_eq0, n_0eq, n_eq, n_lt, n_le, n_lt0, n_ge0, n_gt0, n_le0, n_em1, n_m1e, n_m1lt0, n_m1ge0, n_m1gt0, n_m1eq0, n_m1lt, bI_eq0, bI_ne0, tb_eq0, tb_eq1, e44, e45]
  refine x_gload (a := 45) hT e45 e46 (by omega) hn.2 (fun h1 g45 g46 S1 => ?_)
  have y2 := (S1.at (b := 2) (by omega)).trans x2
  obtain ⟨f36, q36⟩ := h36.keep (S1.at (b := 36) (by omega))
  have hpw : 1 ≤ 2 ^ n := Nat.two_pow_pos n
  simp (disch := first | omega | assumption) only [r_X6_byLeastDegree_0, r_X6_byLeastDegree_1, r_X6_byLeastDegree_4, r_X6_byLeastDegree_5, r_X6_byLeastDegree_8, r_X6_byLeastDegree_9, r_X6_byLeastDegree_12, r_X6_byLeastDegree_15, r_X6_byLeastDegree_16, r_X6_byLeastDegree_17, r_X6_byLeastDegree_18, r_X6_byLeastDegree_19, r_X6_byLeastDegree_23, r_X6_byLeastDegree_24, r_X6_byLeastDegree_27, r_X6_byLeastDegree_30, r_X6_byLeastDegree_31, r_X6_byLeastDegree_34, r_X6_byLeastDegree_35, r_X6_byLeastDegree_38, r_X6_byLeastDegree_40, r_X6_byLeastDegree_42, r_X6_byLeastDegree_43, r_X6_byLeastDegree_46, r_X6_byLeastDegree_47, r_X6_byLeastDegree_48, r_X6_byLeastDegree_51, r_X6_byLeastDegree_53, r_X6_byLeastDegree_56, r_X6_byLeastDegree_57, r_X6_byLeastDegree_58, r_X6_byLeastDegree_60, r_X6_byLeastDegree_63, r_X6_byLeastDegree_64, r_X6_byLeastDegree_65, r_X6_byLeastDegree_66, r_X6_byLeastDegree_67, r_X6_byLeastDegree_68, r_X6_byLeastDegree_71, r_X6_byLeastDegree_73, r_X6_byLeastDegree_75, r_X6_byLeastDegree_76, r_X6_byLeastDegree_79, r_X6_byLeastDegree_82, gF_0, gF_1, gF_2, gF_3, gF_4, gF_5, gF_6, gF_7, gF_8, gF_9, gF_10, gF_11, gF_12, gF_13, gF_14, gF_15, gF_16, gF_17, pF_0, pF_1, pF_2, pF_3, pF_4, pF_5, pF_6, pF_7, pF_8, pF_9, pF_10, pF_11, pF_12, pF_13, pF_14, pF_15, pF_16, pF_17, gI_of, gL_of, gR_of, sI_of, sL_of, gN_of, gO_of, cl_i, cl_r, cl_l, cl_n, pu_s, pu_n, rV_s, hg_same, hg_ne, if_true, if_false, true_and, and_true, ne_eq, not_false_eq_true, not_true_eq_false, eq_self, reduceCtorEq, Nat.reduceAdd, nI_add, n_mul, n_sub, n_div, n_dec, n_dif, n_shl1, n_bit, n_eq0, n_0eq, n_eq, n_lt, n_le, n_lt0, n_ge0, n_gt0, n_le0, n_em1, n_m1e, n_m1lt0, n_m1ge0, n_m1gt0, n_m1eq0, n_m1lt, bI_eq0, bI_ne0, tb_eq0, tb_eq1, y2, x_bit, cpl_0]
  have N0 := nr_0 hG g46
  generalize jo C = G at *
  have key : ∀ c, c ≤ n → ∀ h' x5 f, Sm (fun b => b = 36 ∨ b = 45 ∨ b = 46) h h' → hg h' 45 = some (oB 3 [.int (nI n), .ref 46]) → nr h' 46 20 n G (gb (dgO G n) c) → hg h' 36 = some (aI 20 f) → (∀ i, i < c → f i = nI (dgO G n i)) → WP (d + 3) mX6_byLeastDegree 21 [some (.ref 44), some (.ref 2), some (.ref 35), some (.int (nI (cpl n (gb (dgO G n) c)))), some (.int (nI c)), x5] [] h' Q := by
    refine lup (P := fun c => ∀ h' x5 f, Sm (fun b => b = 36 ∨ b = 45 ∨ b = 46) h h' → hg h' 45 = some (oB 3 [.int (nI n), .ref 46]) → nr h' 46 20 n G (gb (dgO G n) c) → hg h' 36 = some (aI 20 f) → (∀ i, i < c → f i = nI (dgO G n i)) → WP (d + 3) mX6_byLeastDegree 21 [some (.ref 44), some (.ref 2), some (.ref 35), some (.int (nI (cpl n (gb (dgO G n) c)))), some (.int (nI c)), x5] [] h' Q) ?_ ?_
    · intro h' x5 f hS z45 zN z36 w36
      have z2 := (hS.at (b := 2) (by omega)).trans x2
      have z44 := (hS.at (b := 44) (by omega)).trans e44
      rw [r_X6_byLeastDegree_21]
      simp (disch := first | omega | assumption) only [r_X6_byLeastDegree_0, r_X6_byLeastDegree_1, r_X6_byLeastDegree_4, r_X6_byLeastDegree_5, r_X6_byLeastDegree_8, r_X6_byLeastDegree_9, r_X6_byLeastDegree_12, r_X6_byLeastDegree_15, r_X6_byLeastDegree_16, r_X6_byLeastDegree_17, r_X6_byLeastDegree_18, r_X6_byLeastDegree_19, r_X6_byLeastDegree_23, r_X6_byLeastDegree_24, r_X6_byLeastDegree_27, r_X6_byLeastDegree_30, r_X6_byLeastDegree_31, r_X6_byLeastDegree_34, r_X6_byLeastDegree_35, r_X6_byLeastDegree_38, r_X6_byLeastDegree_40, r_X6_byLeastDegree_42, r_X6_byLeastDegree_43, r_X6_byLeastDegree_46, r_X6_byLeastDegree_47, r_X6_byLeastDegree_48, r_X6_byLeastDegree_51, r_X6_byLeastDegree_53, r_X6_byLeastDegree_56, r_X6_byLeastDegree_57, r_X6_byLeastDegree_58, r_X6_byLeastDegree_60, r_X6_byLeastDegree_63, r_X6_byLeastDegree_64, r_X6_byLeastDegree_65, r_X6_byLeastDegree_66, r_X6_byLeastDegree_67, r_X6_byLeastDegree_68, r_X6_byLeastDegree_71, r_X6_byLeastDegree_73, r_X6_byLeastDegree_75, r_X6_byLeastDegree_76, r_X6_byLeastDegree_79, r_X6_byLeastDegree_82, gF_0, gF_1, gF_2, gF_3, gF_4, gF_5, gF_6, gF_7, gF_8, gF_9, gF_10, gF_11, gF_12, gF_13, gF_14, gF_15, gF_16, gF_17, pF_0, pF_1, pF_2, pF_3, pF_4, pF_5, pF_6, pF_7, pF_8, pF_9, pF_10, pF_11, pF_12, pF_13, pF_14, pF_15, pF_16, pF_17, gI_of, gL_of, gR_of, sI_of, sL_of, gN_of, gO_of, cl_i, cl_r, cl_l, cl_n, pu_s, pu_n, rV_s, hg_same, hg_ne, if_true, if_false, true_and, and_true, ne_eq, not_false_eq_true, not_true_eq_false, eq_self, reduceCtorEq, Nat.reduceAdd, nI_add, n_mul, n_sub, n_div, n_dec, n_dif, n_shl1, n_bit, n_eq0, n_0eq, n_eq, n_lt, n_le, n_lt0, n_ge0, n_gt0, n_le0, n_em1, n_m1e, n_m1lt0, n_m1ge0, n_m1gt0, n_m1eq0, n_m1lt, bI_eq0, bI_ne0, tb_eq0, tb_eq1, Nat.le_refl, z2]
      refine k h' ⟨f, z36, w36⟩ ⟨z44, ⟨_, z45⟩, ?_⟩ hS
      obtain ⟨g, g1, -⟩ := zN
      exact ⟨g, g1⟩
    · intro c hc ih h' x5 f hS z45 zN z36 w36
      have z2 := (hS.at (b := 2) (by omega)).trans x2
      have z44 := (hS.at (b := 44) (by omega)).trans e44
      have z35 := (hS.at (b := 35) (by omega)).trans h35
      obtain ⟨s1, s2, s3⟩ := dg_some (G := G) hc
      have hcl := pow20 hn.2 (cpl_lt n (gb (dgO G n) c))
      have el : lo (fun i => (cpl n (gb (dgO G n) c)).testBit i) (fun i => pc (es G n (gb (dgO G n) c) i) 20) n = some (dgO G n c) := by
        rw [← s1]
        refine lo_ext n (fun i hi => ?_) (fun i _ _ => rfl)
        rw [cpl_tb]; simp [hi]
      rw [r_X6_byLeastDegree_21]
      simp (disch := first | omega | assumption) only [r_X6_byLeastDegree_0, r_X6_byLeastDegree_1, r_X6_byLeastDegree_4, r_X6_byLeastDegree_5, r_X6_byLeastDegree_8, r_X6_byLeastDegree_9, r_X6_byLeastDegree_12, r_X6_byLeastDegree_15, r_X6_byLeastDegree_16, r_X6_byLeastDegree_17, r_X6_byLeastDegree_18, r_X6_byLeastDegree_19, r_X6_byLeastDegree_23, r_X6_byLeastDegree_24, r_X6_byLeastDegree_27, r_X6_byLeastDegree_30, r_X6_byLeastDegree_31, r_X6_byLeastDegree_34, r_X6_byLeastDegree_35, r_X6_byLeastDegree_38, r_X6_byLeastDegree_40, r_X6_byLeastDegree_42, r_X6_byLeastDegree_43, r_X6_byLeastDegree_46, r_X6_byLeastDegree_47, r_X6_byLeastDegree_48, r_X6_byLeastDegree_51, r_X6_byLeastDegree_53, r_X6_byLeastDegree_56, r_X6_byLeastDegree_57, r_X6_byLeastDegree_58, r_X6_byLeastDegree_60, r_X6_byLeastDegree_63, r_X6_byLeastDegree_64, r_X6_byLeastDegree_65, r_X6_byLeastDegree_66, r_X6_byLeastDegree_67, r_X6_byLeastDegree_68, r_X6_byLeastDegree_71, r_X6_byLeastDegree_73, r_X6_byLeastDegree_75, r_X6_byLeastDegree_76, r_X6_byLeastDegree_79, r_X6_byLeastDegree_82, gF_0, gF_1, gF_2, gF_3, gF_4, gF_5, gF_6, gF_7, gF_8, gF_9, gF_10, gF_11, gF_12, gF_13, gF_14, gF_15, gF_16, gF_17, pF_0, pF_1, pF_2, pF_3, pF_4, pF_5, pF_6, pF_7, pF_8, pF_9, pF_10, pF_11, pF_12, pF_13, pF_14, pF_15, pF_16, pF_17, gI_of, gL_of, gR_of, sI_of, sL_of, gN_of, gO_of, cl_i, cl_r, cl_l, cl_n, pu_s, pu_n, rV_s, hg_same, hg_ne, if_true, if_false, true_and, and_true, ne_eq, not_false_eq_true, not_true_eq_false, eq_self, reduceCtorEq, Nat.reduceAdd, nI_add, n_mul, n_sub, n_div, n_dec, n_dif, n_shl1, n_bit, n_eq0, n_0eq, n_eq, n_lt, n_le, n_lt0, n_ge0, n_gt0, n_le0, n_em1, n_m1e, n_m1lt0, n_m1ge0, n_m1gt0, n_m1eq0, n_m1lt, bI_eq0, bI_ne0, tb_eq0, tb_eq1, show ¬ n ≤ c by omega, z2, z44, z45]
      rw [x_loneliest (a := 45) z45 zN hn.2 hcl (fun i hi hb => by
        rw [cpl_tb, Bool.and_eq_true, Bool.not_eq_true'] at hb
        exact hb.2), el]
      simp only [ov]
      simp (disch := first | omega | assumption) only [r_X6_byLeastDegree_0, r_X6_byLeastDegree_1, r_X6_byLeastDegree_4, r_X6_byLeastDegree_5, r_X6_byLeastDegree_8, r_X6_byLeastDegree_9, r_X6_byLeastDegree_12, r_X6_byLeastDegree_15, r_X6_byLeastDegree_16, r_X6_byLeastDegree_17, r_X6_byLeastDegree_18, r_X6_byLeastDegree_19, r_X6_byLeastDegree_23, r_X6_byLeastDegree_24, r_X6_byLeastDegree_27, r_X6_byLeastDegree_30, r_X6_byLeastDegree_31, r_X6_byLeastDegree_34, r_X6_byLeastDegree_35, r_X6_byLeastDegree_38, r_X6_byLeastDegree_40, r_X6_byLeastDegree_42, r_X6_byLeastDegree_43, r_X6_byLeastDegree_46, r_X6_byLeastDegree_47, r_X6_byLeastDegree_48, r_X6_byLeastDegree_51, r_X6_byLeastDegree_53, r_X6_byLeastDegree_56, r_X6_byLeastDegree_57, r_X6_byLeastDegree_58, r_X6_byLeastDegree_60, r_X6_byLeastDegree_63, r_X6_byLeastDegree_64, r_X6_byLeastDegree_65, r_X6_byLeastDegree_66, r_X6_byLeastDegree_67, r_X6_byLeastDegree_68, r_X6_byLeastDegree_71, r_X6_byLeastDegree_73, r_X6_byLeastDegree_75, r_X6_byLeastDegree_76, r_X6_byLeastDegree_79, r_X6_byLeastDegree_82, gF_0, gF_1, gF_2, gF_3, gF_4, gF_5, gF_6, gF_7, gF_8, gF_9, gF_10, gF_11, gF_12, gF_13, gF_14, gF_15, gF_16, gF_17, pF_0, pF_1, pF_2, pF_3, pF_4, pF_5, pF_6, pF_7, pF_8, pF_9, pF_10, pF_11, pF_12, pF_13, pF_14, pF_15, pF_16, pF_17, gI_of, gL_of, gR_of, sI_of, sL_of, gN_of, gO_of, cl_i, cl_r, cl_l, cl_n, pu_s, pu_n, rV_s, hg_same, hg_ne, if_true, if_false, true_and, and_true, ne_eq, not_false_eq_true, not_true_eq_false, eq_self, reduceCtorEq, Nat.reduceAdd, nI_add, n_mul, n_sub, n_div, n_dec, n_dif, n_shl1, n_bit, n_eq0, n_0eq, n_eq, n_lt, n_le, n_lt0, n_ge0, n_gt0, n_le0, n_em1, n_m1e, n_m1lt0, n_m1ge0, n_m1gt0, n_m1eq0, n_m1lt, bI_eq0, bI_ne0, tb_eq0, tb_eq1, z44, z45]
      refine x_take (a := 45) z45 zN hG hn.2 s2 s3 (fun h2 N2 S2 => ?_)
      have u35 := (S2.at (b := 35) (by omega)).trans z35
      have u36 := (S2.at (b := 36) (by omega)).trans z36
      simp (disch := first | omega | assumption) only [r_X6_byLeastDegree_0, r_X6_byLeastDegree_1, r_X6_byLeastDegree_4, r_X6_byLeastDegree_5, r_X6_byLeastDegree_8, r_X6_byLeastDegree_9, r_X6_byLeastDegree_12, r_X6_byLeastDegree_15, r_X6_byLeastDegree_16, r_X6_byLeastDegree_17, r_X6_byLeastDegree_18, r_X6_byLeastDegree_19, r_X6_byLeastDegree_23, r_X6_byLeastDegree_24, r_X6_byLeastDegree_27, r_X6_byLeastDegree_30, r_X6_byLeastDegree_31, r_X6_byLeastDegree_34, r_X6_byLeastDegree_35, r_X6_byLeastDegree_38, r_X6_byLeastDegree_40, r_X6_byLeastDegree_42, r_X6_byLeastDegree_43, r_X6_byLeastDegree_46, r_X6_byLeastDegree_47, r_X6_byLeastDegree_48, r_X6_byLeastDegree_51, r_X6_byLeastDegree_53, r_X6_byLeastDegree_56, r_X6_byLeastDegree_57, r_X6_byLeastDegree_58, r_X6_byLeastDegree_60, r_X6_byLeastDegree_63, r_X6_byLeastDegree_64, r_X6_byLeastDegree_65, r_X6_byLeastDegree_66, r_X6_byLeastDegree_67, r_X6_byLeastDegree_68, r_X6_byLeastDegree_71, r_X6_byLeastDegree_73, r_X6_byLeastDegree_75, r_X6_byLeastDegree_76, r_X6_byLeastDegree_79, r_X6_byLeastDegree_82, gF_0, gF_1, gF_2, gF_3, gF_4, gF_5, gF_6, gF_7, gF_8, gF_9, gF_10, gF_11, gF_12, gF_13, gF_14, gF_15, gF_16, gF_17, pF_0, pF_1, pF_2, pF_3, pF_4, pF_5, pF_6, pF_7, pF_8, pF_9, pF_10, pF_11, pF_12, pF_13, pF_14, pF_15, pF_16, pF_17, gI_of, gL_of, gR_of, sI_of, sL_of, gN_of, gO_of, cl_i, cl_r, cl_l, cl_n, pu_s, pu_n, rV_s, hg_same, hg_ne, if_true, if_false, true_and, and_true, ne_eq, not_false_eq_true, not_true_eq_false, eq_self, reduceCtorEq, Nat.reduceAdd, nI_add, n_mul, n_sub, n_div, n_dec, n_dif, n_shl1, n_bit, n_eq0, n_0eq, n_eq, n_lt, n_le, n_lt0, n_ge0, n_gt0, n_le0, n_em1, n_m1e, n_m1lt0, n_m1ge0, n_m1gt0, n_m1eq0, n_m1lt, bI_eq0, bI_ne0, tb_eq0, tb_eq1, u35, u36, x_bit, cpl_df hn.2]
      rw [← gb_s] at N2 ⊢
      refine ih _ _ (up f c (nI (dgO G n c))) ((hS.trans (S2.mono (fun x q => by omega))).set (by omega)) (by rw [hg_ne (by omega), S2.at (by omega)]; exact z45) ?_ (hg_same _ _ _) (fun i hi => ?_)
      · obtain ⟨g, g1, g2⟩ := N2
        exact ⟨g, by rw [hg_ne (by omega)]; exact g1, g2⟩
      · by_cases e : i = c
        · subst e; rw [up_same]
        · rw [up_ne e]; exact w36 i (by omega)
  exact key 0 (by omega) h1 _ f36 (S1.mono (fun x q => by omega)) g45 N0 q36 (fun i hi => by omega)
theorem m_orderByDegree {d n p : Nat} {G : Nat → Nat} {h : j_H} {Q : Option Value → j_H → Prop} (h0 : mO h n p) (h98 : hI h 98 20 n (fun i => nI (G i))) (h91 : isI h 91 20) (hG : okG n G) (hn : n ≤ 20)
    (k : ∀ h1, hI h1 91 20 n (fun i => nI (dgO G n i)) → Sm (fun b => b = 91) h h1 → Q none h1) : WP (d + 1) mX11_orderByDegree 0 [some (.ref 88), none, none, none, none] [] h Q := by
  obtain ⟨a, b, c, e0⟩ := id h0
  obtain ⟨f91, e91⟩ := h91
  simp (disch := first | omega | assumption) only [r_X11_orderByDegree_0, r_X11_orderByDegree_1, r_X11_orderByDegree_2, r_X11_orderByDegree_3, r_X11_orderByDegree_5, r_X11_orderByDegree_6, r_X11_orderByDegree_9, r_X11_orderByDegree_12, r_X11_orderByDegree_13, r_X11_orderByDegree_14, r_X11_orderByDegree_15, r_X11_orderByDegree_19, r_X11_orderByDegree_20, r_X11_orderByDegree_23, r_X11_orderByDegree_26, r_X11_orderByDegree_27, r_X11_orderByDegree_29, r_X11_orderByDegree_30, r_X11_orderByDegree_31, r_X11_orderByDegree_32, r_X11_orderByDegree_35, r_X11_orderByDegree_36, r_X11_orderByDegree_39, r_X11_orderByDegree_40, r_X11_orderByDegree_42, r_X11_orderByDegree_43, r_X11_orderByDegree_46, r_X11_orderByDegree_49, r_X11_orderByDegree_50, r_X11_orderByDegree_51, r_X11_orderByDegree_52, r_X11_orderByDegree_55, r_X11_orderByDegree_58, r_X11_orderByDegree_61, r_X11_orderByDegree_63, r_X11_orderByDegree_64, r_X11_orderByDegree_67, r_X11_orderByDegree_70, r_X11_orderByDegree_71, r_X11_orderByDegree_74, r_X11_orderByDegree_75, r_X11_orderByDegree_76, r_X11_orderByDegree_77, r_X11_orderByDegree_78, r_X11_orderByDegree_79, r_X11_orderByDegree_80, r_X11_orderByDegree_81, r_X11_orderByDegree_82, r_X11_orderByDegree_83, r_X11_orderByDegree_86, r_X11_orderByDegree_89, gF_0, gF_1, gF_2, gF_3, gF_4, gF_5, gF_6, gF_7, gF_8, gF_9, gF_10, gF_11, gF_12, gF_13, gF_14, gF_15, gF_16, gF_17, pF_0, pF_1, pF_2, pF_3, pF_4, pF_5, pF_6, pF_7, pF_8, pF_9, pF_10, pF_11, pF_12, pF_13, pF_14, pF_15, pF_16, pF_17, gI_of, gL_of, gR_of, sI_of, sL_of, gN_of, gO_of, cl_i, cl_r, cl_l, cl_n, pu_s, pu_n, rV_s, hg_same, hg_ne, if_true, if_false, true_and, and_true, ne_eq, not_false_eq_true, not_true_eq_false, eq_self, reduceCtorEq, Nat.reduceAdd, nI_add, n_mul, n_sub, n_div, n_dec, n_dif, n_shl1, n_bit, n_eq0, n_0eq, n_eq, n_lt, n_le, n_lt0, n_ge0, n_gt0, n_le0, n_em1, n_m1e, n_m1lt0, n_m1ge0, n_m1gt0, n_m1eq0, n_m1lt, bI_eq0, bI_ne0, tb_eq0, tb_eq1, e0]
  have key : ∀ c, c ≤ n → ∀ h' x3 x4 f, Sm (fun b => b = 91) h h' → hg h' 91 = some (aI 20 f) → (∀ i, i < c → f i = nI (dgO G n i)) → WP (d + 1) mX11_orderByDegree 4 [some (.ref 88), some (.int (nI (gb (dgO G n) c))), some (.int (nI c)), x3, x4] [] h' Q := by
    refine lup (P := fun c => ∀ h' x3 x4 f, Sm (fun b => b = 91) h h' → hg h' 91 = some (aI 20 f) → (∀ i, i < c → f i = nI (dgO G n i)) → WP (d + 1) mX11_orderByDegree 4 [some (.ref 88), some (.int (nI (gb (dgO G n) c))), some (.int (nI c)), x3, x4] [] h' Q) ?_ ?_
    · intro h' x3 x4 f hS f1 f2
      have z0 := (hS.at (b := 88) (by omega)).trans e0
      rw [r_X11_orderByDegree_4]
      simp (disch := first | omega | assumption) only [r_X11_orderByDegree_0, r_X11_orderByDegree_1, r_X11_orderByDegree_2, r_X11_orderByDegree_3, r_X11_orderByDegree_5, r_X11_orderByDegree_6, r_X11_orderByDegree_9, r_X11_orderByDegree_12, r_X11_orderByDegree_13, r_X11_orderByDegree_14, r_X11_orderByDegree_15, r_X11_orderByDegree_19, r_X11_orderByDegree_20, r_X11_orderByDegree_23, r_X11_orderByDegree_26, r_X11_orderByDegree_27, r_X11_orderByDegree_29, r_X11_orderByDegree_30, r_X11_orderByDegree_31, r_X11_orderByDegree_32, r_X11_orderByDegree_35, r_X11_orderByDegree_36, r_X11_orderByDegree_39, r_X11_orderByDegree_40, r_X11_orderByDegree_42, r_X11_orderByDegree_43, r_X11_orderByDegree_46, r_X11_orderByDegree_49, r_X11_orderByDegree_50, r_X11_orderByDegree_51, r_X11_orderByDegree_52, r_X11_orderByDegree_55, r_X11_orderByDegree_58, r_X11_orderByDegree_61, r_X11_orderByDegree_63, r_X11_orderByDegree_64, r_X11_orderByDegree_67, r_X11_orderByDegree_70, r_X11_orderByDegree_71, r_X11_orderByDegree_74, r_X11_orderByDegree_75, r_X11_orderByDegree_76, r_X11_orderByDegree_77, r_X11_orderByDegree_78, r_X11_orderByDegree_79, r_X11_orderByDegree_80, r_X11_orderByDegree_81, r_X11_orderByDegree_82, r_X11_orderByDegree_83, r_X11_orderByDegree_86, r_X11_orderByDegree_89, gF_0, gF_1, gF_2, gF_3, gF_4, gF_5, gF_6, gF_7, gF_8, gF_9, gF_10, gF_11, gF_12, gF_13, gF_14, gF_15, gF_16, gF_17, pF_0, pF_1, pF_2, pF_3, pF_4, pF_5, pF_6, pF_7, pF_8, pF_9, pF_10, pF_11, pF_12, pF_13, pF_14, pF_15, pF_16, pF_17, gI_of, gL_of, gR_of, sI_of, sL_of, gN_of, gO_of, cl_i, cl_r, cl_l, cl_n, pu_s, pu_n, rV_s, hg_same, hg_ne, if_true, if_false, true_and, and_true, ne_eq, not_false_eq_true, not_true_eq_false, eq_self, reduceCtorEq, Nat.reduceAdd, nI_add, n_mul, n_sub, n_div, n_dec, n_dif, n_shl1, n_bit, n_eq0, n_0eq, n_eq, n_lt, n_le, n_lt0, n_ge0, n_gt0, n_le0, n_em1, n_m1e, n_m1lt0, n_m1ge0, n_m1gt0, n_m1eq0, n_m1lt, bI_eq0, bI_ne0, tb_eq0, tb_eq1, Nat.le_refl, z0]
      exact k h' ⟨f, f1, f2⟩ hS
    · intro c hc ih h' x3 x4 f hS f1 f2
      have z0 := (hS.at (b := 88) (by omega)).trans e0
      have zO : mO h' n p := ⟨_, _, _, z0⟩
      have z98 := h98.keep (hS.at (b := 98) (by omega))
      obtain ⟨s1, s2, s3⟩ := dg_some (G := G) hc
      have hgl := pow20 hn (gb_lt (dg_perm G n).1 (show c ≤ n by omega))
      rw [r_X11_orderByDegree_4]
      simp (disch := first | omega | assumption) only [r_X11_orderByDegree_0, r_X11_orderByDegree_1, r_X11_orderByDegree_2, r_X11_orderByDegree_3, r_X11_orderByDegree_5, r_X11_orderByDegree_6, r_X11_orderByDegree_9, r_X11_orderByDegree_12, r_X11_orderByDegree_13, r_X11_orderByDegree_14, r_X11_orderByDegree_15, r_X11_orderByDegree_19, r_X11_orderByDegree_20, r_X11_orderByDegree_23, r_X11_orderByDegree_26, r_X11_orderByDegree_27, r_X11_orderByDegree_29, r_X11_orderByDegree_30, r_X11_orderByDegree_31, r_X11_orderByDegree_32, r_X11_orderByDegree_35, r_X11_orderByDegree_36, r_X11_orderByDegree_39, r_X11_orderByDegree_40, r_X11_orderByDegree_42, r_X11_orderByDegree_43, r_X11_orderByDegree_46, r_X11_orderByDegree_49, r_X11_orderByDegree_50, r_X11_orderByDegree_51, r_X11_orderByDegree_52, r_X11_orderByDegree_55, r_X11_orderByDegree_58, r_X11_orderByDegree_61, r_X11_orderByDegree_63, r_X11_orderByDegree_64, r_X11_orderByDegree_67, r_X11_orderByDegree_70, r_X11_orderByDegree_71, r_X11_orderByDegree_74, r_X11_orderByDegree_75, r_X11_orderByDegree_76, r_X11_orderByDegree_77, r_X11_orderByDegree_78, r_X11_orderByDegree_79, r_X11_orderByDegree_80, r_X11_orderByDegree_81, r_X11_orderByDegree_82, r_X11_orderByDegree_83, r_X11_orderByDegree_86, r_X11_orderByDegree_89, gF_0, gF_1, gF_2, gF_3, gF_4, gF_5, gF_6, gF_7, gF_8, gF_9, gF_10, gF_11, gF_12, gF_13, gF_14, gF_15, gF_16, gF_17, pF_0, pF_1, pF_2, pF_3, pF_4, pF_5, pF_6, pF_7, pF_8, pF_9, pF_10, pF_11, pF_12, pF_13, pF_14, pF_15, pF_16, pF_17, gI_of, gL_of, gR_of, sI_of, sL_of, gN_of, gO_of, cl_i, cl_r, cl_l, cl_n, pu_s, pu_n, rV_s, hg_same, hg_ne, if_true, if_false, true_and, and_true, ne_eq, not_false_eq_true, not_true_eq_false, eq_self, reduceCtorEq, Nat.reduceAdd, nI_add, n_mul, n_sub, n_div, n_dec, n_dif, n_shl1, n_bit, n_eq0, n_0eq, n_eq, n_lt, n_le, n_lt0, n_ge0, n_gt0, n_le0, n_em1, n_m1e, n_m1lt0, n_m1ge0, n_m1gt0, n_m1eq0, n_m1lt, bI_eq0, bI_ne0, tb_eq0, tb_eq1, show ¬ n ≤ c by omega, z0]
      have key2 : ∀ i, i ≤ n → WP (d + 1) mX11_orderByDegree 17 [some (.ref 88), some (.int (nI (gb (dgO G n) c))), some (.int (nI c)), some (.int (ov (lo (fun i => !(gb (dgO G n) c).testBit i) (fun i => pc (es G n (gb (dgO G n) c) i) 20) i))), some (.int (nI i))] [] h' Q := by
        refine lup (P := fun i => WP (d + 1) mX11_orderByDegree 17 [some (.ref 88), some (.int (nI (gb (dgO G n) c))), some (.int (nI c)), some (.int (ov (lo (fun i => !(gb (dgO G n) c).testBit i) (fun i => pc (es G n (gb (dgO G n) c) i) 20) i))), some (.int (nI i))] [] h' Q) ?_ ?_
        · have s1' : lo (fun i => !(gb (dgO G n) c).testBit i) (fun i => pc (es G n (gb (dgO G n) c) i) 20) n = some (dgO G n c) := s1
          rw [r_X11_orderByDegree_17, s1']
          simp only [ov]
          simp (disch := first | omega | assumption) only [r_X11_orderByDegree_0, r_X11_orderByDegree_1, r_X11_orderByDegree_2, r_X11_orderByDegree_3, r_X11_orderByDegree_5, r_X11_orderByDegree_6, r_X11_orderByDegree_9, r_X11_orderByDegree_12, r_X11_orderByDegree_13, r_X11_orderByDegree_14, r_X11_orderByDegree_15, r_X11_orderByDegree_19, r_X11_orderByDegree_20, r_X11_orderByDegree_23, r_X11_orderByDegree_26, r_X11_orderByDegree_27, r_X11_orderByDegree_29, r_X11_orderByDegree_30, r_X11_orderByDegree_31, r_X11_orderByDegree_32, r_X11_orderByDegree_35, r_X11_orderByDegree_36, r_X11_orderByDegree_39, r_X11_orderByDegree_40, r_X11_orderByDegree_42, r_X11_orderByDegree_43, r_X11_orderByDegree_46, r_X11_orderByDegree_49, r_X11_orderByDegree_50, r_X11_orderByDegree_51, r_X11_orderByDegree_52, r_X11_orderByDegree_55, r_X11_orderByDegree_58, r_X11_orderByDegree_61, r_X11_orderByDegree_63, r_X11_orderByDegree_64, r_X11_orderByDegree_67, r_X11_orderByDegree_70, r_X11_orderByDegree_71, r_X11_orderByDegree_74, r_X11_orderByDegree_75, r_X11_orderByDegree_76, r_X11_orderByDegree_77, r_X11_orderByDegree_78, r_X11_orderByDegree_79, r_X11_orderByDegree_80, r_X11_orderByDegree_81, r_X11_orderByDegree_82, r_X11_orderByDegree_83, r_X11_orderByDegree_86, r_X11_orderByDegree_89, gF_0, gF_1, gF_2, gF_3, gF_4, gF_5, gF_6, gF_7, gF_8, gF_9, gF_10, gF_11, gF_12, gF_13, gF_14, gF_15, gF_16, gF_17, pF_0, pF_1, pF_2, pF_3, pF_4, pF_5, pF_6, pF_7, pF_8, pF_9, pF_10, pF_11, pF_12, pF_13, pF_14, pF_15, pF_16, pF_17, gI_of, gL_of, gR_of, sI_of, sL_of, gN_of, gO_of, cl_i, cl_r, cl_l, cl_n, pu_s, pu_n, rV_s, hg_same, hg_ne, if_true, if_false, true_and, and_true, ne_eq, not_false_eq_true, not_true_eq_false, eq_self, reduceCtorEq, Nat.reduceAdd, nI_add, n_mul, n_sub, n_div, n_dec, n_dif, n_shl1, n_bit, n_eq0, n_0eq, n_eq, n_lt, n_le, n_lt0, n_ge0, n_gt0, n_le0, n_em1, n_m1e, n_m1lt0, n_m1ge0, n_m1gt0, n_m1eq0, n_m1lt, bI_eq0, bI_ne0, tb_eq0, tb_eq1, Nat.le_refl, z0, f1, n_or]
          rw [← gb_s]
          refine ih _ _ _ (up f c (nI (dgO G n c))) (hS.set rfl) (hg_same _ _ _) (fun i hi => ?_)
          by_cases e : i = c
          · subst e; rw [up_same]
          · rw [up_ne e]; exact f2 i (by omega)
        · intro i hi ih2
          rw [lo] at ih2
          have hlt := lo_lt (q := fun i => !(gb (dgO G n) c).testBit i) (w := fun i => pc (es G n (gb (dgO G n) c) i) 20) i
          have hbb := tb_lt (gb (dgO G n) c) i
          rw [r_X11_orderByDegree_17]
          cases hb : (gb (dgO G n) c).testBit i with
          | true =>
            simp only [hb, Bool.not_true, Bool.false_eq_true, if_false] at ih2
            simp (disch := first | omega | assumption) only [r_X11_orderByDegree_0, r_X11_orderByDegree_1, r_X11_orderByDegree_2, r_X11_orderByDegree_3, r_X11_orderByDegree_5, r_X11_orderByDegree_6, r_X11_orderByDegree_9, r_X11_orderByDegree_12, r_X11_orderByDegree_13, r_X11_orderByDegree_14, r_X11_orderByDegree_15, r_X11_orderByDegree_19, r_X11_orderByDegree_20, r_X11_orderByDegree_23, r_X11_orderByDegree_26, r_X11_orderByDegree_27, r_X11_orderByDegree_29, r_X11_orderByDegree_30, r_X11_orderByDegree_31, r_X11_orderByDegree_32, r_X11_orderByDegree_35, r_X11_orderByDegree_36, r_X11_orderByDegree_39, r_X11_orderByDegree_40, r_X11_orderByDegree_42, r_X11_orderByDegree_43, r_X11_orderByDegree_46, r_X11_orderByDegree_49, r_X11_orderByDegree_50, r_X11_orderByDegree_51, r_X11_orderByDegree_52, r_X11_orderByDegree_55, r_X11_orderByDegree_58, r_X11_orderByDegree_61, r_X11_orderByDegree_63, r_X11_orderByDegree_64, r_X11_orderByDegree_67, r_X11_orderByDegree_70, r_X11_orderByDegree_71, r_X11_orderByDegree_74, r_X11_orderByDegree_75, r_X11_orderByDegree_76, r_X11_orderByDegree_77, r_X11_orderByDegree_78, r_X11_orderByDegree_79, r_X11_orderByDegree_80, r_X11_orderByDegree_81, r_X11_orderByDegree_82, r_X11_orderByDegree_83, r_X11_orderByDegree_86, r_X11_orderByDegree_89, gF_0, gF_1, gF_2, gF_3, gF_4, gF_5, gF_6, gF_7, gF_8, gF_9, gF_10, gF_11, gF_12, gF_13, gF_14, gF_15, gF_16, gF_17, pF_0, pF_1, pF_2, pF_3, pF_4, pF_5, pF_6, pF_7, pF_8, pF_9, pF_10, pF_11, pF_12, pF_13, pF_14, pF_15, pF_16, pF_17, gI_of, gL_of, gR_of, sI_of, sL_of, gN_of, gO_of, cl_i, cl_r, cl_l, cl_n, pu_s, pu_n, rV_s, hg_same, hg_ne, if_true, if_false, true_and, and_true, ne_eq, not_false_eq_true, not_true_eq_false, eq_self, reduceCtorEq, Nat.reduceAdd, nI_add, n_mul, n_sub, n_div, n_dec, n_dif, n_shl1, n_bit, n_eq0, n_0eq, n_eq, n_lt, n_le, n_lt0, n_ge0, n_gt0, n_le0, n_em1, n_m1e, n_m1lt0, n_m1ge0, n_m1gt0, n_m1eq0, n_m1lt, bI_eq0, bI_ne0, tb_eq0, tb_eq1, show ¬ n ≤ i by omega, z0, hb, Bool.true_eq_false]
            exact ih2
          | false =>
            simp only [hb, Bool.not_false, if_true] at ih2
            have le1 := pow20 hn (es_lt G n (gb (dgO G n) c) i)
            cases hl : lo (fun i => !(gb (dgO G n) c).testBit i) (fun i => pc (es G n (gb (dgO G n) c) i) 20) i with
            | none =>
              rw [hl] at ih2
              simp only [ov] at ih2 ⊢
              simp (disch := first | omega | assumption) only [r_X11_orderByDegree_0, r_X11_orderByDegree_1, r_X11_orderByDegree_2, r_X11_orderByDegree_3, r_X11_orderByDegree_5, r_X11_orderByDegree_6, r_X11_orderByDegree_9, r_X11_orderByDegree_12, r_X11_orderByDegree_13, r_X11_orderByDegree_14, r_X11_orderByDegree_15, r_X11_orderByDegree_19, r_X11_orderByDegree_20, r_X11_orderByDegree_23, r_X11_orderByDegree_26, r_X11_orderByDegree_27, r_X11_orderByDegree_29, r_X11_orderByDegree_30, r_X11_orderByDegree_31, r_X11_orderByDegree_32, r_X11_orderByDegree_35, r_X11_orderByDegree_36, r_X11_orderByDegree_39, r_X11_orderByDegree_40, r_X11_orderByDegree_42, r_X11_orderByDegree_43, r_X11_orderByDegree_46, r_X11_orderByDegree_49, r_X11_orderByDegree_50, r_X11_orderByDegree_51, r_X11_orderByDegree_52, r_X11_orderByDegree_55, r_X11_orderByDegree_58, r_X11_orderByDegree_61, r_X11_orderByDegree_63, r_X11_orderByDegree_64, r_X11_orderByDegree_67, r_X11_orderByDegree_70, r_X11_orderByDegree_71, r_X11_orderByDegree_74, r_X11_orderByDegree_75, r_X11_orderByDegree_76, r_X11_orderByDegree_77, r_X11_orderByDegree_78, r_X11_orderByDegree_79, r_X11_orderByDegree_80, r_X11_orderByDegree_81, r_X11_orderByDegree_82, r_X11_orderByDegree_83, r_X11_orderByDegree_86, r_X11_orderByDegree_89, gF_0, gF_1, gF_2, gF_3, gF_4, gF_5, gF_6, gF_7, gF_8, gF_9, gF_10, gF_11, gF_12, gF_13, gF_14, gF_15, gF_16, gF_17, pF_0, pF_1, pF_2, pF_3, pF_4, pF_5, pF_6, pF_7, pF_8, pF_9, pF_10, pF_11, pF_12, pF_13, pF_14, pF_15, pF_16, pF_17, gI_of, gL_of, gR_of, sI_of, sL_of, gN_of, gO_of, cl_i, cl_r, cl_l, cl_n, pu_s, pu_n, rV_s, hg_same, hg_ne, if_true, if_false, true_and, and_true, ne_eq, not_false_eq_true, not_true_eq_false, eq_self, reduceCtorEq, Nat.reduceAdd, nI_add, n_mul, n_sub, n_div, n_dec, n_dif, n_shl1, n_bit, n_eq0, n_0eq, n_eq, n_lt, n_le, n_lt0, n_ge0, n_gt0, n_le0, n_em1, n_m1e, n_m1lt0, n_m1ge0, n_m1gt0, n_m1eq0, n_m1lt, bI_eq0, bI_ne0, tb_eq0, tb_eq1, show ¬ n ≤ i by omega, z0, hb]
              exact ih2
            | some b' =>
              have hc' := hlt b' hl
              have p1 := pc_le (es G n (gb (dgO G n) c) i) 20
              have p2 := pc_le (es G n (gb (dgO G n) c) b') 20
              have le2 := pow20 hn (es_lt G n (gb (dgO G n) c) b')
              rw [hl] at ih2
              simp only [ov] at ih2 ⊢
              by_cases hw : pc (es G n (gb (dgO G n) c) i) 20 < pc (es G n (gb (dgO G n) c) b') 20
              · rw [if_pos hw] at ih2
                simp only [ov] at ih2
                simp (disch := first | omega | assumption) only [r_X11_orderByDegree_0, r_X11_orderByDegree_1, r_X11_orderByDegree_2, r_X11_orderByDegree_3, r_X11_orderByDegree_5, r_X11_orderByDegree_6, r_X11_orderByDegree_9, r_X11_orderByDegree_12, r_X11_orderByDegree_13, r_X11_orderByDegree_14, r_X11_orderByDegree_15, r_X11_orderByDegree_19, r_X11_orderByDegree_20, r_X11_orderByDegree_23, r_X11_orderByDegree_26, r_X11_orderByDegree_27, r_X11_orderByDegree_29, r_X11_orderByDegree_30, r_X11_orderByDegree_31, r_X11_orderByDegree_32, r_X11_orderByDegree_35, r_X11_orderByDegree_36, r_X11_orderByDegree_39, r_X11_orderByDegree_40, r_X11_orderByDegree_42, r_X11_orderByDegree_43, r_X11_orderByDegree_46, r_X11_orderByDegree_49, r_X11_orderByDegree_50, r_X11_orderByDegree_51, r_X11_orderByDegree_52, r_X11_orderByDegree_55, r_X11_orderByDegree_58, r_X11_orderByDegree_61, r_X11_orderByDegree_63, r_X11_orderByDegree_64, r_X11_orderByDegree_67, r_X11_orderByDegree_70, r_X11_orderByDegree_71, r_X11_orderByDegree_74, r_X11_orderByDegree_75, r_X11_orderByDegree_76, r_X11_orderByDegree_77, r_X11_orderByDegree_78, r_X11_orderByDegree_79, r_X11_orderByDegree_80, r_X11_orderByDegree_81, r_X11_orderByDegree_82, r_X11_orderByDegree_83, r_X11_orderByDegree_86, r_X11_orderByDegree_89, gF_0, gF_1, gF_2, gF_3, gF_4, gF_5, gF_6, gF_7, gF_8, gF_9, gF_10, gF_11, gF_12, gF_13, gF_14, gF_15, gF_16, gF_17, pF_0, pF_1, pF_2, pF_3, pF_4, pF_5, pF_6, pF_7, pF_8, pF_9, pF_10, pF_11, pF_12, pF_13, pF_14, pF_15, pF_16, pF_17, gI_of, gL_of, gR_of, sI_of, sL_of, gN_of, gO_of, cl_i, cl_r, cl_l, cl_n, pu_s, pu_n, rV_s, hg_same, hg_ne, if_true, if_false, true_and, and_true, ne_eq, not_false_eq_true, not_true_eq_false, eq_self, reduceCtorEq, Nat.reduceAdd, nI_add, n_mul, n_sub, n_div, n_dec, n_dif, n_shl1, n_bit, n_eq0, n_0eq, n_eq, n_lt, n_le, n_lt0, n_ge0, n_gt0, n_le0, n_em1, n_m1e, n_m1lt0, n_m1ge0, n_m1gt0, n_m1eq0, n_m1lt, bI_eq0, bI_ne0, tb_eq0, tb_eq1, show ¬ n ≤ i by omega, z0, hb, m_joinedWhen zO hG z98 hn hgl hi, m_joinedWhen zO hG z98 hn hgl (show b' < n by omega), m_bits, show ¬ pc (es G n (gb (dgO G n) c) b') 20 ≤ pc (es G n (gb (dgO G n) c) i) 20 by omega]
                exact ih2
              · rw [if_neg hw] at ih2
                simp only [ov] at ih2
                simp (disch := first | omega | assumption) only [r_X11_orderByDegree_0, r_X11_orderByDegree_1, r_X11_orderByDegree_2, r_X11_orderByDegree_3, r_X11_orderByDegree_5, r_X11_orderByDegree_6, r_X11_orderByDegree_9, r_X11_orderByDegree_12, r_X11_orderByDegree_13, r_X11_orderByDegree_14, r_X11_orderByDegree_15, r_X11_orderByDegree_19, r_X11_orderByDegree_20, r_X11_orderByDegree_23, r_X11_orderByDegree_26, r_X11_orderByDegree_27, r_X11_orderByDegree_29, r_X11_orderByDegree_30, r_X11_orderByDegree_31, r_X11_orderByDegree_32, r_X11_orderByDegree_35, r_X11_orderByDegree_36, r_X11_orderByDegree_39, r_X11_orderByDegree_40, r_X11_orderByDegree_42, r_X11_orderByDegree_43, r_X11_orderByDegree_46, r_X11_orderByDegree_49, r_X11_orderByDegree_50, r_X11_orderByDegree_51, r_X11_orderByDegree_52, r_X11_orderByDegree_55, r_X11_orderByDegree_58, r_X11_orderByDegree_61, r_X11_orderByDegree_63, r_X11_orderByDegree_64, r_X11_orderByDegree_67, r_X11_orderByDegree_70, r_X11_orderByDegree_71, r_X11_orderByDegree_74, r_X11_orderByDegree_75, r_X11_orderByDegree_76, r_X11_orderByDegree_77, r_X11_orderByDegree_78, r_X11_orderByDegree_79, r_X11_orderByDegree_80, r_X11_orderByDegree_81, r_X11_orderByDegree_82, r_X11_orderByDegree_83, r_X11_orderByDegree_86, r_X11_orderByDegree_89, gF_0, gF_1, gF_2, gF_3, gF_4, gF_5, gF_6, gF_7, gF_8, gF_9, gF_10, gF_11, gF_12, gF_13, gF_14, gF_15, gF_16, gF_17, pF_0, pF_1, pF_2, pF_3, pF_4, pF_5, pF_6, pF_7, pF_8, pF_9, pF_10, pF_11, pF_12, pF_13, pF_14, pF_15, pF_16, pF_17, gI_of, gL_of, gR_of, sI_of, sL_of, gN_of, gO_of, cl_i, cl_r, cl_l, cl_n, pu_s, pu_n, rV_s, hg_same, hg_ne, if_true, if_false, true_and, and_true, ne_eq, not_false_eq_true, not_true_eq_false, eq_self, reduceCtorEq, Nat.reduceAdd, nI_add, n_mul, n_sub, n_div, n_dec, n_dif, n_shl1, n_bit, n_eq0, n_0eq, n_eq, n_lt, n_le, n_lt0, n_ge0, n_gt0, n_le0, n_em1, n_m1e, n_m1lt0, n_m1ge0, n_m1gt0, n_m1eq0, n_m1lt, bI_eq0, bI_ne0, tb_eq0, tb_eq1, show ¬ n ≤ i by omega, z0, hb, m_joinedWhen zO hG z98 hn hgl hi, m_joinedWhen zO hG z98 hn hgl (show b' < n by omega), m_bits, show pc (es G n (gb (dgO G n) c) b') 20 ≤ pc (es G n (gb (dgO G n) c) i) 20 by omega]
                exact ih2
      exact key2 0 (by omega)
  exact key 0 (by omega) h _ _ f91 (Sm.rf _ h) e91 (fun i hi => by omega)
