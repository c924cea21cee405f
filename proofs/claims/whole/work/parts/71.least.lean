/-- the least of b and the values that q allows -/
def mnk (q : Nat → Bool) (v : Nat → Nat) (b : Nat) : Nat → Nat
  | 0 => b
  | k + 1 => if q k = true then min (mnk q v b k) (v k) else mnk q v b k
theorem mnk_le {q : Nat → Bool} {v : Nat → Nat} {b : Nat} : ∀ k, mnk q v b k ≤ b ∧ ∀ i, i < k → q i = true → mnk q v b k ≤ v i := by
  intro k
  induction k with
  | zero => exact ⟨Nat.le_refl b, fun i hi => by omega⟩
  | succ k ih =>
    rw [mnk]
    by_cases hq : q k = true
    · rw [if_pos hq]
      refine ⟨by omega, fun i hi h => ?_⟩
      by_cases e : i = k
      · subst e; omega
      · have := ih.2 i (by omega) h; omega
    · rw [if_neg hq]
      refine ⟨ih.1, fun i hi h => ?_⟩
      by_cases e : i = k
      · subst e; exact absurd h hq
      · exact ih.2 i (by omega) h
theorem mnk_at {q : Nat → Bool} {v : Nat → Nat} {b : Nat} : ∀ k, mnk q v b k = b ∨ ∃ i, i < k ∧ q i = true ∧ mnk q v b k = v i := by
  intro k
  induction k with
  | zero => exact Or.inl rfl
  | succ k ih =>
    rw [mnk]
    by_cases hq : q k = true
    · rw [if_pos hq]
      by_cases hm : mnk q v b k ≤ v k
      · rw [Nat.min_eq_left hm]
        cases ih with
        | inl h => exact Or.inl h
        | inr h => obtain ⟨i, h1, h2, h3⟩ := h; exact Or.inr ⟨i, by omega, h2, h3⟩
      · rw [Nat.min_eq_right (by omega)]
        exact Or.inr ⟨k, by omega, hq, rfl⟩
    · rw [if_neg hq]
      cases ih with
      | inl h => exact Or.inl h
      | inr h => obtain ⟨i, h1, h2, h3⟩ := h; exact Or.inr ⟨i, by omega, h2, h3⟩
theorem mnk_skip {q : Nat → Bool} {v : Nat → Nat} {b i : Nat} : ∀ k, i ≤ k → (∀ j, i ≤ j → j < k → q j = false) → mnk q v b k = mnk q v b i := by
  intro k h
  induction h with
  | refl => intro _; rfl
  | step h ih =>
    rename_i k
    intro hq
    have h2 : i ≤ k := h
    rw [mnk, if_neg (by rw [hq k h2 (by omega)]; decide)]
    exact ih (fun j h1 h2 => hq j h1 (by omega))
theorem mnk_ext {q : Nat → Bool} {v v' : Nat → Nat} {b : Nat} : ∀ k, (∀ i, i < k → q i = true → v i = v' i) → mnk q v b k = mnk q v' b k := by
  intro k
  induction k with
  | zero => intro _; rfl
  | succ k ih =>
    intro h
    rw [mnk, mnk, ih (fun i hi => h i (by omega))]
    by_cases hq : q k = true
    · rw [if_pos hq, if_pos hq, h k (by omega) hq]
    · rw [if_neg hq, if_neg hq]
/-- the class's weight of a set, and the reference's least fill -/
noncomputable def wv (G : Nat → Nat) (n : Nat) : Nat → Nat → Nat
  | 0, _ => 0
  | f + 1, S => mnk (fun i => !S.testBit i) (fun i => (pc (es G n S i) 20 + wv G n f (S ||| 2 ^ i) / 32) * 32 + i) 1048576 n
noncomputable def lsf (G : Nat → Nat) (n : Nat) : Nat → Nat → Nat
  | 0, _ => 0
  | f + 1, S => mnk (fun i => !S.testBit i) (fun i => ff G n S i / 2 + lsf G n f (S ||| 2 ^ i)) 1000000 n
noncomputable def VS (G : Nat → Nat) (n S : Nat) : Nat := wv G n (n - pc S n) S
noncomputable def LF (G : Nat → Nat) (n S : Nat) : Nat := lsf G n (n - pc S n) S
theorem VS_s {G : Nat → Nat} {n S : Nat} (h : pc S n < n) : VS G n S = mnk (fun i => !S.testBit i) (fun i => (pc (es G n S i) 20 + VS G n (S ||| 2 ^ i) / 32) * 32 + i) 1048576 n := by
  unfold VS
  rw [show n - pc S n = (n - pc S n - 1) + 1 by omega, wv]
  refine mnk_ext n (fun i hi hq => ?_)
  have hq : S.testBit i = false := by simpa using hq
  rw [show n - pc (S ||| 2 ^ i) n = n - pc S n - 1 by rw [pc_new hi hq]; omega]
theorem LF_s {G : Nat → Nat} {n S : Nat} (h : pc S n < n) : LF G n S = mnk (fun i => !S.testBit i) (fun i => ff G n S i / 2 + LF G n (S ||| 2 ^ i)) 1000000 n := by
  unfold LF
  rw [show n - pc S n = (n - pc S n - 1) + 1 by omega, lsf]
  refine mnk_ext n (fun i hi hq => ?_)
  have hq : S.testBit i = false := by simpa using hq
  rw [show n - pc (S ||| 2 ^ i) n = n - pc S n - 1 by rw [pc_new hi hq]; omega]
theorem all_pc {S n : Nat} (h : pc S n = n) : ∀ i, i < n → S.testBit i = true := by
  intro i hi
  cases hb : S.testBit i with
  | true => rfl
  | false =>
    have h1 := pc_new hi hb
    have h2 := pc_le (S ||| 2 ^ i) n
    omega
theorem free_pc {S n : Nat} (h : pc S n < n) : ∃ i, i < n ∧ S.testBit i = false := by
  apply Classical.byContradiction
  intro hc
  have : pc S n = n := pc_all (fun i hi => by
    cases hb : S.testBit i with
    | true => rfl
    | false => exact absurd ⟨i, hi, hb⟩ hc)
  omega
theorem VS_bd {G : Nat → Nat} {n : Nat} (hn : n ≤ 12) : ∀ f S, pc S n + f = n → VS G n S / 32 ≤ 20 * f := by
  intro f
  induction f with
  | zero => intro S h; unfold VS; rw [show n - pc S n = 0 by omega, wv]; omega
  | succ f ih =>
    intro S h
    obtain ⟨i, h1, h2⟩ := free_pc (S := S) (n := n) (by omega)
    rw [VS_s (by omega)]
    have h3 := (mnk_le (q := fun i => !S.testBit i) (v := fun i => (pc (es G n S i) 20 + VS G n (S ||| 2 ^ i) / 32) * 32 + i) (b := 1048576) n).2 i h1 (by simp [h2])
    have h4 := ih (S ||| 2 ^ i) (by rw [pc_new h1 h2]; omega)
    have h5 := pc_le (es G n S i) 20
    try simp only at h3
    omega
/-- both choose alike -/
theorem LV {G : Nat → Nat} {n : Nat} (hG : okG n G) (hn : n ≤ 12) : ∀ f S, pc S n + f = n → LF G n S + eS G n S / 2 = VS G n S / 32 := by
  intro f
  induction f with
  | zero =>
    intro S h
    have e0 : eS G n S = 0 := sm_0 n (fun u hu => if_pos (all_pc (by omega) u hu))
    unfold LF VS
    rw [show n - pc S n = 0 by omega, lsf, wv, e0]
  | succ f ih =>
    intro S h
    obtain ⟨i, h1, h2⟩ := free_pc (S := S) (n := n) (by omega)
    have hu : ∀ j, j < n → S.testBit j = false → ff G n S j / 2 + LF G n (S ||| 2 ^ j) + eS G n S / 2 = pc (es G n S j) 20 + VS G n (S ||| 2 ^ j) / 32 := by
      intro j hj hs
      have g1 := ih (S ||| 2 ^ j) (by rw [pc_new hj hs]; omega)
      have g2 := eS_go hG (show n ≤ 20 by omega) hj hs
      obtain ⟨x, hx⟩ := eS_even (S := S) hG (show n ≤ 20 by omega)
      obtain ⟨y, hy⟩ := eS_even (S := S ||| 2 ^ j) hG (show n ≤ 20 by omega)
      omega
    have hb : ∀ j, j < n → S.testBit j = false → pc (es G n S j) 20 + VS G n (S ||| 2 ^ j) / 32 ≤ 20 * 12 := by
      intro j hj hs
      have g1 := VS_bd (G := G) hn f (S ||| 2 ^ j) (by rw [pc_new hj hs]; omega)
      have g2 := pc_le (es G n S j) 20
      omega
    have a1 := mnk_le (q := fun i => !S.testBit i) (v := fun i => (pc (es G n S i) 20 + VS G n (S ||| 2 ^ i) / 32) * 32 + i) (b := 1048576) n
    have a2 := mnk_at (q := fun i => !S.testBit i) (v := fun i => (pc (es G n S i) 20 + VS G n (S ||| 2 ^ i) / 32) * 32 + i) (b := 1048576) n
    have b1 := mnk_le (q := fun i => !S.testBit i) (v := fun i => ff G n S i / 2 + LF G n (S ||| 2 ^ i)) (b := 1000000) n
    have b2 := mnk_at (q := fun i => !S.testBit i) (v := fun i => ff G n S i / 2 + LF G n (S ||| 2 ^ i)) (b := 1000000) n
    rw [← VS_s (by omega)] at a1 a2
    rw [← LF_s (by omega)] at b1 b2
    have c1 := a1.2 i h1 (by simp [h2])
    have c2 := b1.2 i h1 (by simp [h2])
    have c3 := hb i h1 h2
    have c4 := hu i h1 h2
    try simp only at c1 c2
    cases a2 with
    | inl h => omega
    | inr h =>
      obtain ⟨i0, p1, p2, p3⟩ := h
      have p2 : S.testBit i0 = false := by simpa using p2
      cases b2 with
      | inl h => omega
      | inr h =>
        obtain ⟨j0, q1, q2, q3⟩ := h
        have q2 : S.testBit j0 = false := by simpa using q2
        have d1 := a1.2 j0 q1 (by simp [q2])
        have d2 := b1.2 i0 p1 (by simp [p2])
        have d3 := hu i0 p1 p2
        have d4 := hu j0 q1 q2
        try simp only at d1 d2 p3 q3
        omega
/-- the node that goes next -/
noncomputable def nxt (G : Nat → Nat) (n S : Nat) : Nat := VS G n S % 32
theorem nxt_spec {G : Nat → Nat} {n S : Nat} (hG : okG n G) (hn : n ≤ 12) (h : pc S n < n) : nxt G n S < n ∧ S.testBit (nxt G n S) = false ∧ ff G n S (nxt G n S) / 2 + LF G n (S ||| 2 ^ nxt G n S) = LF G n S ∧ ∀ j, j < nxt G n S → S.testBit j = false → ff G n S j / 2 + LF G n (S ||| 2 ^ j) ≠ LF G n S := by
  have hLV := LV hG hn (n - pc S n) S (by omega)
  have hu : ∀ j, j < n → S.testBit j = false → ff G n S j / 2 + LF G n (S ||| 2 ^ j) + eS G n S / 2 = pc (es G n S j) 20 + VS G n (S ||| 2 ^ j) / 32 := by
    intro j hj hs
    have g1 := LV hG hn (n - pc S n - 1) (S ||| 2 ^ j) (by rw [pc_new hj hs]; omega)
    have g2 := eS_go hG (show n ≤ 20 by omega) hj hs
    obtain ⟨x, hx⟩ := eS_even (S := S) hG (show n ≤ 20 by omega)
    obtain ⟨y, hy⟩ := eS_even (S := S ||| 2 ^ j) hG (show n ≤ 20 by omega)
    omega
  have bd := VS_bd (G := G) hn (n - pc S n) S (by omega)
  have a1 := mnk_le (q := fun i => !S.testBit i) (v := fun i => (pc (es G n S i) 20 + VS G n (S ||| 2 ^ i) / 32) * 32 + i) (b := 1048576) n
  have a2 := mnk_at (q := fun i => !S.testBit i) (v := fun i => (pc (es G n S i) 20 + VS G n (S ||| 2 ^ i) / 32) * 32 + i) (b := 1048576) n
  rw [← VS_s h] at a1 a2
  unfold nxt
  cases a2 with
  | inl h => omega
  | inr h =>
    obtain ⟨i0, p1, p2, p3⟩ := h
    have p2 : S.testBit i0 = false := by simpa using p2
    try simp only at p3
    have e : VS G n S % 32 = i0 := by omega
    rw [e]
    have d3 := hu i0 p1 p2
    refine ⟨p1, p2, by omega, fun j hj hs he => ?_⟩
    have d1 := a1.2 j (by omega) (by simp [hs])
    have d4 := hu j (by omega) hs
    try simp only at d1
    omega
noncomputable def lfS (G : Nat → Nat) (n : Nat) : Nat → Nat
  | 0 => 0
  | k + 1 => lfS G n k ||| 2 ^ nxt G n (lfS G n k)
noncomputable def lfO (G : Nat → Nat) (n k : Nat) : Nat := nxt G n (lfS G n k)
theorem lfS_gb (G : Nat → Nat) (n : Nat) : ∀ k, lfS G n k = gb (lfO G n) k := by
  intro k
  induction k with
  | zero => rfl
  | succ k ih => rw [lfS, gb_s, ← ih]; rfl
theorem lfO_eq (G : Nat → Nat) (n k : Nat) : lfO G n k = nxt G n (gb (lfO G n) k) := by
  show nxt G n (lfS G n k) = _
  rw [lfS_gb]
theorem lf_ok {G : Nat → Nat} {n : Nat} (hG : okG n G) (hn : n ≤ 12) : ∀ k, k ≤ n → pc (gb (lfO G n) k) n = k ∧ (k < n → lfO G n k < n ∧ (gb (lfO G n) k).testBit (lfO G n k) = false) := by
  intro k
  induction k with
  | zero =>
    intro _
    have h0 : pc (gb (lfO G n) 0) n = 0 := by
      show pc 0 n = 0
      rw [pc_sm, sm_0 n (fun i _ => tb_0 (Nat.zero_testBit i))]
    refine ⟨h0, fun hk => ?_⟩
    rw [lfO_eq]
    have := nxt_spec hG hn (S := gb (lfO G n) 0) (by omega)
    exact ⟨this.1, this.2.1⟩
  | succ k ih =>
    intro hk
    obtain ⟨i1, i2⟩ := ih (by omega)
    have i2 := i2 (by omega)
    have h1 : pc (gb (lfO G n) (k + 1)) n = k + 1 := by rw [gb_s, pc_new i2.1 i2.2, i1]
    refine ⟨h1, fun hk => ?_⟩
    rw [lfO_eq]
    have := nxt_spec hG hn (S := gb (lfO G n) (k + 1)) (by omega)
    exact ⟨this.1, this.2.1⟩
theorem lf_perm {G : Nat → Nat} {n : Nat} (hG : okG n G) (hn : n ≤ 12) : perm n (lfO G n) := perm_of (fun k hk => (lf_ok hG hn k (by omega)).2 hk)
theorem mn_nI {a b : Nat} (ha : a < 2 ^ 31) (hb : b < 2 ^ 31) : mnI (nI a) (nI b) = nI (min a b) := by
  unfold mnI
  by_cases h : b < a
  · rw [if_pos (by rw [n_lt hb ha]; exact h), Nat.min_eq_right (by omega)]
  · rw [if_neg (by rw [n_lt hb ha]; exact h), Nat.min_eq_left (by omega)]
theorem or_lt12 {X k n : Nat} (hX : X < 2 ^ n) (hk : k < n) : X ||| 2 ^ k < 2 ^ n := or_lt hX (pow_lt hk)
theorem pow12 {a n : Nat} (hn : n ≤ 12) (h : a < 2 ^ n) : a < 4096 := Nat.lt_of_lt_of_le h (Nat.pow_le_pow_right (by decide) hn)
theorem x_weighSet {d n a S : Nat} {G : Nat → Nat} {f : Nat → Int32} {h : j_H} {Q : Option Value → j_H → Prop} (h47 : hg h 47 = some (oB 4 [.int (nI n), .ref 48, .ref 49])) (h48 : hg h 48 = some (aI 4096 f)) (N : nr h a 12 n G S) (hn : n ≤ 12) (hS : S < 2 ^ n) (hf : ∀ i, i < n → S.testBit i = false → f (S ||| 2 ^ i) = nI (VS G n (S ||| 2 ^ i)))
    (k : Q none (hs h 48 (aI 4096 (up f S (nI (VS G n S)))))) : WP (d + 1) mX4_weighSet 0 [some (.ref 47), some (.int (nI S)), some (.ref a), none, none, none, none] [] h Q := by
  obtain ⟨fN, n1, n2⟩ := N
  have hpw : 1 ≤ 2 ^ n := Nat.two_pow_pos n
  have hS12 := pow12 hn hS
  have hc : df (2 ^ n - 1) S = cpl n S := by rw [cpl_0, cpl_df (by omega), Nat.zero_or]
  have hcl := pow20 (show n ≤ 20 by omega) (cpl_lt n S)
  by_cases hz : cpl n S = 0
  · have hall : pc S n = n := pc_all (fun i hi => by
      cases hb : S.testBit i with
      | true => rfl
      | false =>
        have : (cpl n S).testBit i = true := by rw [cpl_tb, hb]; simp [hi]
        rw [hz, Nat.zero_testBit] at this; cases this)
    have hV : VS G n S = 0 := by unfold VS; rw [hall, Nat.sub_self]; rfl
    simp (disch := first | omega | assumption) only [r_X4_weighSet_0, r_X4_weighSet_1, r_X4_weighSet_4, r_X4_weighSet_7, r_X4_weighSet_8, r_X4_weighSet_9, r_X4_weighSet_10, r_X4_weighSet_11, r_X4_weighSet_12, r_X4_weighSet_13, r_X4_weighSet_14, r_X4_weighSet_15, r_X4_weighSet_18, r_X4_weighSet_19, r_X4_weighSet_22, r_X4_weighSet_24, r_X4_weighSet_26, r_X4_weighSet_27, r_X4_weighSet_31, r_X4_weighSet_32, r_X4_weighSet_35, r_X4_weighSet_38, r_X4_weighSet_39, r_X4_weighSet_42, r_X4_weighSet_43, r_X4_weighSet_44, r_X4_weighSet_45, r_X4_weighSet_48, r_X4_weighSet_49, r_X4_weighSet_51, r_X4_weighSet_52, r_X4_weighSet_55, r_X4_weighSet_56, r_X4_weighSet_59, r_X4_weighSet_60, r_X4_weighSet_62, r_X4_weighSet_65, r_X4_weighSet_66, r_X4_weighSet_67, r_X4_weighSet_69, r_X4_weighSet_70, r_X4_weighSet_71, r_X4_weighSet_73, r_X4_weighSet_75, r_X4_weighSet_77, r_X4_weighSet_79, r_X4_weighSet_80, r_X4_weighSet_82, r_X4_weighSet_83, r_X4_weighSet_86, r_X4_weighSet_88, r_X4_weighSet_89, r_X4_weighSet_90, r_X4_weighSet_91, r_X4_weighSet_92, r_X4_weighSet_95, r_X4_weighSet_98, r_X4_weighSet_99, r_X4_weighSet_102, r_X4_weighSet_103, r_X4_weighSet_105, r_X4_weighSet_106, gF_0, gF_1, gF_2, gF_3, gF_4, gF_5, gF_6, gF_7, gF_8, gF_9, gF_10, gF_11, gF_12, gF_13, gF_14, gF_15, gF_16, gF_17, pF_0, pF_1, pF_2, pF_3, pF_4, pF_5, pF_6, pF_7, pF_8, pF_9, pF_10, pF_11, pF_12, pF_13, pF_14, pF_15, pF_16, pF_17, gI_of, gL_of, gR_of, sI_of, sL_of, gN_of, gO_of, cl_i, cl_r, cl_l, cl_n, pu_s, pu_n, rV_s, hg_same, hg_ne, if_true, if_false, true_and, and_true, ne_eq, not_false_eq_true, not_true_eq_false, eq_self, reduceCtorEq, Nat.reduceAdd, nI_add, n_mul, n_sub, n_div, n_dec, n_dif, n_shl1, n_bit, n_eq0, n_0eq, n_eq, n_lt, n_le, n_lt0, n_ge0, n_gt0, n_le0, n_em1, n_m1e, n_m1lt0, n_m1ge0, n_m1gt0, n_m1eq0, n_m1lt, bI_eq0, bI_ne0, tb_eq0, tb_eq1, h47, x_bit, hc, hz]
    rw [r_X4_weighSet_29]
    rw [hV] at k
    by_cases h0 : n ≤ 0
    · simp (disch := first | omega | assumption) only [r_X4_weighSet_0, r_X4_weighSet_1, r_X4_weighSet_4, r_X4_weighSet_7, r_X4_weighSet_8, r_X4_weighSet_9, r_X4_weighSet_10, r_X4_weighSet_11, r_X4_weighSet_12, r_X4_weighSet_13, r_X4_weighSet_14, r_X4_weighSet_15, r_X4_weighSet_18, r_X4_weighSet_19, r_X4_weighSet_22, r_X4_weighSet_24, r_X4_weighSet_26, r_X4_weighSet_27, r_X4_weighSet_31, r_X4_weighSet_32, r_X4_weighSet_35, r_X4_weighSet_38, r_X4_weighSet_39, r_X4_weighSet_42, r_X4_weighSet_43, r_X4_weighSet_44, r_X4_weighSet_45, r_X4_weighSet_48, r_X4_weighSet_49, r_X4_weighSet_51, r_X4_weighSet_52, r_X4_weighSet_55, r_X4_weighSet_56, r_X4_weighSet_59, r_X4_weighSet_60, r_X4_weighSet_62, r_X4_weighSet_65, r_X4_weighSet_66, r_X4_weighSet_67, r_X4_weighSet_69, r_X4_weighSet_70, r_X4_weighSet_71, r_X4_weighSet_73, r_X4_weighSet_75, r_X4_weighSet_77, r_X4_weighSet_79, r_X4_weighSet_80, r_X4_weighSet_82, r_X4_weighSet_83, r_X4_weighSet_86, r_X4_weighSet_88, r_X4_weighSet_89, r_X4_weighSet_90, r_X4_weighSet_91, r_X4_weighSet_92, r_X4_weighSet_95, r_X4_weighSet_98, r_X4_weighSet_99, r_X4_weighSet_102, r_X4_weighSet_103, r_X4_weighSet_105, r_X4_weighSet_106, gF_0, gF_1, gF_2, gF_3, gF_4, gF_5, gF_6, gF_7, gF_8, gF_9, gF_10, gF_11, gF_12, gF_13, gF_14, gF_15, gF_16, gF_17, pF_0, pF_1, pF_2, pF_3, pF_4, pF_5, pF_6, pF_7, pF_8, pF_9, pF_10, pF_11, pF_12, pF_13, pF_14, pF_15, pF_16, pF_17, gI_of, gL_of, gR_of, sI_of, sL_of, gN_of, gO_of, cl_i, cl_r, cl_l, cl_n, pu_s, pu_n, rV_s, hg_same, hg_ne, if_true, if_false, true_and, and_true, ne_eq, not_false_eq_true, not_true_eq_false, eq_self, reduceCtorEq, Nat.reduceAdd, nI_add, n_mul, n_sub, n_div, n_dec, n_dif, n_shl1, n_bit, n_eq0, n_0eq, n_eq, n_lt, n_le, n_lt0, n_ge0, n_gt0, n_le0, n_em1, n_m1e, n_m1lt0, n_m1ge0, n_m1gt0, n_m1eq0, n_m1lt, bI_eq0, bI_ne0, tb_eq0, tb_eq1, h47, h0, h48]
      exact k
    · simp (disch := first | omega | assumption) only [r_X4_weighSet_0, r_X4_weighSet_1, r_X4_weighSet_4, r_X4_weighSet_7, r_X4_weighSet_8, r_X4_weighSet_9, r_X4_weighSet_10, r_X4_weighSet_11, r_X4_weighSet_12, r_X4_weighSet_13, r_X4_weighSet_14, r_X4_weighSet_15, r_X4_weighSet_18, r_X4_weighSet_19, r_X4_weighSet_22, r_X4_weighSet_24, r_X4_weighSet_26, r_X4_weighSet_27, r_X4_weighSet_31, r_X4_weighSet_32, r_X4_weighSet_35, r_X4_weighSet_38, r_X4_weighSet_39, r_X4_weighSet_42, r_X4_weighSet_43, r_X4_weighSet_44, r_X4_weighSet_45, r_X4_weighSet_48, r_X4_weighSet_49, r_X4_weighSet_51, r_X4_weighSet_52, r_X4_weighSet_55, r_X4_weighSet_56, r_X4_weighSet_59, r_X4_weighSet_60, r_X4_weighSet_62, r_X4_weighSet_65, r_X4_weighSet_66, r_X4_weighSet_67, r_X4_weighSet_69, r_X4_weighSet_70, r_X4_weighSet_71, r_X4_weighSet_73, r_X4_weighSet_75, r_X4_weighSet_77, r_X4_weighSet_79, r_X4_weighSet_80, r_X4_weighSet_82, r_X4_weighSet_83, r_X4_weighSet_86, r_X4_weighSet_88, r_X4_weighSet_89, r_X4_weighSet_90, r_X4_weighSet_91, r_X4_weighSet_92, r_X4_weighSet_95, r_X4_weighSet_98, r_X4_weighSet_99, r_X4_weighSet_102, r_X4_weighSet_103, r_X4_weighSet_105, r_X4_weighSet_106, gF_0, gF_1, gF_2, gF_3, gF_4, gF_5, gF_6, gF_7, gF_8, gF_9, gF_10, gF_11, gF_12, gF_13, gF_14, gF_15, gF_16, gF_17, pF_0, pF_1, pF_2, pF_3, pF_4, pF_5, pF_6, pF_7, pF_8, pF_9, pF_10, pF_11, pF_12, pF_13, pF_14, pF_15, pF_16, pF_17, gI_of, gL_of, gR_of, sI_of, sL_of, gN_of, gO_of, cl_i, cl_r, cl_l, cl_n, pu_s, pu_n, rV_s, hg_same, hg_ne, if_true, if_false, true_and, and_true, ne_eq, not_false_eq_true, not_true_eq_false, eq_self, reduceCtorEq, Nat.reduceAdd, nI_add, n_mul, n_sub, n_div, n_dec, n_dif, n_shl1, n_bit, n_eq0, n_0eq, n_eq, n_lt, n_le, n_lt0, n_ge0, n_gt0, n_le0, n_em1, n_m1e, n_m1lt0, n_m1ge0, n_m1gt0, n_m1eq0, n_m1lt, bI_eq0, bI_ne0, tb_eq0, tb_eq1, h47, h0, h48]
      exact k
  · have hlt : pc S n < n := by
      have := pc_le S n
      by_cases e : pc S n = n
      · exfalso
        apply hz
        apply tb_ext
        intro i
        rw [cpl_tb, Nat.zero_testBit]
        by_cases hi : i < n
        · rw [all_pc e i hi]; simp
        · simp [hi]
      · omega
    rw [VS_s hlt] at k
    simp (disch := first | omega | assumption) only [r_X4_weighSet_0, r_X4_weighSet_1, r_X4_weighSet_4, r_X4_weighSet_7, r_X4_weighSet_8, r_X4_weighSet_9, r_X4_weighSet_10, r_X4_weighSet_11, r_X4_weighSet_12, r_X4_weighSet_13, r_X4_weighSet_14, r_X4_weighSet_15, r_X4_weighSet_18, r_X4_weighSet_19, r_X4_weighSet_22, r_X4_weighSet_24, r_X4_weighSet_26, r_X4_weighSet_27, r_X4_weighSet_31, r_X4_weighSet_32, r_X4_weighSet_35, r_X4_weighSet_38, r_X4_weighSet_39, r_X4_weighSet_42, r_X4_weighSet_43, r_X4_weighSet_44, r_X4_weighSet_45, r_X4_weighSet_48, r_X4_weighSet_49, r_X4_weighSet_51, r_X4_weighSet_52, r_X4_weighSet_55, r_X4_weighSet_56, r_X4_weighSet_59, r_X4_weighSet_60, r_X4_weighSet_62, r_X4_weighSet_65, r_X4_weighSet_66, r_X4_weighSet_67, r_X4_weighSet_69, r_X4_weighSet_70, r_X4_weighSet_71, r_X4_weighSet_73, r_X4_weighSet_75, r_X4_weighSet_77, r_X4_weighSet_79, r_X4_weighSet_80, r_X4_weighSet_82, r_X4_weighSet_83, r_X4_weighSet_86, r_X4_weighSet_88, r_X4_weighSet_89, r_X4_weighSet_90, r_X4_weighSet_91, r_X4_weighSet_92, r_X4_weighSet_95, r_X4_weighSet_98, r_X4_weighSet_99, r_X4_weighSet_102, r_X4_weighSet_103, r_X4_weighSet_105, r_X4_weighSet_106, gF_0, gF_1, gF_2, gF_3, gF_4, gF_5, gF_6, gF_7, gF_8, gF_9, gF_10, gF_11, gF_12, gF_13, gF_14, gF_15, gF_16, gF_17, pF_0, pF_1, pF_2, pF_3, pF_4, pF_5, pF_6, pF_7, pF_8, pF_9, pF_10, pF_11, pF_12, pF_13, pF_14, pF_15, pF_16, pF_17, gI_of, gL_of, gR_of, sI_of, sL_of, gN_of, gO_of, cl_i, cl_r, cl_l, cl_n, pu_s, pu_n, rV_s, hg_same, hg_ne, if_true, if_false, true_and, and_true, ne_eq, not_false_eq_true, not_true_eq_false, eq_self, reduceCtorEq, Nat.reduceAdd, nI_add, n_mul, n_sub, n_div, n_dec, n_dif, n_shl1, n_bit, n_eq0, n_0eq, n_eq, n_lt, n_le, n_lt0, n_ge0, n_gt0, n_le0, n_em1, n_m1e, n_m1lt0, n_m1ge0, n_m1gt0, n_m1eq0, n_m1lt, bI_eq0, bI_ne0, tb_eq0, tb_eq1, h47, x_bit, hc, hz]
    have fin : ∀ x5 x6 x3, WP (d + 1) mX4_weighSet 98 [some (.ref 47), some (.int (nI S)), some (.ref a), x3, some (.int (nI (mnk (fun i => !S.testBit i) (fun i => (pc (es G n S i) 20 + VS G n (S ||| 2 ^ i) / 32) * 32 + i) 1048576 n))), x5, x6] [] h Q := by
      intro x5 x6 x3
      simp (disch := first | omega | assumption) only [r_X4_weighSet_0, r_X4_weighSet_1, r_X4_weighSet_4, r_X4_weighSet_7, r_X4_weighSet_8, r_X4_weighSet_9, r_X4_weighSet_10, r_X4_weighSet_11, r_X4_weighSet_12, r_X4_weighSet_13, r_X4_weighSet_14, r_X4_weighSet_15, r_X4_weighSet_18, r_X4_weighSet_19, r_X4_weighSet_22, r_X4_weighSet_24, r_X4_weighSet_26, r_X4_weighSet_27, r_X4_weighSet_31, r_X4_weighSet_32, r_X4_weighSet_35, r_X4_weighSet_38, r_X4_weighSet_39, r_X4_weighSet_42, r_X4_weighSet_43, r_X4_weighSet_44, r_X4_weighSet_45, r_X4_weighSet_48, r_X4_weighSet_49, r_X4_weighSet_51, r_X4_weighSet_52, r_X4_weighSet_55, r_X4_weighSet_56, r_X4_weighSet_59, r_X4_weighSet_60, r_X4_weighSet_62, r_X4_weighSet_65, r_X4_weighSet_66, r_X4_weighSet_67, r_X4_weighSet_69, r_X4_weighSet_70, r_X4_weighSet_71, r_X4_weighSet_73, r_X4_weighSet_75, r_X4_weighSet_77, r_X4_weighSet_79, r_X4_weighSet_80, r_X4_weighSet_82, r_X4_weighSet_83, r_X4_weighSet_86, r_X4_weighSet_88, r_X4_weighSet_89, r_X4_weighSet_90, r_X4_weighSet_91, r_X4_weighSet_92, r_X4_weighSet_95, r_X4_weighSet_98, r_X4_weighSet_99, r_X4_weighSet_102, r_X4_weighSet_103, r_X4_weighSet_105, r_X4_weighSet_106, gF_0, gF_1, gF_2, gF_3, gF_4, gF_5, gF_6, gF_7, gF_8, gF_9, gF_10, gF_11, gF_12, gF_13, gF_14, gF_15, gF_16, gF_17, pF_0, pF_1, pF_2, pF_3, pF_4, pF_5, pF_6, pF_7, pF_8, pF_9, pF_10, pF_11, pF_12, pF_13, pF_14, pF_15, pF_16, pF_17, gI_of, gL_of, gR_of, sI_of, sL_of, gN_of, gO_of, cl_i, cl_r, cl_l, cl_n, pu_s, pu_n, rV_s, hg_same, hg_ne, if_true, if_false, true_and, and_true, ne_eq, not_false_eq_true, not_true_eq_false, eq_self, reduceCtorEq, Nat.reduceAdd, nI_add, n_mul, n_sub, n_div, n_dec, n_dif, n_shl1, n_bit, n_eq0, n_0eq, n_eq, n_lt, n_le, n_lt0, n_ge0, n_gt0, n_le0, n_em1, n_m1e, n_m1lt0, n_m1ge0, n_m1gt0, n_m1eq0, n_m1lt, bI_eq0, bI_ne0, tb_eq0, tb_eq1, h47, h48]
      exact k
    have key : ∀ i, i ≤ n → ∀ x6, WP (d + 1) mX4_weighSet 29 [some (.ref 47), some (.int (nI S)), some (.ref a), some (.int (nI (cpl n S / 2 ^ i))), some (.int (nI (mnk (fun i => !S.testBit i) (fun i => (pc (es G n S i) 20 + VS G n (S ||| 2 ^ i) / 32) * 32 + i) 1048576 i))), some (.int (nI i)), x6] [] h Q := by
      refine lup (P := fun i => ∀ x6, WP (d + 1) mX4_weighSet 29 [some (.ref 47), some (.int (nI S)), some (.ref a), some (.int (nI (cpl n S / 2 ^ i))), some (.int (nI (mnk (fun i => !S.testBit i) (fun i => (pc (es G n S i) 20 + VS G n (S ||| 2 ^ i) / 32) * 32 + i) 1048576 i))), some (.int (nI i)), x6] [] h Q) ?_ ?_
      · intro x6
        rw [r_X4_weighSet_29]
        simp (disch := first | omega | assumption) only [r_X4_weighSet_0, r_X4_weighSet_1, r_X4_weighSet_4, r_X4_weighSet_7, r_X4_weighSet_8, r_X4_weighSet_9, r_X4_weighSet_10, r_X4_weighSet_11, r_X4_weighSet_12, r_X4_weighSet_13, r_X4_weighSet_14, r_X4_weighSet_15, r_X4_weighSet_18, r_X4_weighSet_19, r_X4_weighSet_22, r_X4_weighSet_24, r_X4_weighSet_26, r_X4_weighSet_27, r_X4_weighSet_31, r_X4_weighSet_32, r_X4_weighSet_35, r_X4_weighSet_38, r_X4_weighSet_39, r_X4_weighSet_42, r_X4_weighSet_43, r_X4_weighSet_44, r_X4_weighSet_45, r_X4_weighSet_48, r_X4_weighSet_49, r_X4_weighSet_51, r_X4_weighSet_52, r_X4_weighSet_55, r_X4_weighSet_56, r_X4_weighSet_59, r_X4_weighSet_60, r_X4_weighSet_62, r_X4_weighSet_65, r_X4_weighSet_66, r_X4_weighSet_67, r_X4_weighSet_69, r_X4_weighSet_70, r_X4_weighSet_71, r_X4_weighSet_73, r_X4_weighSet_75, r_X4_weighSet_77, r_X4_weighSet_79, r_X4_weighSet_80, r_X4_weighSet_82, r_X4_weighSet_83, r_X4_weighSet_86, r_X4_weighSet_88, r_X4_weighSet_89, r_X4_weighSet_90, r_X4_weighSet_91, r_X4_weighSet_92, r_X4_weighSet_95, r_X4_weighSet_99, r_X4_weighSet_102, r_X4_weighSet_103, r_X4_weighSet_105, r_X4_weighSet_106, gF_0, gF_1, gF_2, gF_3, gF_4, gF_5, gF_6, gF_7, gF_8, gF_9, gF_10, gF_11, gF_12, gF_13, gF_14, gF_15, gF_16, gF_17, pF_0, pF_1, pF_2, pF_3, pF_4, pF_5, pF_6, pF_7, pF_8, pF_9, pF_10, pF_11, pF_12, pF_13, pF_14, pF_15, pF_16, pF_17, gI_of, gL_of, gR_of, sI_of, sL_of, gN_of, gO_of, cl_i, cl_r, cl_l, cl_n, pu_s, pu_n, rV_s, hg_same, hg_ne, if_true, if_false, true_and, and_true, ne_eq, not_false_eq_true, not_true_eq_false, eq_self, reduceCtorEq, Nat.reduceAdd, nI_add, n_mul, n_sub, n_div, n_dec, n_dif, n_shl1, n_bit, n_eq0, n_0eq, n_eq, n_lt, n_le, n_lt0, n_ge0, n_gt0, n_le0, n_em1, n_m1e, n_m1lt0, n_m1ge0, n_m1gt0, n_m1eq0, n_m1lt, bI_eq0, bI_ne0, tb_eq0, tb_eq1, h47, Nat.le_refl]
        exact fin _ _ _
      · intro i hi ih x6
        have hd : cpl n S / 2 ^ i < 2 ^ 31 := Nat.lt_of_le_of_lt (Nat.div_le_self _ _) (by omega)
        have hb := tb_lt (cpl n S / 2 ^ i) 0
        have h2 : cpl n S / 2 ^ i / 2 = cpl n S / 2 ^ (i + 1) := by rw [Nat.div_div_eq_div_mul, Nat.pow_succ]
        rw [mnk] at ih
        rw [r_X4_weighSet_29]
        by_cases hz2 : cpl n S / 2 ^ i = 0
        · have hsk := mnk_skip (q := fun i => !S.testBit i) (v := fun i => (pc (es G n S i) 20 + VS G n (S ||| 2 ^ i) / 32) * 32 + i) (b := 1048576) (i := i) n (by omega) (fun j h1 h3 => by
            have hx : cpl n S < 2 ^ i := (Nat.div_eq_zero_iff_lt (Nat.two_pow_pos i)).mp hz2
            have := tb_hi hx h1
            rw [cpl_tb] at this
            simpa [h3] using this)
          have := fin (some (.int (nI i))) x6 (some (.int (nI 0)))
          rw [hsk] at this
          rw [hz2]
          simp (disch := first | omega | assumption) only [r_X4_weighSet_0, r_X4_weighSet_1, r_X4_weighSet_4, r_X4_weighSet_7, r_X4_weighSet_8, r_X4_weighSet_9, r_X4_weighSet_10, r_X4_weighSet_11, r_X4_weighSet_12, r_X4_weighSet_13, r_X4_weighSet_14, r_X4_weighSet_15, r_X4_weighSet_18, r_X4_weighSet_19, r_X4_weighSet_22, r_X4_weighSet_24, r_X4_weighSet_26, r_X4_weighSet_27, r_X4_weighSet_31, r_X4_weighSet_32, r_X4_weighSet_35, r_X4_weighSet_38, r_X4_weighSet_39, r_X4_weighSet_42, r_X4_weighSet_43, r_X4_weighSet_44, r_X4_weighSet_45, r_X4_weighSet_48, r_X4_weighSet_49, r_X4_weighSet_51, r_X4_weighSet_52, r_X4_weighSet_55, r_X4_weighSet_56, r_X4_weighSet_59, r_X4_weighSet_60, r_X4_weighSet_62, r_X4_weighSet_65, r_X4_weighSet_66, r_X4_weighSet_67, r_X4_weighSet_69, r_X4_weighSet_70, r_X4_weighSet_71, r_X4_weighSet_73, r_X4_weighSet_75, r_X4_weighSet_77, r_X4_weighSet_79, r_X4_weighSet_80, r_X4_weighSet_82, r_X4_weighSet_83, r_X4_weighSet_86, r_X4_weighSet_88, r_X4_weighSet_89, r_X4_weighSet_90, r_X4_weighSet_91, r_X4_weighSet_92, r_X4_weighSet_95, r_X4_weighSet_99, r_X4_weighSet_102, r_X4_weighSet_103, r_X4_weighSet_105, r_X4_weighSet_106, gF_0, gF_1, gF_2, gF_3, gF_4, gF_5, gF_6, gF_7, gF_8, gF_9, gF_10, gF_11, gF_12, gF_13, gF_14, gF_15, gF_16, gF_17, pF_0, pF_1, pF_2, pF_3, pF_4, pF_5, pF_6, pF_7, pF_8, pF_9, pF_10, pF_11, pF_12, pF_13, pF_14, pF_15, pF_16, pF_17, gI_of, gL_of, gR_of, sI_of, sL_of, gN_of, gO_of, cl_i, cl_r, cl_l, cl_n, pu_s, pu_n, rV_s, hg_same, hg_ne, if_true, if_false, true_and, and_true, ne_eq, not_false_eq_true, not_true_eq_false, eq_self, reduceCtorEq, Nat.reduceAdd, nI_add, n_mul, n_sub, n_div, n_dec, n_dif, n_shl1, n_bit, n_eq0, n_0eq, n_eq, n_lt, n_le, n_lt0, n_ge0, n_gt0, n_le0, n_em1, n_m1e, n_m1lt0, n_m1ge0, n_m1gt0, n_m1eq0, n_m1lt, bI_eq0, bI_ne0, tb_eq0, tb_eq1, h47, show ¬ n ≤ i by omega]
          exact this
        · have ht : (cpl n S / 2 ^ i).testBit 0 = !S.testBit i := by rw [Nat.testBit_div_two_pow, Nat.zero_add, cpl_tb]; simp [hi]
          cases hs : S.testBit i with
          | false =>
            rw [hs] at ht
            simp only [hs, Bool.not_false, if_true] at ih
            have ef := hf i hi hs
            have en : fN i = nI (es G n S i) := n2 i hi hs
            have l1 := pow20 (show n ≤ 20 by omega) (es_lt G n S i)
            have l2 := pc_le (es G n S i) 20
            have l3 := VS_bd (G := G) hn (n - pc S n - 1) (S ||| 2 ^ i) (by rw [pc_new hi hs]; omega)
            have l4 := pow12 hn (or_lt12 hS hi)
            have l5 := (mnk_le (q := fun i => !S.testBit i) (v := fun i => (pc (es G n S i) 20 + VS G n (S ||| 2 ^ i) / 32) * 32 + i) (b := 1048576) i).1
            simp (disch := first | omega | assumption) only [r_X4_weighSet_0, r_X4_weighSet_1, r_X4_weighSet_4, r_X4_weighSet_7, r_X4_weighSet_8, r_X4_weighSet_9, r_X4_weighSet_10, r_X4_weighSet_11, r_X4_weighSet_12, r_X4_weighSet_13, r_X4_weighSet_14, r_X4_weighSet_15, r_X4_weighSet_18, r_X4_weighSet_19, r_X4_weighSet_22, r_X4_weighSet_24, r_X4_weighSet_26, r_X4_weighSet_27, r_X4_weighSet_31, r_X4_weighSet_32, r_X4_weighSet_35, r_X4_weighSet_38, r_X4_weighSet_39, r_X4_weighSet_42, r_X4_weighSet_43, r_X4_weighSet_44, r_X4_weighSet_45, r_X4_weighSet_48, r_X4_weighSet_49, r_X4_weighSet_51, r_X4_weighSet_52, r_X4_weighSet_55, r_X4_weighSet_56, r_X4_weighSet_59, r_X4_weighSet_60, r_X4_weighSet_62, r_X4_weighSet_65, r_X4_weighSet_66, r_X4_weighSet_67, r_X4_weighSet_69, r_X4_weighSet_70, r_X4_weighSet_71, r_X4_weighSet_73, r_X4_weighSet_75, r_X4_weighSet_77, r_X4_weighSet_79, r_X4_weighSet_80, r_X4_weighSet_82, r_X4_weighSet_83, r_X4_weighSet_86, r_X4_weighSet_88, r_X4_weighSet_89, r_X4_weighSet_90, r_X4_weighSet_91, r_X4_weighSet_92, r_X4_weighSet_95, r_X4_weighSet_98, r_X4_weighSet_99, r_X4_weighSet_102, r_X4_weighSet_103, r_X4_weighSet_105, r_X4_weighSet_106, gF_0, gF_1, gF_2, gF_3, gF_4, gF_5, gF_6, gF_7, gF_8, gF_9, gF_10, gF_11, gF_12, gF_13, gF_14, gF_15, gF_16, gF_17, pF_0, pF_1, pF_2, pF_3, pF_4, pF_5, pF_6, pF_7, pF_8, pF_9, pF_10, pF_11, pF_12, pF_13, pF_14, pF_15, pF_16, pF_17, gI_of, gL_of, gR_of, sI_of, sL_of, gN_of, gO_of, cl_i, cl_r, cl_l, cl_n, pu_s, pu_n, rV_s, hg_same, hg_ne, if_true, if_false, true_and, and_true, ne_eq, not_false_eq_true, not_true_eq_false, eq_self, reduceCtorEq, Nat.reduceAdd, nI_add, n_mul, n_sub, n_div, n_dec, n_dif, n_shl1, n_bit, n_eq0, n_0eq, n_eq, n_lt, n_le, n_lt0, n_ge0, n_gt0, n_le0, n_em1, n_m1e, n_m1lt0, n_m1ge0, n_m1gt0, n_m1eq0, n_m1lt, bI_eq0, bI_ne0, tb_eq0, tb_eq1, h47, show ¬ n ≤ i by omega, hz2, n_bit0, n_half, ht, n1, en, x_bitCount, x_bit, n_or, h48, ef, h2, mn_nI, show ¬ (32 : Nat) = 0 by decide, Bool.not_false, Bool.true_eq_false]
            exact ih _
          | true =>
            rw [hs] at ht
            simp only [hs, Bool.not_true, Bool.false_eq_true, if_false] at ih
            simp (disch := first | omega | assumption) only [r_X4_weighSet_0, r_X4_weighSet_1, r_X4_weighSet_4, r_X4_weighSet_7, r_X4_weighSet_8, r_X4_weighSet_9, r_X4_weighSet_10, r_X4_weighSet_11, r_X4_weighSet_12, r_X4_weighSet_13, r_X4_weighSet_14, r_X4_weighSet_15, r_X4_weighSet_18, r_X4_weighSet_19, r_X4_weighSet_22, r_X4_weighSet_24, r_X4_weighSet_26, r_X4_weighSet_27, r_X4_weighSet_31, r_X4_weighSet_32, r_X4_weighSet_35, r_X4_weighSet_38, r_X4_weighSet_39, r_X4_weighSet_42, r_X4_weighSet_43, r_X4_weighSet_44, r_X4_weighSet_45, r_X4_weighSet_48, r_X4_weighSet_49, r_X4_weighSet_51, r_X4_weighSet_52, r_X4_weighSet_55, r_X4_weighSet_56, r_X4_weighSet_59, r_X4_weighSet_60, r_X4_weighSet_62, r_X4_weighSet_65, r_X4_weighSet_66, r_X4_weighSet_67, r_X4_weighSet_69, r_X4_weighSet_70, r_X4_weighSet_71, r_X4_weighSet_73, r_X4_weighSet_75, r_X4_weighSet_77, r_X4_weighSet_79, r_X4_weighSet_80, r_X4_weighSet_82, r_X4_weighSet_83, r_X4_weighSet_86, r_X4_weighSet_88, r_X4_weighSet_89, r_X4_weighSet_90, r_X4_weighSet_91, r_X4_weighSet_92, r_X4_weighSet_95, r_X4_weighSet_98, r_X4_weighSet_99, r_X4_weighSet_102, r_X4_weighSet_103, r_X4_weighSet_105, r_X4_weighSet_106, gF_0, gF_1, gF_2, gF_3, gF_4, gF_5, gF_6, gF_7, gF_8, gF_9, gF_10, gF_11, gF_12, gF_13, gF_14, gF_15, gF_16, gF_17, pF_0, pF_1, pF_2, pF_3, pF_4, pF_5, pF_6, pF_7, pF_8, pF_9, pF_10, pF_11, pF_12, pF_13, pF_14, pF_15, pF_16, pF_17, gI_of, gL_of, gR_of, sI_of, sL_of, gN_of, gO_of, cl_i, cl_r, cl_l, cl_n, pu_s, pu_n, rV_s, hg_same, hg_ne, if_true, if_false, true_and, and_true, ne_eq, not_false_eq_true, not_true_eq_false, eq_self, reduceCtorEq, Nat.reduceAdd, nI_add, n_mul, n_sub, n_div, n_dec, n_dif, n_shl1, n_bit, n_eq0, n_0eq, n_eq, n_lt, n_le, n_lt0, n_ge0, n_gt0, n_le0, n_em1, n_m1e, n_m1lt0, n_m1ge0, n_m1gt0, n_m1eq0, n_m1lt, bI_eq0, bI_ne0, tb_eq0, tb_eq1, h47, show ¬ n ≤ i by omega, hz2, n_bit0, n_half, ht, h2, Bool.not_true, Bool.false_eq_true]
            exact ih _
    have := key 0 (by omega) none
    rw [Nat.pow_zero, Nat.div_one] at this
    exact this
theorem x_weigh {n : Nat} {G : Nat → Nat} (hG : okG n G) (hn : n ≤ 12) : ∀ l, l ≤ n → ∀ (d a m S : Nat) (f : Nat → Int32) (h : j_H) (Q : Option Value → j_H → Prop), hg h 47 = some (oB 4 [.int (nI n), .ref 48, .ref 49]) → hg h 48 = some (aI 4096 f) → (∃ R, hg h 49 = some (aR 13 R) ∧ ∀ i, i < 13 → R i = some (50 + i)) → (∀ i, i < 13 → isI h (50 + i) 12) → a = 50 + m → l ≤ m → m < 13 → nr h a 12 n G S → S < 2 ^ n → (∀ i, i < l → S.testBit i = false) → (∀ X, X < 2 ^ n → (∀ i, l ≤ i → S.testBit i = true → X.testBit i = true) → (∃ i, l ≤ i ∧ X.testBit i = true ∧ S.testBit i = false) → f X = nI (VS G n X)) →
    (∀ h1 f1, hg h1 48 = some (aI 4096 f1) → (∀ i, i < 13 → isI h1 (50 + i) 12) → (∀ X, X < 2 ^ n → (∀ i, l ≤ i → X.testBit i = S.testBit i) → f1 X = nI (VS G n X)) → (∀ X i, l ≤ i → X.testBit i ≠ S.testBit i → f1 X = f X) → Sm (fun b => b = 48 ∨ 50 ≤ b ∧ b < 50 + l) h h1 → Q none h1) →
    WP (d + l + 3) mX4_weigh 0 [some (.ref 47), some (.int (nI l)), some (.int (nI S)), some (.ref a), none, none] [] h Q := by
  intro l
  induction l with
  | zero =>
    intro _ d a m S f h Q h47 h48 h49 h50 ha hlm hm N hS hlow hpre k
    simp (disch := first | omega | assumption) only [r_X4_weigh_0, r_X4_weigh_1, r_X4_weigh_4, r_X4_weigh_5, r_X4_weigh_7, r_X4_weigh_10, r_X4_weigh_11, r_X4_weigh_12, r_X4_weigh_13, r_X4_weigh_16, r_X4_weigh_17, r_X4_weigh_18, r_X4_weigh_19, r_X4_weigh_20, r_X4_weigh_22, r_X4_weigh_23, r_X4_weigh_26, r_X4_weigh_28, r_X4_weigh_29, r_X4_weigh_31, r_X4_weigh_32, r_X4_weigh_33, r_X4_weigh_35, r_X4_weigh_36, r_X4_weigh_37, r_X4_weigh_40, r_X4_weigh_43, r_X4_weigh_45, r_X4_weigh_46, r_X4_weigh_49, r_X4_weigh_51, r_X4_weigh_54, r_X4_weigh_55, r_X4_weigh_56, r_X4_weigh_58, r_X4_weigh_59, r_X4_weigh_61, r_X4_weigh_64, r_X4_weigh_65, r_X4_weigh_67, r_X4_weigh_70, r_X4_weigh_71, r_X4_weigh_73, r_X4_weigh_74, r_X4_weigh_75, r_X4_weigh_78, gF_0, gF_1, gF_2, gF_3, gF_4, gF_5, gF_6, gF_7, gF_8, gF_9, gF_10, gF_11, gF_12, gF_13, gF_14, gF_15, gF_16, gF_17, pF_0, pF_1, pF_2, pF_3, pF_4, pF_5, pF_6, pF_7, pF_8, pF_9, pF_10, pF_11, pF_12, pF_13, pF_14, pF_15, pF_16, pF_17, gI_of, gL_of, gR_of, sI_of, sL_of, gN_of, gO_of, cl_i, cl_r, cl_l, cl_n, pu_s, pu_n, rV_s, hg_same, hg_ne, if_true, if_false, true_and, and_true, ne_eq, not_false_eq_true, not_true_eq_false, eq_self, reduceCtorEq, Nat.reduceAdd, nI_add, n_mul, n_sub, n_div, n_dec, n_dif, n_shl1, n_bit, n_eq0, n_0eq, n_eq, n_lt, n_le, n_lt0, n_ge0, n_gt0, n_le0, n_em1, n_m1e, n_m1lt0, n_m1ge0, n_m1gt0, n_m1eq0, n_m1lt, bI_eq0, bI_ne0, tb_eq0, tb_eq1, h47]
    refine x_weighSet h47 h48 N hn hS (fun i hi hs => ?_) ?_
    · refine hpre _ (or_lt12 hS hi) (fun j _ hj => by rw [tb_or_pow, hj, Bool.true_or]) ⟨i, Nat.zero_le i, ?_, hs⟩
      rw [tb_or_pow]; simp
    · simp (disch := first | omega | assumption) only [r_X4_weigh_0, r_X4_weigh_1, r_X4_weigh_4, r_X4_weigh_5, r_X4_weigh_7, r_X4_weigh_10, r_X4_weigh_11, r_X4_weigh_12, r_X4_weigh_13, r_X4_weigh_16, r_X4_weigh_17, r_X4_weigh_18, r_X4_weigh_19, r_X4_weigh_20, r_X4_weigh_22, r_X4_weigh_23, r_X4_weigh_26, r_X4_weigh_28, r_X4_weigh_29, r_X4_weigh_31, r_X4_weigh_32, r_X4_weigh_33, r_X4_weigh_35, r_X4_weigh_36, r_X4_weigh_37, r_X4_weigh_40, r_X4_weigh_43, r_X4_weigh_45, r_X4_weigh_46, r_X4_weigh_49, r_X4_weigh_51, r_X4_weigh_54, r_X4_weigh_55, r_X4_weigh_56, r_X4_weigh_58, r_X4_weigh_59, r_X4_weigh_61, r_X4_weigh_64, r_X4_weigh_65, r_X4_weigh_67, r_X4_weigh_70, r_X4_weigh_71, r_X4_weigh_73, r_X4_weigh_74, r_X4_weigh_75, r_X4_weigh_78, gF_0, gF_1, gF_2, gF_3, gF_4, gF_5, gF_6, gF_7, gF_8, gF_9, gF_10, gF_11, gF_12, gF_13, gF_14, gF_15, gF_16, gF_17, pF_0, pF_1, pF_2, pF_3, pF_4, pF_5, pF_6, pF_7, pF_8, pF_9, pF_10, pF_11, pF_12, pF_13, pF_14, pF_15, pF_16, pF_17, gI_of, gL_of, gR_of, sI_of, sL_of, gN_of, gO_of, cl_i, cl_r, cl_l, cl_n, pu_s, pu_n, rV_s, hg_same, hg_ne, if_true, if_false, true_and, and_true, ne_eq, not_false_eq_true, not_true_eq_false, eq_self, reduceCtorEq, Nat.reduceAdd, nI_add, n_mul, n_sub, n_div, n_dec, n_dif, n_shl1, n_bit, n_eq0, n_0eq, n_eq, n_lt, n_le, n_lt0, n_ge0, n_gt0, n_le0, n_em1, n_m1e, n_m1lt0, n_m1ge0, n_m1gt0, n_m1eq0, n_m1lt, bI_eq0, bI_ne0, tb_eq0, tb_eq1, h47]
      refine k _ _ (hg_same _ _ _) (fun i hi => (h50 i hi).keep (hg_ne (by omega))) (fun X hX hE => ?_) (fun X i _ hne => ?_) ((Sm.rf _ h).set (Or.inl rfl))
      · have : X = S := tb_ext (fun i => hE i (Nat.zero_le i))
        rw [this, up_same]
      · exact up_ne (fun e => hne (by rw [e]))
  | succ l ih =>
    intro hl d a m S f h Q h47 h48 h49 h50 ha hlm hm N hS hlow hpre k
    have ih := ih (by omega)
    obtain ⟨R, r1, r2⟩ := id h49
    have eR := r2 l (by omega)
    obtain ⟨g0, q0⟩ := h50 l (by omega)
    obtain ⟨fN, n1, n2⟩ := id N
    have hSl := hlow l (by omega)
    have hS20 := pow20 (show n ≤ 20 by omega) hS
    rw [show d + (l + 1) + 3 = (d + l + 3) + 1 by omega]
    simp (disch := first | omega | assumption) only [r_X4_weigh_0, r_X4_weigh_1, r_X4_weigh_4, r_X4_weigh_5, r_X4_weigh_7, r_X4_weigh_10, r_X4_weigh_11, r_X4_weigh_12, r_X4_weigh_13, r_X4_weigh_16, r_X4_weigh_17, r_X4_weigh_18, r_X4_weigh_19, r_X4_weigh_20, r_X4_weigh_22, r_X4_weigh_23, r_X4_weigh_26, r_X4_weigh_28, r_X4_weigh_29, r_X4_weigh_31, r_X4_weigh_32, r_X4_weigh_33, r_X4_weigh_35, r_X4_weigh_36, r_X4_weigh_37, r_X4_weigh_43, r_X4_weigh_45, r_X4_weigh_46, r_X4_weigh_49, r_X4_weigh_51, r_X4_weigh_54, r_X4_weigh_55, r_X4_weigh_56, r_X4_weigh_58, r_X4_weigh_59, r_X4_weigh_61, r_X4_weigh_64, r_X4_weigh_65, r_X4_weigh_67, r_X4_weigh_70, r_X4_weigh_71, r_X4_weigh_73, r_X4_weigh_74, r_X4_weigh_75, r_X4_weigh_78, gF_0, gF_1, gF_2, gF_3, gF_4, gF_5, gF_6, gF_7, gF_8, gF_9, gF_10, gF_11, gF_12, gF_13, gF_14, gF_15, gF_16, gF_17, pF_0, pF_1, pF_2, pF_3, pF_4, pF_5, pF_6, pF_7, pF_8, pF_9, pF_10, pF_11, pF_12, pF_13, pF_14, pF_15, pF_16, pF_17, gI_of, gL_of, gR_of, sI_of, sL_of, gN_of, gO_of, cl_i, cl_r, cl_l, cl_n, pu_s, pu_n, rV_s, hg_same, hg_ne, if_true, if_false, true_and, and_true, ne_eq, not_false_eq_true, not_true_eq_false, eq_self, reduceCtorEq, Nat.reduceAdd, nI_add, n_mul, n_sub, n_div, n_dec, n_dif, n_shl1, n_bit, n_eq0, n_0eq, n_eq, n_lt, n_le, n_lt0, n_ge0, n_gt0, n_le0, n_em1, n_m1e, n_m1lt0, n_m1ge0, n_m1gt0, n_m1eq0, n_m1lt, bI_eq0, bI_ne0, tb_eq0, tb_eq1, h47, show ¬ 12 < l + 1 by omega, show l + 1 ≤ 12 by omega, show ¬ l + 1 = 0 by omega, Nat.add_sub_cancel, r1, eR]
    rw [r_X4_weigh_40 (n := n) (sp := 0) (dp := 0) n1 q0 (by omega) (by omega) (by omega) (by omega) (by omega) (by omega) (by omega)]
    have N1 : nr (hs h (50 + l) (aI 12 (va_cpy fN g0 0 0 n))) (50 + l) 12 n G S := by
      refine ⟨_, hg_same _ _ _, fun u hu hs => ?_⟩
      unfold va_cpy
      rw [if_pos (by omega), show 0 + (u - 0) = u by omega]
      exact n2 u hu hs
    simp (disch := first | omega | assumption) only [r_X4_weigh_0, r_X4_weigh_1, r_X4_weigh_4, r_X4_weigh_5, r_X4_weigh_7, r_X4_weigh_10, r_X4_weigh_11, r_X4_weigh_12, r_X4_weigh_13, r_X4_weigh_16, r_X4_weigh_17, r_X4_weigh_18, r_X4_weigh_19, r_X4_weigh_20, r_X4_weigh_22, r_X4_weigh_23, r_X4_weigh_26, r_X4_weigh_28, r_X4_weigh_29, r_X4_weigh_31, r_X4_weigh_32, r_X4_weigh_33, r_X4_weigh_35, r_X4_weigh_36, r_X4_weigh_37, r_X4_weigh_40, r_X4_weigh_43, r_X4_weigh_45, r_X4_weigh_46, r_X4_weigh_49, r_X4_weigh_51, r_X4_weigh_54, r_X4_weigh_55, r_X4_weigh_56, r_X4_weigh_58, r_X4_weigh_59, r_X4_weigh_61, r_X4_weigh_64, r_X4_weigh_65, r_X4_weigh_67, r_X4_weigh_70, r_X4_weigh_71, r_X4_weigh_73, r_X4_weigh_74, r_X4_weigh_75, r_X4_weigh_78, gF_0, gF_1, gF_2, gF_3, gF_4, gF_5, gF_6, gF_7, gF_8, gF_9, gF_10, gF_11, gF_12, gF_13, gF_14, gF_15, gF_16, gF_17, pF_0, pF_1, pF_2, pF_3, pF_4, pF_5, pF_6, pF_7, pF_8, pF_9, pF_10, pF_11, pF_12, pF_13, pF_14, pF_15, pF_16, pF_17, gI_of, gL_of, gR_of, sI_of, sL_of, gN_of, gO_of, cl_i, cl_r, cl_l, cl_n, pu_s, pu_n, rV_s, hg_same, hg_ne, if_true, if_false, true_and, and_true, ne_eq, not_false_eq_true, not_true_eq_false, eq_self, reduceCtorEq, Nat.reduceAdd, nI_add, n_mul, n_sub, n_div, n_dec, n_dif, n_shl1, n_bit, n_eq0, n_0eq, n_eq, n_lt, n_le, n_lt0, n_ge0, n_gt0, n_le0, n_em1, n_m1e, n_m1lt0, n_m1ge0, n_m1gt0, n_m1eq0, n_m1lt, bI_eq0, bI_ne0, tb_eq0, tb_eq1, h47]
    refine x_letGo (d := d + l + 2) N1 hG (by omega) (by omega) (by omega) (by omega) (show l < n by omega) hSl (fun h1 N2 S2 => ?_)
    have y47 : hg h1 47 = _ := (S2.at (b := 47) (by omega)).trans ((hg_ne (by omega)).trans h47)
    have y48 : hg h1 48 = _ := (S2.at (b := 48) (by omega)).trans ((hg_ne (by omega)).trans h48)
    have y49 : ∃ R, hg h1 49 = some (aR 13 R) ∧ ∀ i, i < 13 → R i = some (50 + i) := ⟨R, (S2.at (by omega)).trans ((hg_ne (by omega)).trans r1), r2⟩
    have y50 : ∀ i, i < 13 → isI h1 (50 + i) 12 := fun i hi => by
      by_cases e : i = l
      · subst e; obtain ⟨g, g1, -⟩ := N2; exact ⟨g, g1⟩
      · exact (h50 i hi).keep ((S2.at (by omega)).trans (hg_ne (by omega)))
    have SA : Sm (fun b => b = 48 ∨ 50 ≤ b ∧ b < 50 + (l + 1)) h h1 := ((Sm.rf _ h).set (by omega)).trans (S2.mono (fun x q => by omega))
    simp (disch := first | omega | assumption) only [r_X4_weigh_1, r_X4_weigh_4, r_X4_weigh_5, r_X4_weigh_7, r_X4_weigh_10, r_X4_weigh_11, r_X4_weigh_12, r_X4_weigh_13, r_X4_weigh_16, r_X4_weigh_17, r_X4_weigh_18, r_X4_weigh_19, r_X4_weigh_20, r_X4_weigh_22, r_X4_weigh_23, r_X4_weigh_26, r_X4_weigh_28, r_X4_weigh_29, r_X4_weigh_31, r_X4_weigh_32, r_X4_weigh_33, r_X4_weigh_35, r_X4_weigh_36, r_X4_weigh_37, r_X4_weigh_40, r_X4_weigh_43, r_X4_weigh_45, r_X4_weigh_46, r_X4_weigh_49, r_X4_weigh_51, r_X4_weigh_54, r_X4_weigh_55, r_X4_weigh_56, r_X4_weigh_58, r_X4_weigh_59, r_X4_weigh_61, r_X4_weigh_64, r_X4_weigh_65, r_X4_weigh_67, r_X4_weigh_70, r_X4_weigh_71, r_X4_weigh_73, r_X4_weigh_74, r_X4_weigh_75, r_X4_weigh_78, gF_0, gF_1, gF_2, gF_3, gF_4, gF_5, gF_6, gF_7, gF_8, gF_9, gF_10, gF_11, gF_12, gF_13, gF_14, gF_15, gF_16, gF_17, pF_0, pF_1, pF_2, pF_3, pF_4, pF_5, pF_6, pF_7, pF_8, pF_9, pF_10, pF_11, pF_12, pF_13, pF_14, pF_15, pF_16, pF_17, gI_of, gL_of, gR_of, sI_of, sL_of, gN_of, gO_of, cl_i, cl_r, cl_l, cl_n, pu_s, pu_n, rV_s, hg_same, hg_ne, if_true, if_false, true_and, and_true, ne_eq, not_false_eq_true, not_true_eq_false, eq_self, reduceCtorEq, Nat.reduceAdd, nI_add, n_mul, n_sub, n_div, n_dec, n_dif, n_shl1, n_bit, n_eq0, n_0eq, n_eq, n_lt, n_le, n_lt0, n_ge0, n_gt0, n_le0, n_em1, n_m1e, n_m1lt0, n_m1ge0, n_m1gt0, n_m1eq0, n_m1lt, bI_eq0, bI_ne0, tb_eq0, tb_eq1, y47, x_bit, n_or]
    refine ih d (50 + l) l (S ||| 2 ^ l) f h1 _ y47 y48 y49 y50 rfl (Nat.le_refl l) (by omega) N2 (or_lt12 hS (by omega)) (fun i hi => ?_) (fun X hX h1 h2 => ?_) (fun h2 f2 z48 z50 zV zK S3 => ?_)
    · rw [tb_or_pow, hlow i (by omega)]; simp; omega
    · obtain ⟨i, i1, i2, i3⟩ := h2
      rw [tb_or_pow, Bool.or_eq_false_iff, decide_eq_false_iff_not] at i3
      refine hpre X hX (fun j hj hs => h1 j (by omega) (by rw [tb_or_pow, hs, Bool.true_or])) ⟨i, by omega, i2, i3.1⟩
    · have z47 : hg h2 47 = _ := (S3.at (b := 47) (by omega)).trans y47
      have z49 : ∃ R, hg h2 49 = some (aR 13 R) ∧ ∀ i, i < 13 → R i = some (50 + i) := by
        obtain ⟨R, q1, q2⟩ := y49
        exact ⟨R, (S3.at (by omega)).trans q1, q2⟩
      have z50' : ∀ i, i < 13 → isI h2 (50 + i) 12 := z50
      have SB : Sm (fun b => b = 48 ∨ 50 ≤ b ∧ b < 50 + (l + 1)) h h2 := SA.trans (S3.mono (fun x q => by omega))
      have NB : nr h2 a 12 n G S := ⟨fN, by rw [SB.at (by omega)]; exact n1, n2⟩
      simp (disch := first | omega | assumption) only [r_X4_weigh_1, r_X4_weigh_4, r_X4_weigh_5, r_X4_weigh_7, r_X4_weigh_10, r_X4_weigh_11, r_X4_weigh_12, r_X4_weigh_13, r_X4_weigh_16, r_X4_weigh_17, r_X4_weigh_18, r_X4_weigh_19, r_X4_weigh_20, r_X4_weigh_22, r_X4_weigh_23, r_X4_weigh_26, r_X4_weigh_28, r_X4_weigh_29, r_X4_weigh_31, r_X4_weigh_32, r_X4_weigh_33, r_X4_weigh_35, r_X4_weigh_36, r_X4_weigh_37, r_X4_weigh_40, r_X4_weigh_43, r_X4_weigh_45, r_X4_weigh_46, r_X4_weigh_49, r_X4_weigh_51, r_X4_weigh_54, r_X4_weigh_55, r_X4_weigh_56, r_X4_weigh_58, r_X4_weigh_59, r_X4_weigh_61, r_X4_weigh_64, r_X4_weigh_65, r_X4_weigh_67, r_X4_weigh_70, r_X4_weigh_71, r_X4_weigh_73, r_X4_weigh_74, r_X4_weigh_75, r_X4_weigh_78, gF_0, gF_1, gF_2, gF_3, gF_4, gF_5, gF_6, gF_7, gF_8, gF_9, gF_10, gF_11, gF_12, gF_13, gF_14, gF_15, gF_16, gF_17, pF_0, pF_1, pF_2, pF_3, pF_4, pF_5, pF_6, pF_7, pF_8, pF_9, pF_10, pF_11, pF_12, pF_13, pF_14, pF_15, pF_16, pF_17, gI_of, gL_of, gR_of, sI_of, sL_of, gN_of, gO_of, cl_i, cl_r, cl_l, cl_n, pu_s, pu_n, rV_s, hg_same, hg_ne, if_true, if_false, true_and, and_true, ne_eq, not_false_eq_true, not_true_eq_false, eq_self, reduceCtorEq, Nat.reduceAdd, nI_add, n_mul, n_sub, n_div, n_dec, n_dif, n_shl1, n_bit, n_eq0, n_0eq, n_eq, n_lt, n_le, n_lt0, n_ge0, n_gt0, n_le0, n_em1, n_m1e, n_m1lt0, n_m1ge0, n_m1gt0, n_m1eq0, n_m1lt, bI_eq0, bI_ne0, tb_eq0, tb_eq1, z47]
      refine ih d a m S f2 h2 _ z47 z48 z49 z50' ha (by omega) hm NB hS (fun i hi => hlow i (by omega)) (fun X hX h1 h2 => ?_) (fun h3 f3 w48 w50 wV wK S4 => ?_)
      · cases hXl : X.testBit l with
        | true =>
          by_cases hE : ∃ i, l + 1 ≤ i ∧ X.testBit i ≠ S.testBit i
          · obtain ⟨i, i1, i2⟩ := hE
            have i3 : X.testBit i ≠ (S ||| 2 ^ l).testBit i := by
              rw [tb_or_pow, show decide (i = l) = false by simp; omega, Bool.or_false]; exact i2
            rw [zK X i (by omega) i3]
            refine hpre X hX (fun j hj hs => h1 j (by omega) hs) ⟨i, i1, ?_⟩
            cases hs : S.testBit i with
            | true => rw [h1 i (by omega) hs, hs] at i2; exact absurd rfl i2
            | false =>
              cases hx : X.testBit i with
              | true => exact ⟨rfl, rfl⟩
              | false => rw [hx, hs] at i2; exact absurd rfl i2
          · refine zV X hX (fun i hi => ?_)
            rw [tb_or_pow]
            by_cases e : i = l
            · subst e; rw [hXl]; simp
            · have : X.testBit i = S.testBit i := by
                cases hd : decide (X.testBit i = S.testBit i) with
                | true => exact of_decide_eq_true hd
                | false => exact absurd ⟨i, by omega, of_decide_eq_false hd⟩ hE
              rw [this]; simp [e]
        | false =>
          obtain ⟨i, i1, i2, i3⟩ := h2
          have hil : i ≠ l := fun e => by rw [e, hXl] at i2; cases i2
          rw [zK X l (Nat.le_refl l) (by rw [hXl, tb_or_pow]; simp)]
          exact hpre X hX (fun j hj hs => h1 j (by omega) hs) ⟨i, by omega, i2, i3⟩
      · simp (disch := first | omega | assumption) only [r_X4_weigh_1, r_X4_weigh_4, r_X4_weigh_5, r_X4_weigh_7, r_X4_weigh_10, r_X4_weigh_11, r_X4_weigh_12, r_X4_weigh_13, r_X4_weigh_16, r_X4_weigh_17, r_X4_weigh_18, r_X4_weigh_19, r_X4_weigh_20, r_X4_weigh_22, r_X4_weigh_23, r_X4_weigh_26, r_X4_weigh_28, r_X4_weigh_29, r_X4_weigh_31, r_X4_weigh_32, r_X4_weigh_33, r_X4_weigh_35, r_X4_weigh_36, r_X4_weigh_37, r_X4_weigh_40, r_X4_weigh_43, r_X4_weigh_45, r_X4_weigh_46, r_X4_weigh_49, r_X4_weigh_51, r_X4_weigh_54, r_X4_weigh_55, r_X4_weigh_56, r_X4_weigh_58, r_X4_weigh_59, r_X4_weigh_61, r_X4_weigh_64, r_X4_weigh_65, r_X4_weigh_67, r_X4_weigh_70, r_X4_weigh_71, r_X4_weigh_73, r_X4_weigh_74, r_X4_weigh_75, r_X4_weigh_78, gF_0, gF_1, gF_2, gF_3, gF_4, gF_5, gF_6, gF_7, gF_8, gF_9, gF_10, gF_11, gF_12, gF_13, gF_14, gF_15, gF_16, gF_17, pF_0, pF_1, pF_2, pF_3, pF_4, pF_5, pF_6, pF_7, pF_8, pF_9, pF_10, pF_11, pF_12, pF_13, pF_14, pF_15, pF_16, pF_17, gI_of, gL_of, gR_of, sI_of, sL_of, gN_of, gO_of, cl_i, cl_r, cl_l, cl_n, pu_s, pu_n, rV_s, hg_same, hg_ne, if_true, if_false, true_and, and_true, ne_eq, not_false_eq_true, not_true_eq_false, eq_self, reduceCtorEq, Nat.reduceAdd, nI_add, n_mul, n_sub, n_div, n_dec, n_dif, n_shl1, n_bit, n_eq0, n_0eq, n_eq, n_lt, n_le, n_lt0, n_ge0, n_gt0, n_le0, n_em1, n_m1e, n_m1lt0, n_m1ge0, n_m1gt0, n_m1eq0, n_m1lt, bI_eq0, bI_ne0, tb_eq0, tb_eq1, z47]
        refine k h3 f3 w48 w50 (fun X hX hE => ?_) (fun X i hi hne => ?_) (SB.trans (S4.mono (fun x q => by omega)))
        · cases hXl : X.testBit l with
          | true =>
            rw [wK X l (Nat.le_refl l) (by rw [hXl, hSl]; decide)]
            refine zV X hX (fun i hi => ?_)
            rw [tb_or_pow]
            by_cases e : i = l
            · subst e; rw [hXl]; simp
            · rw [hE i (by omega)]; simp [e]
          | false =>
            refine wV X hX (fun i hi => ?_)
            by_cases e : i = l
            · subst e; rw [hXl, hSl]
            · exact hE i (by omega)
        · rw [wK X i (by omega) hne]
          refine zK X i (by omega) ?_
          rw [tb_or_pow, show decide (i = l) = false by simp; omega, Bool.or_false]; exact hne
