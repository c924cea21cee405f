theorem pc_0 {A n : Nat} (hA : A < 2 ^ n) (h : pc A n = 0) : A = 0 := by
  apply tb_ext
  intro i
  rw [Nat.zero_testBit]
  cases hb : A.testBit i with
  | false => rfl
  | true =>
    exfalso
    have hi := tb_bd hA hb
    have : ∀ k, i < k → 1 ≤ pc A k := by
      intro k
      induction k with
      | zero => intro h; omega
      | succ k ih =>
        intro h
        rw [pc]
        by_cases e : i = k
        · subst e; rw [tb_1 hb]; omega
        · have := ih (by omega); omega
    have := this n hi
    omega
theorem pc_new {S g n : Nat} (hg : g < n) (hS : S.testBit g = false) : pc (S ||| 2 ^ g) n = pc S n + 1 := by
  have h : pc (S ||| 2 ^ g) n = sm (fun i => tb S i + (if i = g then 1 else 0)) n := by
    rw [pc_sm]
    refine sm_ext (fun i _ => ?_)
    unfold tb
    rw [tb_or_pow]
    by_cases e : i = g
    · subst e; simp [hS]
    · simp [e]
  rw [h, sm_add, ← pc_sm, sm_one, if_pos hg]
theorem pc_out {A b n : Nat} (hA : A < 2 ^ 20) (hb : b < n) (h : A.testBit b = true) : pc (df A (2 ^ b)) n + 1 = pc A n := by
  have h1 : (df A (2 ^ b)).testBit b = false := by
    cases hx : (df A (2 ^ b)).testBit b with
    | false => rfl
    | true =>
      have := ((df_tb hA).mp hx).2
      rw [tb_pow] at this
      simp at this
  rw [← pc_new hb h1]
  congr 1
  apply tb_iff
  intro i
  rw [tb_add, df_tb hA, tb_pow, decide_eq_false_iff_not]
  constructor
  · rintro (h2 | h2)
    · exact h2.1
    · subst h2; exact h
  · intro h2
    by_cases e : i = b
    · exact Or.inr e
    · exact Or.inl ⟨h2, e⟩
/-- a set's nodes put behind, those of least weight first -/
def put (w : Nat → Nat) (n : Nat) : Nat → Nat → Nat → (Nat → Nat) → Nat × (Nat → Nat)
  | 0, _, e, o => (e, o)
  | f + 1, A, e, o => match lo (fun i => A.testBit i) w n with
    | none => (e, o)
    | some b => put w n f (df A (2 ^ b)) (e + 1) (up o e b)
theorem gb_ext {o o' : Nat → Nat} : ∀ k, (∀ i, i < k → o i = o' i) → gb o k = gb o' k := by
  intro k
  induction k with
  | zero => intro _; rfl
  | succ k ih => intro h; rw [gb_s, gb_s, ih (fun i hi => h i (by omega)), h k (by omega)]
theorem gb_up (o : Nat → Nat) (e b : Nat) : gb (up o e b) (e + 1) = gb o e ||| 2 ^ b := by
  rw [gb_s, up_same, gb_ext (o := up o e b) (o' := o) e (fun i hi => up_ne (by omega))]
def okO (n e : Nat) (o : Nat → Nat) : Prop := (∀ i, i < e → o i < n ∧ (gb o i).testBit (o i) = false) ∧ pc (gb o e) n = e
theorem okO.new {n e b : Nat} {o : Nat → Nat} (H : okO n e o) (hb : b < n) (hS : (gb o e).testBit b = false) : okO n (e + 1) (up o e b) := by
  refine ⟨fun i hi => ?_, ?_⟩
  · rw [gb_ext (o := up o e b) (o' := o) i (fun j hj => up_ne (by omega))]
    by_cases h : i = e
    · subst h; rw [up_same]; exact ⟨hb, hS⟩
    · rw [up_ne h]; exact H.1 i (by omega)
  · rw [gb_up, pc_new hb hS, H.2]
theorem okO.le {n e : Nat} {o : Nat → Nat} (H : okO n e o) : e ≤ n := by
  have := pc_le (gb o e) n
  rw [H.2] at this
  exact this
theorem okO.perm {n : Nat} {o : Nat → Nat} (H : okO n n o) : perm n o := perm_of H.1
theorem put_spec {w : Nat → Nat} {n : Nat} (hn : n ≤ 20) : ∀ F A e o, A < 2 ^ n → pc A n ≤ F → okO n e o → (∀ i, A.testBit i = true → (gb o e).testBit i = false) → okO n (put w n F A e o).1 (put w n F A e o).2 ∧ (∀ i, i < e → (put w n F A e o).2 i = o i) ∧ e ≤ (put w n F A e o).1 ∧ gb (put w n F A e o).2 (put w n F A e o).1 = gb o e ||| A := by
  intro F
  induction F with
  | zero =>
    intro A e o hA hF H hd
    have hz := pc_0 hA (by omega)
    subst hz
    exact ⟨H, fun i _ => rfl, Nat.le_refl e, by rw [Nat.or_zero]; rfl⟩
  | succ F ih =>
    intro A e o hA hF H hd
    rw [put]
    cases hl : lo (fun i => A.testBit i) w n with
    | none =>
      have hz : A = 0 := by
        apply tb_ext
        intro i
        rw [Nat.zero_testBit]
        cases hb : A.testBit i with
        | false => rfl
        | true =>
          obtain ⟨b, hb'⟩ := lo_some (q := fun i => A.testBit i) (w := w) n i (tb_bd hA hb) hb
          rw [hl] at hb'; cases hb'
      subst hz
      exact ⟨H, fun i _ => rfl, Nat.le_refl e, by rw [Nat.or_zero]⟩
    | some b =>
      have hb := lo_lt n b hl
      have hb2 : A.testBit b = true := hb.2
      have hA20 := pow20 hn hA
      have hnew := hd b hb2
      have hp := pc_out hA20 hb.1 hb2
      simp only
      obtain ⟨i1, i2, i3, i4⟩ := ih (df A (2 ^ b)) (e + 1) (up o e b) (Nat.lt_of_le_of_lt (df_le _ _) hA) (by omega) (H.new hb.1 hnew) (fun i hi => by
        have h1 := (df_tb hA20).mp hi
        rw [gb_up, tb_or_pow, hd i h1.1]
        have h2 := h1.2
        rw [tb_pow] at h2
        rw [h2]; rfl)
      refine ⟨i1, fun i hi => ?_, by omega, ?_⟩
      · rw [i2 i (by omega), up_ne (by omega)]
      · rw [i4, gb_up]
        apply tb_iff
        intro i
        rw [Nat.testBit_or, Nat.testBit_or, Nat.testBit_or, Bool.or_eq_true, Bool.or_eq_true, Bool.or_eq_true, df_tb hA20, tb_pow, decide_eq_true_iff, decide_eq_false_iff_not]
        constructor
        · rintro ((h | h) | h)
          · exact Or.inl h
          · subst h; exact Or.inr hb2
          · exact Or.inr h.1
        · rintro (h | h)
          · exact Or.inl (Or.inl h)
          · by_cases e2 : i = b
            · exact Or.inl (Or.inr e2)
            · exact Or.inr ⟨h, e2⟩
theorem lo_pow {w : Nat → Nat} {n s : Nat} (hs : s < n) : lo (fun i => Nat.testBit (2 ^ s) i) w n = some s := by
  obtain ⟨b, hb⟩ := lo_some (q := fun i => Nat.testBit (2 ^ s) i) (w := w) n s hs (by rw [tb_pow]; simp)
  have h1 := (lo_lt n b hb).2
  rw [tb_pow, decide_eq_true_iff] at h1
  rw [hb, h1]
theorem lo_0 {w : Nat → Nat} {n : Nat} : lo (fun i => Nat.testBit 0 i) w n = none := by
  cases h : lo (fun i => Nat.testBit 0 i) w n with
  | none => rfl
  | some b => have := (lo_lt n b h).2; rw [Nat.zero_testBit] at this; cases this
theorem df_self (s : Nat) (hs : s < 20) : df (2 ^ s) (2 ^ s) = 0 := by
  apply tb_ext
  intro i
  rw [tb_df (pow_lt (by omega)), Nat.zero_testBit]
  cases (Nat.testBit (2 ^ s) i) <;> rfl
theorem put_one {w : Nat → Nat} {n s e F : Nat} {o : Nat → Nat} (hn : n ≤ 20) (hs : s < n) : put w n (F + 2) (2 ^ s) e o = (e + 1, up o e s) := by
  rw [put, lo_pow hs]
  simp only
  rw [df_self s (by omega), put, lo_0]
/-- the order by breadth, before it is turned round: how many, and which -/
def brA (G : Nat → Nat) (n k : Nat) (s : Nat × (Nat → Nat)) : Nat × (Nat → Nat) := if k = s.1 then (match lo (fun i => (cpl n (gb s.2 s.1)).testBit i) (fun i => pc (G i) 20) n with | none => s | some b => (s.1 + 1, up s.2 s.1 b)) else s
def brB (G : Nat → Nat) (n k : Nat) (s : Nat × (Nat → Nat)) : Nat × (Nat → Nat) := put (fun i => pc (G i) 20) n 20 (df (G (s.2 k)) (gb s.2 s.1)) s.1 s.2
def br (G : Nat → Nat) (n : Nat) : Nat → Nat × (Nat → Nat)
  | 0 => (0, fun _ => 0)
  | k + 1 => brB G n k (brA G n k (br G n k))
theorem brA_spec {G : Nat → Nat} {n k : Nat} {s : Nat × (Nat → Nat)} (hn : n ≤ 20) (H : okO n s.1 s.2) (hk : k < n) (hke : k ≤ s.1) : okO n (brA G n k s).1 (brA G n k s).2 ∧ k < (brA G n k s).1 ∧ s.1 ≤ (brA G n k s).1 ∧ (∀ i, i < s.1 → (brA G n k s).2 i = s.2 i) ∧ (k = s.1 → ∃ b, b < n ∧ (gb s.2 s.1).testBit b = false ∧ lo (fun i => (cpl n (gb s.2 s.1)).testBit i) (fun i => pc (G i) 20) n = some b ∧ brA G n k s = (s.1 + 1, up s.2 s.1 b)) := by
  by_cases e : k = s.1
  · obtain ⟨v, v1, v2⟩ := ex_free (o := s.2) (n := n) (k := s.1) (by omega)
    obtain ⟨b, hb⟩ := lo_some (q := fun i => (cpl n (gb s.2 s.1)).testBit i) (w := fun i => pc (G i) 20) n v v1 (by rw [cpl_tb, v2]; simp [v1])
    have hl := lo_lt n b hb
    have hl2 : (gb s.2 s.1).testBit b = false := by
      have := hl.2
      rw [cpl_tb, Bool.and_eq_true, Bool.not_eq_true'] at this
      exact this.2
    have hE : brA G n k s = (s.1 + 1, up s.2 s.1 b) := by
      unfold brA
      rw [if_pos e, hb]
    rw [hE]
    exact ⟨H.new hl.1 hl2, by show k < s.1 + 1; omega, by show s.1 ≤ s.1 + 1; omega, fun i hi => up_ne (by omega), fun _ => ⟨b, hl.1, hl2, hb, rfl⟩⟩
  · have hE : brA G n k s = s := by unfold brA; rw [if_neg e]
    rw [hE]
    exact ⟨H, by omega, Nat.le_refl _, fun i _ => rfl, fun q => absurd q e⟩
theorem brB_spec {G : Nat → Nat} {n k : Nat} {s : Nat × (Nat → Nat)} (hG : okG n G) (hn : n ≤ 20) (H : okO n s.1 s.2) : okO n (brB G n k s).1 (brB G n k s).2 ∧ (∀ i, i < s.1 → (brB G n k s).2 i = s.2 i) ∧ s.1 ≤ (brB G n k s).1 ∧ gb (brB G n k s).2 (brB G n k s).1 = gb s.2 s.1 ||| df (G (s.2 k)) (gb s.2 s.1) := by
  have hA : df (G (s.2 k)) (gb s.2 s.1) < 2 ^ n := Nat.lt_of_le_of_lt (df_le _ _) (hG.2.2 _)
  exact put_spec hn 20 _ _ _ hA (Nat.le_trans (pc_le _ _) hn) H (fun i hi => ((df_tb (pow20 hn (hG.2.2 _))).mp hi).2)
theorem br_ok {G : Nat → Nat} {n : Nat} (hG : okG n G) (hn : n ≤ 20) : ∀ k, k ≤ n → okO n (br G n k).1 (br G n k).2 ∧ k ≤ (br G n k).1 := by
  intro k
  induction k with
  | zero =>
    intro _
    refine ⟨⟨fun i hi => by have hi : i < 0 := hi; omega, ?_⟩, Nat.le_refl 0⟩
    show pc 0 n = 0
    rw [pc_sm, sm_0 n (fun i _ => tb_0 (Nat.zero_testBit i))]
  | succ k ih =>
    intro hk
    obtain ⟨i1, i2⟩ := ih (by omega)
    obtain ⟨a1, a2, -, -, -⟩ := brA_spec (G := G) hn i1 (show k < n by omega) i2
    obtain ⟨b1, -, b3, -⟩ := brB_spec (k := k) hG hn a1
    rw [br]
    exact ⟨b1, by omega⟩
theorem br_keep {G : Nat → Nat} {n : Nat} (hG : okG n G) (hn : n ≤ 20) {k : Nat} (hk : k ≤ n) : ∀ m, k ≤ m → m ≤ n → (br G n k).1 ≤ (br G n m).1 ∧ ∀ i, i < (br G n k).1 → (br G n m).2 i = (br G n k).2 i := by
  intro m h
  induction h with
  | refl => intro _; exact ⟨Nat.le_refl _, fun i _ => rfl⟩
  | step h ih =>
    rename_i m
    intro hm
    obtain ⟨i1, i2⟩ := ih (by omega)
    obtain ⟨o1, o2⟩ := br_ok hG hn m (by omega)
    obtain ⟨a1, a2, a3, a4, -⟩ := brA_spec (G := G) hn o1 (show m < n by omega) o2
    obtain ⟨b1, b2, b3, -⟩ := brB_spec (k := m) hG hn a1
    rw [br]
    refine ⟨by omega, fun i hi => ?_⟩
    rw [b2 i (by omega), a4 i (by omega), i2 i hi]
theorem br_end {G : Nat → Nat} {n : Nat} (hG : okG n G) (hn : n ≤ 20) : (br G n n).1 = n ∧ perm n (br G n n).2 := by
  obtain ⟨h1, h2⟩ := br_ok hG hn n (Nat.le_refl n)
  have h3 := h1.le
  have e : (br G n n).1 = n := by omega
  rw [e] at h1
  exact ⟨e, h1.perm⟩
def rv (n : Nat) (o : Nat → Nat) : Nat → Nat → Nat
  | 0 => o
  | k + 1 => swo (rv n o k) k (n - 1 - k)
theorem rv_perm {n : Nat} {o : Nat → Nat} (ho : perm n o) : ∀ k, k ≤ n / 2 → perm n (rv n o k) := by
  intro k
  induction k with
  | zero => intro _; exact ho
  | succ k ih => intro hk; exact swo_perm (ih (by omega)) (by omega) (by omega)
theorem x_turnRound {d n : Nat} {o : Nat → Nat} {h : j_H} {Q : Option Value → j_H → Prop} (hO : xO h n o) (hn : 1 ≤ n ∧ n ≤ 20) (kk : ∀ h1, hI h1 36 20 n (fun i => nI (rv n o (n / 2) i)) → Sm (fun b => b = 36) h h1 → Q none h1) : WP (d + 1) mX8_turnRound 0 [some (.ref 35), some (.int (nI n)), none] [] h Q := by
  have e35 := hO.1
  simp (disch := first | omega | assumption) only [r_X8_turnRound_0, r_X8_turnRound_1, r_X8_turnRound_3, r_X8_turnRound_4, r_X8_turnRound_5, r_X8_turnRound_6, r_X8_turnRound_9, r_X8_turnRound_10, r_X8_turnRound_11, r_X8_turnRound_12, r_X8_turnRound_13, r_X8_turnRound_14, r_X8_turnRound_15, r_X8_turnRound_16, r_X8_turnRound_19, r_X8_turnRound_22, r_X8_turnRound_25, gF_0, gF_1, gF_2, gF_3, gF_4, gF_5, gF_6, gF_7, gF_8, gF_9, gF_10, gF_11, gF_12, gF_13, gF_14, gF_15, gF_16, gF_17, pF_0, pF_1, pF_2, pF_3, pF_4, pF_5, pF_6, pF_7, pF_8, pF_9, pF_10, pF_11, pF_12, pF_13, pF_14, pF_15, pF_16, pF_17, gI_of, gL_of, gR_of, sI_of, sL_of, gN_of, gO_of, cl_i, cl_r, cl_l, cl_n, pu_s, pu_n, rV_s, hg_same, hg_ne, if_true, if_false, true_and, and_true, ne_eq, not_false_eq_true, not_true_eq_false, eq_self, reduceCtorEq, Nat.reduceAdd, nI_add, n_mul, n_sub, n_div, n_dec, n_dif, n_shl1, n_bit, n_eq0, n_0eq, n_eq, n_lt, n_le, n_lt0, n_ge0, n_gt0, n_le0, n_em1, n_m1e, n_m1lt0, n_m1ge0, n_m1gt0, n_m1eq0, n_m1lt, bI_eq0, bI_ne0, tb_eq0, tb_eq1, e35]
  have key : ∀ k, k ≤ n / 2 → ∀ h', xO h' n (rv n o k) → Sm (fun b => b = 36) h h' → WP (d + 1) mX8_turnRound 2 [some (.ref 35), some (.int (nI n)), some (.int (nI k))] [] h' Q := by
    refine lup (P := fun k => ∀ h', xO h' n (rv n o k) → Sm (fun b => b = 36) h h' → WP (d + 1) mX8_turnRound 2 [some (.ref 35), some (.int (nI n)), some (.int (nI k))] [] h' Q) ?_ ?_
    · intro h' H hS
      rw [r_X8_turnRound_2]
      simp (disch := first | omega | assumption) only [r_X8_turnRound_0, r_X8_turnRound_1, r_X8_turnRound_3, r_X8_turnRound_4, r_X8_turnRound_5, r_X8_turnRound_6, r_X8_turnRound_9, r_X8_turnRound_10, r_X8_turnRound_11, r_X8_turnRound_12, r_X8_turnRound_13, r_X8_turnRound_14, r_X8_turnRound_15, r_X8_turnRound_16, r_X8_turnRound_19, r_X8_turnRound_22, r_X8_turnRound_25, gF_0, gF_1, gF_2, gF_3, gF_4, gF_5, gF_6, gF_7, gF_8, gF_9, gF_10, gF_11, gF_12, gF_13, gF_14, gF_15, gF_16, gF_17, pF_0, pF_1, pF_2, pF_3, pF_4, pF_5, pF_6, pF_7, pF_8, pF_9, pF_10, pF_11, pF_12, pF_13, pF_14, pF_15, pF_16, pF_17, gI_of, gL_of, gR_of, sI_of, sL_of, gN_of, gO_of, cl_i, cl_r, cl_l, cl_n, pu_s, pu_n, rV_s, hg_same, hg_ne, if_true, if_false, true_and, and_true, ne_eq, not_false_eq_true, not_true_eq_false, eq_self, reduceCtorEq, Nat.reduceAdd, nI_add, n_mul, n_sub, n_div, n_dec, n_dif, n_shl1, n_bit, n_eq0, n_0eq, n_eq, n_lt, n_le, n_lt0, n_ge0, n_gt0, n_le0, n_em1, n_m1e, n_m1lt0, n_m1ge0, n_m1gt0, n_m1eq0, n_m1lt, bI_eq0, bI_ne0, tb_eq0, tb_eq1, Nat.le_refl, show ¬ (2 : Nat) = 0 by decide]
      exact kk h' H.2 hS
    · intro k hk ih h' H hS
      have e := H.1
      rw [r_X8_turnRound_2]
      simp (disch := first | omega | assumption) only [r_X8_turnRound_0, r_X8_turnRound_1, r_X8_turnRound_3, r_X8_turnRound_4, r_X8_turnRound_5, r_X8_turnRound_6, r_X8_turnRound_9, r_X8_turnRound_10, r_X8_turnRound_11, r_X8_turnRound_12, r_X8_turnRound_13, r_X8_turnRound_14, r_X8_turnRound_15, r_X8_turnRound_16, r_X8_turnRound_19, r_X8_turnRound_22, r_X8_turnRound_25, gF_0, gF_1, gF_2, gF_3, gF_4, gF_5, gF_6, gF_7, gF_8, gF_9, gF_10, gF_11, gF_12, gF_13, gF_14, gF_15, gF_16, gF_17, pF_0, pF_1, pF_2, pF_3, pF_4, pF_5, pF_6, pF_7, pF_8, pF_9, pF_10, pF_11, pF_12, pF_13, pF_14, pF_15, pF_16, pF_17, gI_of, gL_of, gR_of, sI_of, sL_of, gN_of, gO_of, cl_i, cl_r, cl_l, cl_n, pu_s, pu_n, rV_s, hg_same, hg_ne, if_true, if_false, true_and, and_true, ne_eq, not_false_eq_true, not_true_eq_false, eq_self, reduceCtorEq, Nat.reduceAdd, nI_add, n_mul, n_sub, n_div, n_dec, n_dif, n_shl1, n_bit, n_eq0, n_0eq, n_eq, n_lt, n_le, n_lt0, n_ge0, n_gt0, n_le0, n_em1, n_m1e, n_m1lt0, n_m1ge0, n_m1gt0, n_m1eq0, n_m1lt, bI_eq0, bI_ne0, tb_eq0, tb_eq1, show ¬ n / 2 ≤ k by omega, show ¬ (2 : Nat) = 0 by decide, e]
      refine x_swap H hn.2 (show k < n by omega) (show n - 1 - k < n by omega) (fun h1 O1 S1 => ?_)
      simp (disch := first | omega | assumption) only [r_X8_turnRound_0, r_X8_turnRound_1, r_X8_turnRound_3, r_X8_turnRound_4, r_X8_turnRound_5, r_X8_turnRound_6, r_X8_turnRound_9, r_X8_turnRound_10, r_X8_turnRound_11, r_X8_turnRound_12, r_X8_turnRound_13, r_X8_turnRound_14, r_X8_turnRound_15, r_X8_turnRound_16, r_X8_turnRound_19, r_X8_turnRound_22, r_X8_turnRound_25, gF_0, gF_1, gF_2, gF_3, gF_4, gF_5, gF_6, gF_7, gF_8, gF_9, gF_10, gF_11, gF_12, gF_13, gF_14, gF_15, gF_16, gF_17, pF_0, pF_1, pF_2, pF_3, pF_4, pF_5, pF_6, pF_7, pF_8, pF_9, pF_10, pF_11, pF_12, pF_13, pF_14, pF_15, pF_16, pF_17, gI_of, gL_of, gR_of, sI_of, sL_of, gN_of, gO_of, cl_i, cl_r, cl_l, cl_n, pu_s, pu_n, rV_s, hg_same, hg_ne, if_true, if_false, true_and, and_true, ne_eq, not_false_eq_true, not_true_eq_false, eq_self, reduceCtorEq, Nat.reduceAdd, nI_add, n_mul, n_sub, n_div, n_dec, n_dif, n_shl1, n_bit, n_eq0, n_0eq, n_eq, n_lt, n_le, n_lt0, n_ge0, n_gt0, n_le0, n_em1, n_m1e, n_m1lt0, n_m1ge0, n_m1gt0, n_m1eq0, n_m1lt, bI_eq0, bI_ne0, tb_eq0, tb_eq1, e]
      exact ih h1 ⟨(S1.at (by omega)).trans e, O1⟩ (hS.trans S1)
  exact key 0 (by omega) h hO (Sm.rf _ h)
theorem x_putBehind {d n : Nat} {G : Nat → Nat} {h : j_H} {Q : Option Value → j_H → Prop} (e44 : hg h 44 = some (oB 6 [.ref 45])) (e35 : hg h 35 = some (oB 8 [.ref 36])) (e45 : hg h 45 = some (oB 3 [.int (nI n), .ref 46])) (N : nr h 46 20 n G 0) (hG : okG n G) (hn : n ≤ 20) {A e : Nat} {o : Nat → Nat} {f : Nat → Int32} (hA : A < 2 ^ n) (H : okO n e o) (hd : ∀ i, A.testBit i = true → (gb o e).testBit i = false) (h36 : hg h 36 = some (aI 20 f)) (hf : ∀ i, i < e → f i = nI (o i))
    (k : ∀ h1 f1, Sm (fun b => b = 36) h h1 → hg h1 36 = some (aI 20 f1) → (∀ i, i < (put (fun i => pc (G i) 20) n 20 A e o).1 → f1 i = nI ((put (fun i => pc (G i) 20) n 20 A e o).2 i)) → Q (some (.int (nI (put (fun i => pc (G i) 20) n 20 A e o).1))) h1) : WP (d + 3) mX6_putBehind 0 [some (.ref 44), some (.ref 35), some (.int (nI e)), some (.int (nI A)), none, none, none] [] h Q := by
  simp (disch := first | omega | assumption) only [r_X6_putBehind_0, r_X6_putBehind_1, r_X6_putBehind_3, r_X6_putBehind_4, r_X6_putBehind_8, r_X6_putBehind_10, r_X6_putBehind_13, r_X6_putBehind_15, r_X6_putBehind_18, r_X6_putBehind_19, r_X6_putBehind_22, r_X6_putBehind_24, r_X6_putBehind_27, r_X6_putBehind_29, r_X6_putBehind_31, r_X6_putBehind_32, r_X6_putBehind_35, r_X6_putBehind_37, r_X6_putBehind_38, r_X6_putBehind_40, r_X6_putBehind_42, r_X6_putBehind_45, r_X6_putBehind_46, r_X6_putBehind_47, r_X6_putBehind_48, r_X6_putBehind_50, r_X6_putBehind_51, r_X6_putBehind_54, r_X6_putBehind_56, r_X6_putBehind_59, r_X6_putBehind_61, r_X6_putBehind_62, r_X6_putBehind_65, r_X6_putBehind_67, gF_0, gF_1, gF_2, gF_3, gF_4, gF_5, gF_6, gF_7, gF_8, gF_9, gF_10, gF_11, gF_12, gF_13, gF_14, gF_15, gF_16, gF_17, pF_0, pF_1, pF_2, pF_3, pF_4, pF_5, pF_6, pF_7, pF_8, pF_9, pF_10, pF_11, pF_12, pF_13, pF_14, pF_15, pF_16, pF_17, gI_of, gL_of, gR_of, sI_of, sL_of, gN_of, gO_of, cl_i, cl_r, cl_l, cl_n, pu_s, pu_n, rV_s, hg_same, hg_ne, if_true, if_false, true_and, and_true, ne_eq, not_false_eq_true, not_true_eq_false, eq_self, reduceCtorEq, Nat.reduceAdd, nI_add, n_mul, n_sub, n_div, n_dec, n_dif, n_shl1, n_bit, n_eq0, n_0eq, n_eq, n_lt, n_le, n_lt0, n_ge0, n_gt0, n_le0, n_em1, n_m1e, n_m1lt0, n_m1ge0, n_m1gt0, n_m1eq0, n_m1lt, bI_eq0, bI_ne0, tb_eq0, tb_eq1, e44]
  have ew : (fun i => pc (es G n 0 i) 20) = (fun i => pc (G i) 20) := by funext i; rw [es_0 hG]
  generalize hP : put (fun i => pc (G i) 20) n 20 A e o = P at k
  have key : ∀ F A' e' o' h' f' x6, A' < 2 ^ n → pc A' n ≤ F → okO n e' o' → (∀ i, A'.testBit i = true → (gb o' e').testBit i = false) → put (fun i => pc (G i) 20) n F A' e' o' = P → Sm (fun b => b = 36) h h' → hg h' 36 = some (aI 20 f') → (∀ i, i < e' → f' i = nI (o' i)) → WP (d + 3) mX6_putBehind 6 [some (.ref 44), some (.ref 35), some (.int (nI e)), some (.int (nI A)), some (.int (nI A')), some (.int (nI e')), x6] [] h' Q := by
    intro F
    induction F with
    | zero =>
      intro A' e' o' h' f' x6 hA' hF H' hd' hP' hS g36 w36
      have hz := pc_0 hA' (by omega)
      subst hz
      have hle := H'.le
      rw [put] at hP'
      rw [r_X6_putBehind_6]
      by_cases h20 : 20 ≤ e'
      · simp (disch := first | omega | assumption) only [r_X6_putBehind_0, r_X6_putBehind_1, r_X6_putBehind_3, r_X6_putBehind_4, r_X6_putBehind_8, r_X6_putBehind_10, r_X6_putBehind_13, r_X6_putBehind_15, r_X6_putBehind_18, r_X6_putBehind_19, r_X6_putBehind_22, r_X6_putBehind_24, r_X6_putBehind_27, r_X6_putBehind_29, r_X6_putBehind_31, r_X6_putBehind_32, r_X6_putBehind_35, r_X6_putBehind_37, r_X6_putBehind_38, r_X6_putBehind_40, r_X6_putBehind_42, r_X6_putBehind_45, r_X6_putBehind_46, r_X6_putBehind_47, r_X6_putBehind_48, r_X6_putBehind_50, r_X6_putBehind_51, r_X6_putBehind_54, r_X6_putBehind_56, r_X6_putBehind_59, r_X6_putBehind_61, r_X6_putBehind_62, r_X6_putBehind_65, r_X6_putBehind_67, gF_0, gF_1, gF_2, gF_3, gF_4, gF_5, gF_6, gF_7, gF_8, gF_9, gF_10, gF_11, gF_12, gF_13, gF_14, gF_15, gF_16, gF_17, pF_0, pF_1, pF_2, pF_3, pF_4, pF_5, pF_6, pF_7, pF_8, pF_9, pF_10, pF_11, pF_12, pF_13, pF_14, pF_15, pF_16, pF_17, gI_of, gL_of, gR_of, sI_of, sL_of, gN_of, gO_of, cl_i, cl_r, cl_l, cl_n, pu_s, pu_n, rV_s, hg_same, hg_ne, if_true, if_false, true_and, and_true, ne_eq, not_false_eq_true, not_true_eq_false, eq_self, reduceCtorEq, Nat.reduceAdd, nI_add, n_mul, n_sub, n_div, n_dec, n_dif, n_shl1, n_bit, n_eq0, n_0eq, n_eq, n_lt, n_le, n_lt0, n_ge0, n_gt0, n_le0, n_em1, n_m1e, n_m1lt0, n_m1ge0, n_m1gt0, n_m1eq0, n_m1lt, bI_eq0, bI_ne0, tb_eq0, tb_eq1, h20]
        rw [← hP'] at k
        exact k h' f' hS g36 w36
      · simp (disch := first | omega | assumption) only [r_X6_putBehind_0, r_X6_putBehind_1, r_X6_putBehind_3, r_X6_putBehind_4, r_X6_putBehind_8, r_X6_putBehind_10, r_X6_putBehind_13, r_X6_putBehind_15, r_X6_putBehind_18, r_X6_putBehind_19, r_X6_putBehind_22, r_X6_putBehind_24, r_X6_putBehind_27, r_X6_putBehind_29, r_X6_putBehind_31, r_X6_putBehind_32, r_X6_putBehind_35, r_X6_putBehind_37, r_X6_putBehind_38, r_X6_putBehind_40, r_X6_putBehind_42, r_X6_putBehind_45, r_X6_putBehind_46, r_X6_putBehind_47, r_X6_putBehind_48, r_X6_putBehind_50, r_X6_putBehind_51, r_X6_putBehind_54, r_X6_putBehind_56, r_X6_putBehind_59, r_X6_putBehind_61, r_X6_putBehind_62, r_X6_putBehind_65, r_X6_putBehind_67, gF_0, gF_1, gF_2, gF_3, gF_4, gF_5, gF_6, gF_7, gF_8, gF_9, gF_10, gF_11, gF_12, gF_13, gF_14, gF_15, gF_16, gF_17, pF_0, pF_1, pF_2, pF_3, pF_4, pF_5, pF_6, pF_7, pF_8, pF_9, pF_10, pF_11, pF_12, pF_13, pF_14, pF_15, pF_16, pF_17, gI_of, gL_of, gR_of, sI_of, sL_of, gN_of, gO_of, cl_i, cl_r, cl_l, cl_n, pu_s, pu_n, rV_s, hg_same, hg_ne, if_true, if_false, true_and, and_true, ne_eq, not_false_eq_true, not_true_eq_false, eq_self, reduceCtorEq, Nat.reduceAdd, nI_add, n_mul, n_sub, n_div, n_dec, n_dif, n_shl1, n_bit, n_eq0, n_0eq, n_eq, n_lt, n_le, n_lt0, n_ge0, n_gt0, n_le0, n_em1, n_m1e, n_m1lt0, n_m1ge0, n_m1gt0, n_m1eq0, n_m1lt, bI_eq0, bI_ne0, tb_eq0, tb_eq1, h20]
        rw [← hP'] at k
        exact k h' f' hS g36 w36
    | succ F ih =>
      intro A' e' o' h' f' x6 hA' hF H' hd' hP' hS g36 w36
      have hle := H'.le
      have hA20 := pow20 hn hA'
      have y44 := (hS.at (b := 44) (by omega)).trans e44
      have y35 := (hS.at (b := 35) (by omega)).trans e35
      have y45 := (hS.at (b := 45) (by omega)).trans e45
      have yN : nr h' 46 20 n G 0 := by
        obtain ⟨g, g1, g2⟩ := N
        exact ⟨g, (hS.at (by omega)).trans g1, g2⟩
      rw [put] at hP'
      rw [r_X6_putBehind_6]
      cases hl : lo (fun i => A'.testBit i) (fun i => pc (G i) 20) n with
      | none =>
        have hz : A' = 0 := by
          apply tb_ext
          intro i
          rw [Nat.zero_testBit]
          cases hb : A'.testBit i with
          | false => rfl
          | true =>
            obtain ⟨b, hb'⟩ := lo_some (q := fun i => A'.testBit i) (w := fun i => pc (G i) 20) n i (tb_bd hA' hb) hb
            rw [hl] at hb'; cases hb'
        rw [hl] at hP'
        simp only at hP'
        rw [← hP'] at k
        subst hz
        by_cases h20 : 20 ≤ e'
        · simp (disch := first | omega | assumption) only [r_X6_putBehind_0, r_X6_putBehind_1, r_X6_putBehind_3, r_X6_putBehind_4, r_X6_putBehind_8, r_X6_putBehind_10, r_X6_putBehind_13, r_X6_putBehind_15, r_X6_putBehind_18, r_X6_putBehind_19, r_X6_putBehind_22, r_X6_putBehind_24, r_X6_putBehind_27, r_X6_putBehind_29, r_X6_putBehind_31, r_X6_putBehind_32, r_X6_putBehind_35, r_X6_putBehind_37, r_X6_putBehind_38, r_X6_putBehind_40, r_X6_putBehind_42, r_X6_putBehind_45, r_X6_putBehind_46, r_X6_putBehind_47, r_X6_putBehind_48, r_X6_putBehind_50, r_X6_putBehind_51, r_X6_putBehind_54, r_X6_putBehind_56, r_X6_putBehind_59, r_X6_putBehind_61, r_X6_putBehind_62, r_X6_putBehind_65, r_X6_putBehind_67, gF_0, gF_1, gF_2, gF_3, gF_4, gF_5, gF_6, gF_7, gF_8, gF_9, gF_10, gF_11, gF_12, gF_13, gF_14, gF_15, gF_16, gF_17, pF_0, pF_1, pF_2, pF_3, pF_4, pF_5, pF_6, pF_7, pF_8, pF_9, pF_10, pF_11, pF_12, pF_13, pF_14, pF_15, pF_16, pF_17, gI_of, gL_of, gR_of, sI_of, sL_of, gN_of, gO_of, cl_i, cl_r, cl_l, cl_n, pu_s, pu_n, rV_s, hg_same, hg_ne, if_true, if_false, true_and, and_true, ne_eq, not_false_eq_true, not_true_eq_false, eq_self, reduceCtorEq, Nat.reduceAdd, nI_add, n_mul, n_sub, n_div, n_dec, n_dif, n_shl1, n_bit, n_eq0, n_0eq, n_eq, n_lt, n_le, n_lt0, n_ge0, n_gt0, n_le0, n_em1, n_m1e, n_m1lt0, n_m1ge0, n_m1gt0, n_m1eq0, n_m1lt, bI_eq0, bI_ne0, tb_eq0, tb_eq1, h20]
          exact k h' f' hS g36 w36
        · simp (disch := first | omega | assumption) only [r_X6_putBehind_0, r_X6_putBehind_1, r_X6_putBehind_3, r_X6_putBehind_4, r_X6_putBehind_8, r_X6_putBehind_10, r_X6_putBehind_13, r_X6_putBehind_15, r_X6_putBehind_18, r_X6_putBehind_19, r_X6_putBehind_22, r_X6_putBehind_24, r_X6_putBehind_27, r_X6_putBehind_29, r_X6_putBehind_31, r_X6_putBehind_32, r_X6_putBehind_35, r_X6_putBehind_37, r_X6_putBehind_38, r_X6_putBehind_40, r_X6_putBehind_42, r_X6_putBehind_45, r_X6_putBehind_46, r_X6_putBehind_47, r_X6_putBehind_48, r_X6_putBehind_50, r_X6_putBehind_51, r_X6_putBehind_54, r_X6_putBehind_56, r_X6_putBehind_59, r_X6_putBehind_61, r_X6_putBehind_62, r_X6_putBehind_65, r_X6_putBehind_67, gF_0, gF_1, gF_2, gF_3, gF_4, gF_5, gF_6, gF_7, gF_8, gF_9, gF_10, gF_11, gF_12, gF_13, gF_14, gF_15, gF_16, gF_17, pF_0, pF_1, pF_2, pF_3, pF_4, pF_5, pF_6, pF_7, pF_8, pF_9, pF_10, pF_11, pF_12, pF_13, pF_14, pF_15, pF_16, pF_17, gI_of, gL_of, gR_of, sI_of, sL_of, gN_of, gO_of, cl_i, cl_r, cl_l, cl_n, pu_s, pu_n, rV_s, hg_same, hg_ne, if_true, if_false, true_and, and_true, ne_eq, not_false_eq_true, not_true_eq_false, eq_self, reduceCtorEq, Nat.reduceAdd, nI_add, n_mul, n_sub, n_div, n_dec, n_dif, n_shl1, n_bit, n_eq0, n_0eq, n_eq, n_lt, n_le, n_lt0, n_ge0, n_gt0, n_le0, n_em1, n_m1e, n_m1lt0, n_m1ge0, n_m1gt0, n_m1eq0, n_m1lt, bI_eq0, bI_ne0, tb_eq0, tb_eq1, h20]
          exact k h' f' hS g36 w36
      | some b =>
        rw [hl] at hP'
        simp only at hP'
        have hb := lo_lt n b hl
        have hb2 : A'.testBit b = true := hb.2
        have hnew := hd' b hb2
        have hz : ¬ A' = 0 := fun z => by rw [z, Nat.zero_testBit] at hb2; cases hb2
        have hup := H'.new hb.1 hnew
        have hle2 := hup.le
        have hp := pc_out hA20 hb.1 hb2
        simp (disch := first | omega | assumption) only [r_X6_putBehind_0, r_X6_putBehind_1, r_X6_putBehind_3, r_X6_putBehind_4, r_X6_putBehind_8, r_X6_putBehind_10, r_X6_putBehind_13, r_X6_putBehind_15, r_X6_putBehind_18, r_X6_putBehind_19, r_X6_putBehind_22, r_X6_putBehind_24, r_X6_putBehind_27, r_X6_putBehind_29, r_X6_putBehind_31, r_X6_putBehind_32, r_X6_putBehind_35, r_X6_putBehind_37, r_X6_putBehind_38, r_X6_putBehind_40, r_X6_putBehind_42, r_X6_putBehind_45, r_X6_putBehind_46, r_X6_putBehind_47, r_X6_putBehind_48, r_X6_putBehind_50, r_X6_putBehind_51, r_X6_putBehind_54, r_X6_putBehind_56, r_X6_putBehind_59, r_X6_putBehind_61, r_X6_putBehind_62, r_X6_putBehind_65, r_X6_putBehind_67, gF_0, gF_1, gF_2, gF_3, gF_4, gF_5, gF_6, gF_7, gF_8, gF_9, gF_10, gF_11, gF_12, gF_13, gF_14, gF_15, gF_16, gF_17, pF_0, pF_1, pF_2, pF_3, pF_4, pF_5, pF_6, pF_7, pF_8, pF_9, pF_10, pF_11, pF_12, pF_13, pF_14, pF_15, pF_16, pF_17, gI_of, gL_of, gR_of, sI_of, sL_of, gN_of, gO_of, cl_i, cl_r, cl_l, cl_n, pu_s, pu_n, rV_s, hg_same, hg_ne, if_true, if_false, true_and, and_true, ne_eq, not_false_eq_true, not_true_eq_false, eq_self, reduceCtorEq, Nat.reduceAdd, nI_add, n_mul, n_sub, n_div, n_dec, n_dif, n_shl1, n_bit, n_eq0, n_0eq, n_eq, n_lt, n_le, n_lt0, n_ge0, n_gt0, n_le0, n_em1, n_m1e, n_m1lt0, n_m1ge0, n_m1gt0, n_m1eq0, n_m1lt, bI_eq0, bI_ne0, tb_eq0, tb_eq1, show ¬ 20 ≤ e' by omega, hz, y44, y45]
        rw [x_loneliest (a := 45) y45 yN hn hA20 (fun i _ _ => Nat.zero_testBit i), ew, hl]
        simp only [ov]
        simp (disch := first | omega | assumption) only [r_X6_putBehind_0, r_X6_putBehind_1, r_X6_putBehind_3, r_X6_putBehind_4, r_X6_putBehind_8, r_X6_putBehind_10, r_X6_putBehind_13, r_X6_putBehind_15, r_X6_putBehind_18, r_X6_putBehind_19, r_X6_putBehind_22, r_X6_putBehind_24, r_X6_putBehind_27, r_X6_putBehind_29, r_X6_putBehind_31, r_X6_putBehind_32, r_X6_putBehind_35, r_X6_putBehind_37, r_X6_putBehind_38, r_X6_putBehind_40, r_X6_putBehind_42, r_X6_putBehind_45, r_X6_putBehind_46, r_X6_putBehind_47, r_X6_putBehind_48, r_X6_putBehind_50, r_X6_putBehind_51, r_X6_putBehind_54, r_X6_putBehind_56, r_X6_putBehind_59, r_X6_putBehind_61, r_X6_putBehind_62, r_X6_putBehind_65, r_X6_putBehind_67, gF_0, gF_1, gF_2, gF_3, gF_4, gF_5, gF_6, gF_7, gF_8, gF_9, gF_10, gF_11, gF_12, gF_13, gF_14, gF_15, gF_16, gF_17, pF_0, pF_1, pF_2, pF_3, pF_4, pF_5, pF_6, pF_7, pF_8, pF_9, pF_10, pF_11, pF_12, pF_13, pF_14, pF_15, pF_16, pF_17, gI_of, gL_of, gR_of, sI_of, sL_of, gN_of, gO_of, cl_i, cl_r, cl_l, cl_n, pu_s, pu_n, rV_s, hg_same, hg_ne, if_true, if_false, true_and, and_true, ne_eq, not_false_eq_true, not_true_eq_false, eq_self, reduceCtorEq, Nat.reduceAdd, nI_add, n_mul, n_sub, n_div, n_dec, n_dif, n_shl1, n_bit, n_eq0, n_0eq, n_eq, n_lt, n_le, n_lt0, n_ge0, n_gt0, n_le0, n_em1, n_m1e, n_m1lt0, n_m1ge0, n_m1gt0, n_m1eq0, n_m1lt, bI_eq0, bI_ne0, tb_eq0, tb_eq1, y44, y35, x_bit, g36]
        refine ih (df A' (2 ^ b)) (e' + 1) (up o' e' b) _ (up f' e' (nI b)) _ (Nat.lt_of_le_of_lt (df_le _ _) hA') (by omega) hup (fun i hi => ?_) hP' (hS.set rfl) (hg_same _ _ _) (fun i hi => ?_)
        · have h1 := (df_tb hA20).mp hi
          rw [gb_up, tb_or_pow, hd' i h1.1]
          have h2 := h1.2
          rw [tb_pow] at h2
          rw [h2]; rfl
        · by_cases e2 : i = e'
          · subst e2; rw [up_same, up_same]
          · rw [up_ne e2, up_ne e2]; exact w36 i (by omega)
  exact key 20 A e o h f _ hA (Nat.le_trans (pc_le _ _) hn) H hd hP (Sm.rf _ h) h36 hf
theorem and_cpl {x n H : Nat} (hn : n ≤ 20) (hx : x < 2 ^ n) : x &&& cpl n H = df x H := by
  apply tb_iff
  intro i
  rw [and_tb, df_tb (pow20 hn hx), cpl_tb, Bool.and_eq_true, Bool.not_eq_true', decide_eq_true_iff]
  exact ⟨fun h => ⟨h.1, h.2.2⟩, fun h => ⟨h.1, tb_bd hx h.1, h.2⟩⟩
theorem x_byBreadth {d n : Nat} {C : Nat → Nat → Int32} {h : j_H} {Q : Option Value → j_H → Prop} (hT : xT h n C) (h35 : hg h 35 = some (oB 8 [.ref 36])) (h36 : isI h 36 20) (hD : xD h) (hn : 1 ≤ n ∧ n ≤ 20) (hz : ∀ a b, (n ≤ a ∨ n ≤ b) → C a b = 0)
    (k : ∀ h1, hI h1 36 20 n (fun i => nI (rv n (br (jo C) n n).2 (n / 2) i)) → xD h1 → Sm (fun b => b = 36 ∨ b = 45 ∨ b = 46) h h1 → Q none h1) : WP (d + 4) mX6_byBreadth 0 [some (.ref 44), some (.ref 2), some (.ref 35), none, none, none, none] [] h Q := by
  obtain ⟨e44, ⟨v, e45⟩, e46⟩ := hD
  have x2 := hT.1
  have hG := jo_ok hn.2 hz
  simp (disch := first | omega | assumption) only [r_X6_byBreadth_0, r_X6_byBreadth_1, r_X6_byBreadth_4, r_X6_byBreadth_5, r_X6_byBreadth_8, r_X6_byBreadth_9, r_X6_byBreadth_12, r_X6_byBreadth_15, r_X6_byBreadth_16, r_X6_byBreadth_17, r_X6_byBreadth_18, r_X6_byBreadth_19, r_X6_byBreadth_21, r_X6_byBreadth_22, r_X6_byBreadth_26, r_X6_byBreadth_27, r_X6_byBreadth_30, r_X6_byBreadth_33, r_X6_byBreadth_35, r_X6_byBreadth_37, r_X6_byBreadth_40, r_X6_byBreadth_41, r_X6_byBreadth_44, r_X6_byBreadth_45, r_X6_byBreadth_48, r_X6_byBreadth_51, r_X6_byBreadth_53, r_X6_byBreadth_54, r_X6_byBreadth_56, r_X6_byBreadth_57, r_X6_byBreadth_58, r_X6_byBreadth_59, r_X6_byBreadth_60, r_X6_byBreadth_61, r_X6_byBreadth_62, r_X6_byBreadth_64, r_X6_byBreadth_66, r_X6_byBreadth_69, r_X6_byBreadth_71, r_X6_byBreadth_72, r_X6_byBreadth_75, r_X6_byBreadth_78, r_X6_byBreadth_79, r_X6_byBreadth_82, r_X6_byBreadth_84, r_X6_byBreadth_85, r_X6_byBreadth_86, r_X6_byBreadth_87, r_X6_byBreadth_88, r_X6_byBreadth_90, r_X6_byBreadth_91, r_X6_byBreadth_93, r_X6_byBreadth_94, r_X6_byBreadth_95, r_X6_byBreadth_96, r_X6_byBreadth_97, r_X6_byBreadth_98, r_X6_byBreadth_99, r_X6_byBreadth_101, r_X6_byBreadth_103, r_X6_byBreadth_106, r_X6_byBreadth_108, r_X6_byBreadth_111, r_X6_byBreadth_114, r_X6_byBreadth_115, r_X6_byBreadth_116, r_X6_byBreadth_119, r_X6_byBreadth_122, gF_0, gF_1, gF_2, gF_3, gF_4, gF_5, gF_6, gF_7, gF_8, gF_9, gF_10, gF_11, gF_12, gF_13, gF_14, gF_15, gF_16, gF_17, pF_0, pF_1, pF_2, pF_3, pF_4, pF_5, pF_6, pF_7, pF_8, pF_9, pF_10, pF_11, pF_12, pF_13, pF_14, pF_15, pF_16, pF_17, gI_of, gL_of, gR_of, sI_of, sL_of, gN_of, gO_of, cl_i, cl_r, cl_l, cl_n, pu_s, pu_n, rV_s, hg_same, hg_ne, if_true, if_false, true_and, and_true, ne_eq, not_false_eq_true, not_true_eq_false, eq_self, reduceCtorEq, Nat.reduceAdd, nI_add, n_mul, n_sub, n_div, n_dec, n_dif, n_shl1, n_bit, n_eq0, n_0eq, n_eq, n_lt, n_le, n_lt0, n_ge0, n_gt0, n_le0, n_em1, n_m1e, n_m1lt0, n_m1ge0, n_m1gt0, n_m1eq0, n_m1lt, bI_eq0, bI_ne0, tb_eq0, tb_eq1, e44, e45]
  refine x_gload (a := 45) hT e45 e46 (by omega) hn.2 (fun h1 g45 g46 S1 => ?_)
  have y2 := (S1.at (b := 2) (by omega)).trans x2
  obtain ⟨f36, q36⟩ := h36.keep (S1.at (b := 36) (by omega))
  have hpw : 1 ≤ 2 ^ n := Nat.two_pow_pos n
  simp (disch := first | omega | assumption) only [r_X6_byBreadth_0, r_X6_byBreadth_1, r_X6_byBreadth_4, r_X6_byBreadth_5, r_X6_byBreadth_8, r_X6_byBreadth_9, r_X6_byBreadth_12, r_X6_byBreadth_15, r_X6_byBreadth_16, r_X6_byBreadth_17, r_X6_byBreadth_18, r_X6_byBreadth_19, r_X6_byBreadth_21, r_X6_byBreadth_22, r_X6_byBreadth_26, r_X6_byBreadth_27, r_X6_byBreadth_30, r_X6_byBreadth_33, r_X6_byBreadth_35, r_X6_byBreadth_37, r_X6_byBreadth_40, r_X6_byBreadth_41, r_X6_byBreadth_44, r_X6_byBreadth_45, r_X6_byBreadth_48, r_X6_byBreadth_51, r_X6_byBreadth_53, r_X6_byBreadth_54, r_X6_byBreadth_56, r_X6_byBreadth_57, r_X6_byBreadth_58, r_X6_byBreadth_59, r_X6_byBreadth_60, r_X6_byBreadth_61, r_X6_byBreadth_62, r_X6_byBreadth_64, r_X6_byBreadth_66, r_X6_byBreadth_69, r_X6_byBreadth_71, r_X6_byBreadth_72, r_X6_byBreadth_75, r_X6_byBreadth_78, r_X6_byBreadth_79, r_X6_byBreadth_82, r_X6_byBreadth_84, r_X6_byBreadth_85, r_X6_byBreadth_86, r_X6_byBreadth_87, r_X6_byBreadth_88, r_X6_byBreadth_90, r_X6_byBreadth_91, r_X6_byBreadth_93, r_X6_byBreadth_94, r_X6_byBreadth_95, r_X6_byBreadth_96, r_X6_byBreadth_97, r_X6_byBreadth_98, r_X6_byBreadth_99, r_X6_byBreadth_101, r_X6_byBreadth_103, r_X6_byBreadth_106, r_X6_byBreadth_108, r_X6_byBreadth_111, r_X6_byBreadth_114, r_X6_byBreadth_115, r_X6_byBreadth_116, r_X6_byBreadth_119, r_X6_byBreadth_122, gF_0, gF_1, gF_2, gF_3, gF_4, gF_5, gF_6, gF_7, gF_8, gF_9, gF_10, gF_11, gF_12, gF_13, gF_14, gF_15, gF_16, gF_17, pF_0, pF_1, pF_2, pF_3, pF_4, pF_5, pF_6, pF_7, pF_8, pF_9, pF_10, pF_11, pF_12, pF_13, pF_14, pF_15, pF_16, pF_17, gI_of, gL_of, gR_of, sI_of, sL_of, gN_of, gO_of, cl_i, cl_r, cl_l, cl_n, pu_s, pu_n, rV_s, hg_same, hg_ne, if_true, if_false, true_and, and_true, ne_eq, not_false_eq_true, not_true_eq_false, eq_self, reduceCtorEq, Nat.reduceAdd, nI_add, n_mul, n_sub, n_div, n_dec, n_dif, n_shl1, n_bit, n_eq0, n_0eq, n_eq, n_lt, n_le, n_lt0, n_ge0, n_gt0, n_le0, n_em1, n_m1e, n_m1lt0, n_m1ge0, n_m1gt0, n_m1eq0, n_m1lt, bI_eq0, bI_ne0, tb_eq0, tb_eq1, y2, x_bit, cpl_0]
  have N0 := nr_0 hG g46
  have y44 := (S1.at (b := 44) (by omega)).trans e44
  have y35 := (S1.at (b := 35) (by omega)).trans h35
  have hSS : Sm (fun b => b = 36 ∨ b = 45 ∨ b = 46) h h1 := S1.mono (fun x q => by omega)
  generalize jo C = G at *
  have ew : (fun i => pc (es G n 0 i) 20) = (fun i => pc (G i) 20) := by funext i; rw [es_0 hG]
  have fin := br_end hG hn.2
  have key : ∀ c, c ≤ n → ∀ h' x6 f, Sm (fun b => b = 36) h1 h' → hg h' 36 = some (aI 20 f) → (∀ i, i < (br G n c).1 → f i = nI ((br G n c).2 i)) → WP (d + 4) mX6_byBreadth 24 [some (.ref 44), some (.ref 2), some (.ref 35), some (.int (nI (cpl n (gb (br G n c).2 (br G n c).1)))), some (.int (nI (br G n c).1)), some (.int (nI c)), x6] [] h' Q := by
    refine lup (P := fun c => ∀ h' x6 f, Sm (fun b => b = 36) h1 h' → hg h' 36 = some (aI 20 f) → (∀ i, i < (br G n c).1 → f i = nI ((br G n c).2 i)) → WP (d + 4) mX6_byBreadth 24 [some (.ref 44), some (.ref 2), some (.ref 35), some (.int (nI (cpl n (gb (br G n c).2 (br G n c).1)))), some (.int (nI (br G n c).1)), some (.int (nI c)), x6] [] h' Q) ?_ ?_
    · intro h' x6 f hS f1 f2
      have z2 := (hS.at (b := 2) (by omega)).trans y2
      have z35 := (hS.at (b := 35) (by omega)).trans y35
      rw [fin.1] at f2
      rw [r_X6_byBreadth_24]
      simp (disch := first | omega | assumption) only [r_X6_byBreadth_0, r_X6_byBreadth_1, r_X6_byBreadth_4, r_X6_byBreadth_5, r_X6_byBreadth_8, r_X6_byBreadth_9, r_X6_byBreadth_12, r_X6_byBreadth_15, r_X6_byBreadth_16, r_X6_byBreadth_17, r_X6_byBreadth_18, r_X6_byBreadth_19, r_X6_byBreadth_21, r_X6_byBreadth_22, r_X6_byBreadth_26, r_X6_byBreadth_27, r_X6_byBreadth_30, r_X6_byBreadth_33, r_X6_byBreadth_35, r_X6_byBreadth_37, r_X6_byBreadth_40, r_X6_byBreadth_41, r_X6_byBreadth_44, r_X6_byBreadth_45, r_X6_byBreadth_48, r_X6_byBreadth_51, r_X6_byBreadth_53, r_X6_byBreadth_54, r_X6_byBreadth_56, r_X6_byBreadth_57, r_X6_byBreadth_58, r_X6_byBreadth_59, r_X6_byBreadth_60, r_X6_byBreadth_61, r_X6_byBreadth_62, r_X6_byBreadth_64, r_X6_byBreadth_66, r_X6_byBreadth_69, r_X6_byBreadth_71, r_X6_byBreadth_72, r_X6_byBreadth_75, r_X6_byBreadth_78, r_X6_byBreadth_79, r_X6_byBreadth_82, r_X6_byBreadth_84, r_X6_byBreadth_85, r_X6_byBreadth_86, r_X6_byBreadth_87, r_X6_byBreadth_88, r_X6_byBreadth_90, r_X6_byBreadth_91, r_X6_byBreadth_93, r_X6_byBreadth_94, r_X6_byBreadth_95, r_X6_byBreadth_96, r_X6_byBreadth_97, r_X6_byBreadth_98, r_X6_byBreadth_99, r_X6_byBreadth_101, r_X6_byBreadth_103, r_X6_byBreadth_106, r_X6_byBreadth_108, r_X6_byBreadth_111, r_X6_byBreadth_114, r_X6_byBreadth_115, r_X6_byBreadth_116, r_X6_byBreadth_119, r_X6_byBreadth_122, gF_0, gF_1, gF_2, gF_3, gF_4, gF_5, gF_6, gF_7, gF_8, gF_9, gF_10, gF_11, gF_12, gF_13, gF_14, gF_15, gF_16, gF_17, pF_0, pF_1, pF_2, pF_3, pF_4, pF_5, pF_6, pF_7, pF_8, pF_9, pF_10, pF_11, pF_12, pF_13, pF_14, pF_15, pF_16, pF_17, gI_of, gL_of, gR_of, sI_of, sL_of, gN_of, gO_of, cl_i, cl_r, cl_l, cl_n, pu_s, pu_n, rV_s, hg_same, hg_ne, if_true, if_false, true_and, and_true, ne_eq, not_false_eq_true, not_true_eq_false, eq_self, reduceCtorEq, Nat.reduceAdd, nI_add, n_mul, n_sub, n_div, n_dec, n_dif, n_shl1, n_bit, n_eq0, n_0eq, n_eq, n_lt, n_le, n_lt0, n_ge0, n_gt0, n_le0, n_em1, n_m1e, n_m1lt0, n_m1ge0, n_m1gt0, n_m1eq0, n_m1lt, bI_eq0, bI_ne0, tb_eq0, tb_eq1, Nat.le_refl, z2, z35]
      refine x_turnRound ⟨z35, f, f1, f2⟩ hn (fun h2 O2 S2 => ?_)
      simp (disch := first | omega | assumption) only [r_X6_byBreadth_0, r_X6_byBreadth_1, r_X6_byBreadth_4, r_X6_byBreadth_5, r_X6_byBreadth_8, r_X6_byBreadth_9, r_X6_byBreadth_12, r_X6_byBreadth_15, r_X6_byBreadth_16, r_X6_byBreadth_17, r_X6_byBreadth_18, r_X6_byBreadth_19, r_X6_byBreadth_21, r_X6_byBreadth_22, r_X6_byBreadth_26, r_X6_byBreadth_27, r_X6_byBreadth_30, r_X6_byBreadth_33, r_X6_byBreadth_35, r_X6_byBreadth_37, r_X6_byBreadth_40, r_X6_byBreadth_41, r_X6_byBreadth_44, r_X6_byBreadth_45, r_X6_byBreadth_48, r_X6_byBreadth_51, r_X6_byBreadth_53, r_X6_byBreadth_54, r_X6_byBreadth_56, r_X6_byBreadth_57, r_X6_byBreadth_58, r_X6_byBreadth_59, r_X6_byBreadth_60, r_X6_byBreadth_61, r_X6_byBreadth_62, r_X6_byBreadth_64, r_X6_byBreadth_66, r_X6_byBreadth_69, r_X6_byBreadth_71, r_X6_byBreadth_72, r_X6_byBreadth_75, r_X6_byBreadth_78, r_X6_byBreadth_79, r_X6_byBreadth_82, r_X6_byBreadth_84, r_X6_byBreadth_85, r_X6_byBreadth_86, r_X6_byBreadth_87, r_X6_byBreadth_88, r_X6_byBreadth_90, r_X6_byBreadth_91, r_X6_byBreadth_93, r_X6_byBreadth_94, r_X6_byBreadth_95, r_X6_byBreadth_96, r_X6_byBreadth_97, r_X6_byBreadth_98, r_X6_byBreadth_99, r_X6_byBreadth_101, r_X6_byBreadth_103, r_X6_byBreadth_106, r_X6_byBreadth_108, r_X6_byBreadth_111, r_X6_byBreadth_114, r_X6_byBreadth_115, r_X6_byBreadth_116, r_X6_byBreadth_119, r_X6_byBreadth_122, gF_0, gF_1, gF_2, gF_3, gF_4, gF_5, gF_6, gF_7, gF_8, gF_9, gF_10, gF_11, gF_12, gF_13, gF_14, gF_15, gF_16, gF_17, pF_0, pF_1, pF_2, pF_3, pF_4, pF_5, pF_6, pF_7, pF_8, pF_9, pF_10, pF_11, pF_12, pF_13, pF_14, pF_15, pF_16, pF_17, gI_of, gL_of, gR_of, sI_of, sL_of, gN_of, gO_of, cl_i, cl_r, cl_l, cl_n, pu_s, pu_n, rV_s, hg_same, hg_ne, if_true, if_false, true_and, and_true, ne_eq, not_false_eq_true, not_true_eq_false, eq_self, reduceCtorEq, Nat.reduceAdd, nI_add, n_mul, n_sub, n_div, n_dec, n_dif, n_shl1, n_bit, n_eq0, n_0eq, n_eq, n_lt, n_le, n_lt0, n_ge0, n_gt0, n_le0, n_em1, n_m1e, n_m1lt0, n_m1ge0, n_m1gt0, n_m1eq0, n_m1lt, bI_eq0, bI_ne0, tb_eq0, tb_eq1, Nat.le_refl]
      have hS2 := hS.trans S2
      refine k h2 O2 ⟨(hS2.at (by omega)).trans y44, ⟨_, (hS2.at (by omega)).trans g45⟩, ?_⟩ (hSS.trans (hS2.mono (fun x q => by omega)))
      obtain ⟨g, g1, -⟩ := g46
      exact ⟨g, (hS2.at (by omega)).trans g1⟩
    · intro c hc ih h' x6 f hS f1 f2
      obtain ⟨b1, b2⟩ := br_ok hG hn.2 c (by omega)
      obtain ⟨a1, a2, a3, a4, a5⟩ := brA_spec (G := G) hn.2 b1 hc b2
      have z2 := (hS.at (b := 2) (by omega)).trans y2
      have z35 := (hS.at (b := 35) (by omega)).trans y35
      have z44 := (hS.at (b := 44) (by omega)).trans y44
      have z45 := (hS.at (b := 45) (by omega)).trans g45
      have zN : nr h' 46 20 n G 0 := by
        obtain ⟨g, g1, g2⟩ := N0
        exact ⟨g, (hS.at (by omega)).trans g1, g2⟩
      have hle := b1.le
      have hcl := pow20 hn.2 (cpl_lt n (gb (br G n c).2 (br G n c).1))
      rw [br] at ih
      generalize br G n c = s at *
      -- the second half, from place 71
      have half : ∀ h3 x6 f3, Sm (fun b => b = 36) h1 h3 → hg h3 36 = some (aI 20 f3) → (∀ i, i < (brA G n c s).1 → f3 i = nI ((brA G n c s).2 i)) → WP (d + 4) mX6_byBreadth 71 [some (.ref 44), some (.ref 2), some (.ref 35), some (.int (nI (cpl n (gb (brA G n c s).2 (brA G n c s).1)))), some (.int (nI (brA G n c s).1)), some (.int (nI c)), x6] [] h3 Q := by
        intro h3 x6 f3 hS3 g1 g2
        generalize brA G n c s = t at *
        obtain ⟨t1, t2, t3, t4⟩ := brB_spec (k := c) hG hn.2 a1
        have u35 := (hS3.at (b := 35) (by omega)).trans y35
        have u44 := (hS3.at (b := 44) (by omega)).trans y44
        have u45 := (hS3.at (b := 45) (by omega)).trans g45
        obtain ⟨fn, n1, n2⟩ := N0
        have u46 := (hS3.at (b := 46) (by omega)).trans n1
        have gc : f3 c = nI (t.2 c) := g2 c a2
        have hoc := (a1.1 c a2).1
        have nc : fn (t.2 c) = nI (G (t.2 c)) := by rw [n2 _ hoc (Nat.zero_testBit _), es_0 hG]
        have hlt : df (G (t.2 c)) (gb t.2 t.1) < 2 ^ n := Nat.lt_of_le_of_lt (df_le _ _) (hG.2.2 _)
        have hle1 := a1.le
        simp (disch := first | omega | assumption) only [r_X6_byBreadth_0, r_X6_byBreadth_1, r_X6_byBreadth_4, r_X6_byBreadth_5, r_X6_byBreadth_8, r_X6_byBreadth_9, r_X6_byBreadth_12, r_X6_byBreadth_15, r_X6_byBreadth_16, r_X6_byBreadth_17, r_X6_byBreadth_18, r_X6_byBreadth_19, r_X6_byBreadth_21, r_X6_byBreadth_22, r_X6_byBreadth_26, r_X6_byBreadth_27, r_X6_byBreadth_30, r_X6_byBreadth_33, r_X6_byBreadth_35, r_X6_byBreadth_37, r_X6_byBreadth_40, r_X6_byBreadth_41, r_X6_byBreadth_44, r_X6_byBreadth_45, r_X6_byBreadth_48, r_X6_byBreadth_51, r_X6_byBreadth_53, r_X6_byBreadth_54, r_X6_byBreadth_56, r_X6_byBreadth_57, r_X6_byBreadth_58, r_X6_byBreadth_59, r_X6_byBreadth_60, r_X6_byBreadth_61, r_X6_byBreadth_62, r_X6_byBreadth_64, r_X6_byBreadth_66, r_X6_byBreadth_69, r_X6_byBreadth_71, r_X6_byBreadth_72, r_X6_byBreadth_75, r_X6_byBreadth_78, r_X6_byBreadth_79, r_X6_byBreadth_82, r_X6_byBreadth_84, r_X6_byBreadth_85, r_X6_byBreadth_86, r_X6_byBreadth_87, r_X6_byBreadth_88, r_X6_byBreadth_90, r_X6_byBreadth_91, r_X6_byBreadth_93, r_X6_byBreadth_94, r_X6_byBreadth_95, r_X6_byBreadth_96, r_X6_byBreadth_97, r_X6_byBreadth_98, r_X6_byBreadth_99, r_X6_byBreadth_101, r_X6_byBreadth_103, r_X6_byBreadth_106, r_X6_byBreadth_108, r_X6_byBreadth_111, r_X6_byBreadth_114, r_X6_byBreadth_115, r_X6_byBreadth_116, r_X6_byBreadth_119, r_X6_byBreadth_122, gF_0, gF_1, gF_2, gF_3, gF_4, gF_5, gF_6, gF_7, gF_8, gF_9, gF_10, gF_11, gF_12, gF_13, gF_14, gF_15, gF_16, gF_17, pF_0, pF_1, pF_2, pF_3, pF_4, pF_5, pF_6, pF_7, pF_8, pF_9, pF_10, pF_11, pF_12, pF_13, pF_14, pF_15, pF_16, pF_17, gI_of, gL_of, gR_of, sI_of, sL_of, gN_of, gO_of, cl_i, cl_r, cl_l, cl_n, pu_s, pu_n, rV_s, hg_same, hg_ne, if_true, if_false, true_and, and_true, ne_eq, not_false_eq_true, not_true_eq_false, eq_self, reduceCtorEq, Nat.reduceAdd, nI_add, n_mul, n_sub, n_div, n_dec, n_dif, n_shl1, n_bit, n_eq0, n_0eq, n_eq, n_lt, n_le, n_lt0, n_ge0, n_gt0, n_le0, n_em1, n_m1e, n_m1lt0, n_m1ge0, n_m1gt0, n_m1eq0, n_m1lt, bI_eq0, bI_ne0, tb_eq0, tb_eq1, u35, u44, u45, u46, g1, gc, nc, n_and, and_cpl hn.2 (hG.2.2 _), cpl_df hn.2]
        refine x_putBehind u44 u35 u45 ⟨fn, u46, n2⟩ hG hn.2 hlt a1 (fun i hi => ((df_tb (pow20 hn.2 (hG.2.2 _))).mp hi).2) g1 g2 (fun h4 f4 S4 q1 q2 => ?_)
        have e1 : put (fun i => pc (G i) 20) n 20 (df (G (t.2 c)) (gb t.2 t.1)) t.1 t.2 = brB G n c t := rfl
        rw [e1] at q2 ⊢
        rw [← t4]
        simp (disch := first | omega | assumption) only [r_X6_byBreadth_0, r_X6_byBreadth_1, r_X6_byBreadth_4, r_X6_byBreadth_5, r_X6_byBreadth_8, r_X6_byBreadth_9, r_X6_byBreadth_12, r_X6_byBreadth_15, r_X6_byBreadth_16, r_X6_byBreadth_17, r_X6_byBreadth_18, r_X6_byBreadth_19, r_X6_byBreadth_21, r_X6_byBreadth_22, r_X6_byBreadth_26, r_X6_byBreadth_27, r_X6_byBreadth_30, r_X6_byBreadth_33, r_X6_byBreadth_35, r_X6_byBreadth_37, r_X6_byBreadth_40, r_X6_byBreadth_41, r_X6_byBreadth_44, r_X6_byBreadth_45, r_X6_byBreadth_48, r_X6_byBreadth_51, r_X6_byBreadth_53, r_X6_byBreadth_54, r_X6_byBreadth_56, r_X6_byBreadth_57, r_X6_byBreadth_58, r_X6_byBreadth_59, r_X6_byBreadth_60, r_X6_byBreadth_61, r_X6_byBreadth_62, r_X6_byBreadth_64, r_X6_byBreadth_66, r_X6_byBreadth_69, r_X6_byBreadth_71, r_X6_byBreadth_72, r_X6_byBreadth_75, r_X6_byBreadth_78, r_X6_byBreadth_79, r_X6_byBreadth_82, r_X6_byBreadth_84, r_X6_byBreadth_85, r_X6_byBreadth_86, r_X6_byBreadth_87, r_X6_byBreadth_88, r_X6_byBreadth_90, r_X6_byBreadth_91, r_X6_byBreadth_93, r_X6_byBreadth_94, r_X6_byBreadth_95, r_X6_byBreadth_96, r_X6_byBreadth_97, r_X6_byBreadth_98, r_X6_byBreadth_99, r_X6_byBreadth_101, r_X6_byBreadth_103, r_X6_byBreadth_106, r_X6_byBreadth_108, r_X6_byBreadth_111, r_X6_byBreadth_114, r_X6_byBreadth_115, r_X6_byBreadth_116, r_X6_byBreadth_119, r_X6_byBreadth_122, gF_0, gF_1, gF_2, gF_3, gF_4, gF_5, gF_6, gF_7, gF_8, gF_9, gF_10, gF_11, gF_12, gF_13, gF_14, gF_15, gF_16, gF_17, pF_0, pF_1, pF_2, pF_3, pF_4, pF_5, pF_6, pF_7, pF_8, pF_9, pF_10, pF_11, pF_12, pF_13, pF_14, pF_15, pF_16, pF_17, gI_of, gL_of, gR_of, sI_of, sL_of, gN_of, gO_of, cl_i, cl_r, cl_l, cl_n, pu_s, pu_n, rV_s, hg_same, hg_ne, if_true, if_false, true_and, and_true, ne_eq, not_false_eq_true, not_true_eq_false, eq_self, reduceCtorEq, Nat.reduceAdd, nI_add, n_mul, n_sub, n_div, n_dec, n_dif, n_shl1, n_bit, n_eq0, n_0eq, n_eq, n_lt, n_le, n_lt0, n_ge0, n_gt0, n_le0, n_em1, n_m1e, n_m1lt0, n_m1ge0, n_m1gt0, n_m1eq0, n_m1lt, bI_eq0, bI_ne0, tb_eq0, tb_eq1, Nat.le_refl]
        exact ih h4 _ f4 (hS3.trans S4) q1 q2
      rw [r_X6_byBreadth_24]
      by_cases ek : c = s.1
      · obtain ⟨b, c1, c2, c3, c4⟩ := a5 ek
        rw [c4] at half
        simp only at half
        have ew2 : lo (fun i => (cpl n (gb s.2 s.1)).testBit i) (fun i => pc (es G n 0 i) 20) n = some b := by rw [ew]; exact c3
        have hpb : 2 ^ b < 2 ^ n := pow_lt c1
        simp (disch := first | omega | assumption) only [r_X6_byBreadth_0, r_X6_byBreadth_1, r_X6_byBreadth_4, r_X6_byBreadth_5, r_X6_byBreadth_8, r_X6_byBreadth_9, r_X6_byBreadth_12, r_X6_byBreadth_15, r_X6_byBreadth_16, r_X6_byBreadth_17, r_X6_byBreadth_18, r_X6_byBreadth_19, r_X6_byBreadth_21, r_X6_byBreadth_22, r_X6_byBreadth_26, r_X6_byBreadth_27, r_X6_byBreadth_30, r_X6_byBreadth_33, r_X6_byBreadth_35, r_X6_byBreadth_37, r_X6_byBreadth_40, r_X6_byBreadth_41, r_X6_byBreadth_44, r_X6_byBreadth_45, r_X6_byBreadth_48, r_X6_byBreadth_51, r_X6_byBreadth_53, r_X6_byBreadth_54, r_X6_byBreadth_56, r_X6_byBreadth_57, r_X6_byBreadth_58, r_X6_byBreadth_59, r_X6_byBreadth_60, r_X6_byBreadth_61, r_X6_byBreadth_62, r_X6_byBreadth_64, r_X6_byBreadth_66, r_X6_byBreadth_69, r_X6_byBreadth_71, r_X6_byBreadth_72, r_X6_byBreadth_75, r_X6_byBreadth_78, r_X6_byBreadth_79, r_X6_byBreadth_82, r_X6_byBreadth_84, r_X6_byBreadth_85, r_X6_byBreadth_86, r_X6_byBreadth_87, r_X6_byBreadth_88, r_X6_byBreadth_90, r_X6_byBreadth_91, r_X6_byBreadth_93, r_X6_byBreadth_94, r_X6_byBreadth_95, r_X6_byBreadth_96, r_X6_byBreadth_97, r_X6_byBreadth_98, r_X6_byBreadth_99, r_X6_byBreadth_101, r_X6_byBreadth_103, r_X6_byBreadth_106, r_X6_byBreadth_108, r_X6_byBreadth_111, r_X6_byBreadth_114, r_X6_byBreadth_115, r_X6_byBreadth_116, r_X6_byBreadth_119, r_X6_byBreadth_122, gF_0, gF_1, gF_2, gF_3, gF_4, gF_5, gF_6, gF_7, gF_8, gF_9, gF_10, gF_11, gF_12, gF_13, gF_14, gF_15, gF_16, gF_17, pF_0, pF_1, pF_2, pF_3, pF_4, pF_5, pF_6, pF_7, pF_8, pF_9, pF_10, pF_11, pF_12, pF_13, pF_14, pF_15, pF_16, pF_17, gI_of, gL_of, gR_of, sI_of, sL_of, gN_of, gO_of, cl_i, cl_r, cl_l, cl_n, pu_s, pu_n, rV_s, hg_same, hg_ne, if_true, if_false, true_and, and_true, ne_eq, not_false_eq_true, not_true_eq_false, eq_self, reduceCtorEq, Nat.reduceAdd, nI_add, n_mul, n_sub, n_div, n_dec, n_dif, n_shl1, n_bit, n_eq0, n_0eq, n_eq, n_lt, n_le, n_lt0, n_ge0, n_gt0, n_le0, n_em1, n_m1e, n_m1lt0, n_m1ge0, n_m1gt0, n_m1eq0, n_m1lt, bI_eq0, bI_ne0, tb_eq0, tb_eq1, show ¬ n ≤ c by omega, z2, ek, z44, z45]
        rw [if_neg (show ¬ n ≤ s.1 by omega)]
        rw [x_loneliest (a := 45) z45 zN hn.2 hcl (fun i _ _ => Nat.zero_testBit i), ew2]
        simp only [ov]
        simp (disch := first | omega | assumption) only [r_X6_byBreadth_0, r_X6_byBreadth_1, r_X6_byBreadth_4, r_X6_byBreadth_5, r_X6_byBreadth_8, r_X6_byBreadth_9, r_X6_byBreadth_12, r_X6_byBreadth_15, r_X6_byBreadth_16, r_X6_byBreadth_17, r_X6_byBreadth_18, r_X6_byBreadth_19, r_X6_byBreadth_21, r_X6_byBreadth_22, r_X6_byBreadth_26, r_X6_byBreadth_27, r_X6_byBreadth_30, r_X6_byBreadth_33, r_X6_byBreadth_35, r_X6_byBreadth_37, r_X6_byBreadth_40, r_X6_byBreadth_41, r_X6_byBreadth_44, r_X6_byBreadth_45, r_X6_byBreadth_48, r_X6_byBreadth_51, r_X6_byBreadth_53, r_X6_byBreadth_54, r_X6_byBreadth_56, r_X6_byBreadth_57, r_X6_byBreadth_58, r_X6_byBreadth_59, r_X6_byBreadth_60, r_X6_byBreadth_61, r_X6_byBreadth_62, r_X6_byBreadth_64, r_X6_byBreadth_66, r_X6_byBreadth_69, r_X6_byBreadth_71, r_X6_byBreadth_72, r_X6_byBreadth_75, r_X6_byBreadth_78, r_X6_byBreadth_79, r_X6_byBreadth_82, r_X6_byBreadth_84, r_X6_byBreadth_85, r_X6_byBreadth_86, r_X6_byBreadth_87, r_X6_byBreadth_88, r_X6_byBreadth_90, r_X6_byBreadth_91, r_X6_byBreadth_93, r_X6_byBreadth_94, r_X6_byBreadth_95, r_X6_byBreadth_96, r_X6_byBreadth_97, r_X6_byBreadth_98, r_X6_byBreadth_99, r_X6_byBreadth_101, r_X6_byBreadth_103, r_X6_byBreadth_106, r_X6_byBreadth_108, r_X6_byBreadth_111, r_X6_byBreadth_114, r_X6_byBreadth_115, r_X6_byBreadth_116, r_X6_byBreadth_119, r_X6_byBreadth_122, gF_0, gF_1, gF_2, gF_3, gF_4, gF_5, gF_6, gF_7, gF_8, gF_9, gF_10, gF_11, gF_12, gF_13, gF_14, gF_15, gF_16, gF_17, pF_0, pF_1, pF_2, pF_3, pF_4, pF_5, pF_6, pF_7, pF_8, pF_9, pF_10, pF_11, pF_12, pF_13, pF_14, pF_15, pF_16, pF_17, gI_of, gL_of, gR_of, sI_of, sL_of, gN_of, gO_of, cl_i, cl_r, cl_l, cl_n, pu_s, pu_n, rV_s, hg_same, hg_ne, if_true, if_false, true_and, and_true, ne_eq, not_false_eq_true, not_true_eq_false, eq_self, reduceCtorEq, Nat.reduceAdd, nI_add, n_mul, n_sub, n_div, n_dec, n_dif, n_shl1, n_bit, n_eq0, n_0eq, n_eq, n_lt, n_le, n_lt0, n_ge0, n_gt0, n_le0, n_em1, n_m1e, n_m1lt0, n_m1ge0, n_m1gt0, n_m1eq0, n_m1lt, bI_eq0, bI_ne0, tb_eq0, tb_eq1, x_bit, z44, z45, z35, cpl_df hn.2]
        refine x_putBehind z44 z35 z45 zN hG hn.2 hpb b1 (fun i hi => ?_) f1 f2 (fun h3 f3 S3 q1 q2 => ?_)
        · rw [tb_pow, decide_eq_true_iff] at hi; rw [hi]; exact c2
        · rw [put_one (F := 18) hn.2 c1] at q2 ⊢
          simp only at q2 ⊢
          simp (disch := first | omega | assumption) only [r_X6_byBreadth_0, r_X6_byBreadth_1, r_X6_byBreadth_4, r_X6_byBreadth_5, r_X6_byBreadth_8, r_X6_byBreadth_9, r_X6_byBreadth_12, r_X6_byBreadth_15, r_X6_byBreadth_16, r_X6_byBreadth_17, r_X6_byBreadth_18, r_X6_byBreadth_19, r_X6_byBreadth_21, r_X6_byBreadth_22, r_X6_byBreadth_26, r_X6_byBreadth_27, r_X6_byBreadth_30, r_X6_byBreadth_33, r_X6_byBreadth_35, r_X6_byBreadth_37, r_X6_byBreadth_40, r_X6_byBreadth_41, r_X6_byBreadth_44, r_X6_byBreadth_45, r_X6_byBreadth_48, r_X6_byBreadth_51, r_X6_byBreadth_53, r_X6_byBreadth_54, r_X6_byBreadth_56, r_X6_byBreadth_57, r_X6_byBreadth_58, r_X6_byBreadth_59, r_X6_byBreadth_60, r_X6_byBreadth_61, r_X6_byBreadth_62, r_X6_byBreadth_64, r_X6_byBreadth_66, r_X6_byBreadth_69, r_X6_byBreadth_72, r_X6_byBreadth_75, r_X6_byBreadth_78, r_X6_byBreadth_79, r_X6_byBreadth_82, r_X6_byBreadth_84, r_X6_byBreadth_85, r_X6_byBreadth_86, r_X6_byBreadth_87, r_X6_byBreadth_88, r_X6_byBreadth_90, r_X6_byBreadth_91, r_X6_byBreadth_93, r_X6_byBreadth_94, r_X6_byBreadth_95, r_X6_byBreadth_96, r_X6_byBreadth_97, r_X6_byBreadth_98, r_X6_byBreadth_99, r_X6_byBreadth_101, r_X6_byBreadth_103, r_X6_byBreadth_106, r_X6_byBreadth_108, r_X6_byBreadth_111, r_X6_byBreadth_114, r_X6_byBreadth_115, r_X6_byBreadth_116, r_X6_byBreadth_119, r_X6_byBreadth_122, gF_0, gF_1, gF_2, gF_3, gF_4, gF_5, gF_6, gF_7, gF_8, gF_9, gF_10, gF_11, gF_12, gF_13, gF_14, gF_15, gF_16, gF_17, pF_0, pF_1, pF_2, pF_3, pF_4, pF_5, pF_6, pF_7, pF_8, pF_9, pF_10, pF_11, pF_12, pF_13, pF_14, pF_15, pF_16, pF_17, gI_of, gL_of, gR_of, sI_of, sL_of, gN_of, gO_of, cl_i, cl_r, cl_l, cl_n, pu_s, pu_n, rV_s, hg_same, hg_ne, if_true, if_false, true_and, and_true, ne_eq, not_false_eq_true, not_true_eq_false, eq_self, reduceCtorEq, Nat.reduceAdd, nI_add, n_mul, n_sub, n_div, n_dec, n_dif, n_shl1, n_bit, n_eq0, n_0eq, n_eq, n_lt, n_le, n_lt0, n_ge0, n_gt0, n_le0, n_em1, n_m1e, n_m1lt0, n_m1ge0, n_m1gt0, n_m1eq0, n_m1lt, bI_eq0, bI_ne0, tb_eq0, tb_eq1, Nat.le_refl]
          rw [← gb_up]
          have := half h3 (some (.int (nI (2 ^ b)))) f3 (hS.trans S3) q1 q2
          rw [ek] at this
          exact this
      · have e2 : brA G n c s = s := by unfold brA; rw [if_neg ek]
        rw [e2] at half
        simp (disch := first | omega | assumption) only [r_X6_byBreadth_0, r_X6_byBreadth_1, r_X6_byBreadth_4, r_X6_byBreadth_5, r_X6_byBreadth_8, r_X6_byBreadth_9, r_X6_byBreadth_12, r_X6_byBreadth_15, r_X6_byBreadth_16, r_X6_byBreadth_17, r_X6_byBreadth_18, r_X6_byBreadth_19, r_X6_byBreadth_21, r_X6_byBreadth_22, r_X6_byBreadth_26, r_X6_byBreadth_27, r_X6_byBreadth_30, r_X6_byBreadth_33, r_X6_byBreadth_35, r_X6_byBreadth_37, r_X6_byBreadth_40, r_X6_byBreadth_41, r_X6_byBreadth_44, r_X6_byBreadth_45, r_X6_byBreadth_48, r_X6_byBreadth_51, r_X6_byBreadth_53, r_X6_byBreadth_54, r_X6_byBreadth_56, r_X6_byBreadth_57, r_X6_byBreadth_58, r_X6_byBreadth_59, r_X6_byBreadth_60, r_X6_byBreadth_61, r_X6_byBreadth_62, r_X6_byBreadth_64, r_X6_byBreadth_66, r_X6_byBreadth_69, r_X6_byBreadth_72, r_X6_byBreadth_75, r_X6_byBreadth_78, r_X6_byBreadth_79, r_X6_byBreadth_82, r_X6_byBreadth_84, r_X6_byBreadth_85, r_X6_byBreadth_86, r_X6_byBreadth_87, r_X6_byBreadth_88, r_X6_byBreadth_90, r_X6_byBreadth_91, r_X6_byBreadth_93, r_X6_byBreadth_94, r_X6_byBreadth_95, r_X6_byBreadth_96, r_X6_byBreadth_97, r_X6_byBreadth_98, r_X6_byBreadth_99, r_X6_byBreadth_101, r_X6_byBreadth_103, r_X6_byBreadth_106, r_X6_byBreadth_108, r_X6_byBreadth_111, r_X6_byBreadth_114, r_X6_byBreadth_115, r_X6_byBreadth_116, r_X6_byBreadth_119, r_X6_byBreadth_122, gF_0, gF_1, gF_2, gF_3, gF_4, gF_5, gF_6, gF_7, gF_8, gF_9, gF_10, gF_11, gF_12, gF_13, gF_14, gF_15, gF_16, gF_17, pF_0, pF_1, pF_2, pF_3, pF_4, pF_5, pF_6, pF_7, pF_8, pF_9, pF_10, pF_11, pF_12, pF_13, pF_14, pF_15, pF_16, pF_17, gI_of, gL_of, gR_of, sI_of, sL_of, gN_of, gO_of, cl_i, cl_r, cl_l, cl_n, pu_s, pu_n, rV_s, hg_same, hg_ne, if_true, if_false, true_and, and_true, ne_eq, not_false_eq_true, not_true_eq_false, eq_self, reduceCtorEq, Nat.reduceAdd, nI_add, n_mul, n_sub, n_div, n_dec, n_dif, n_shl1, n_bit, n_eq0, n_0eq, n_eq, n_lt, n_le, n_lt0, n_ge0, n_gt0, n_le0, n_em1, n_m1e, n_m1lt0, n_m1ge0, n_m1gt0, n_m1eq0, n_m1lt, bI_eq0, bI_ne0, tb_eq0, tb_eq1, show ¬ n ≤ c by omega, z2, ek]
        exact half h' x6 f hS f1 f2
  exact key 0 (by omega) h1 _ f36 (Sm.rf _ h1) q36 (fun i hi => by have hi : i < 0 := hi; omega)
