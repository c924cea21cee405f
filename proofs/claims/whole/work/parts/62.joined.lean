theorem orr_tb (f : Nat → Nat) (v : Nat) : ∀ n, (orr f n).testBit v = true ↔ ∃ i, i < n ∧ (f i).testBit v = true := by
  intro n
  induction n with
  | zero =>
    rw [orr, Nat.zero_testBit]
    exact ⟨fun h => Bool.noConfusion h, fun ⟨i, h, _⟩ => absurd h (Nat.not_lt_zero i)⟩
  | succ n ih =>
    rw [orr, Nat.testBit_or, Bool.or_eq_true, ih]
    constructor
    · intro h
      cases h with
      | inl h => obtain ⟨i, h1, h2⟩ := h; exact ⟨i, by omega, h2⟩
      | inr h => exact ⟨n, by omega, h⟩
    · rintro ⟨i, h1, h2⟩
      by_cases e : i = n
      · subst e; exact Or.inr h2
      · exact Or.inl ⟨i, by omega, h2⟩
theorem ite_tb (q : Bool) (a v : Nat) : (if q = true then a else 0).testBit v = true ↔ q = true ∧ a.testBit v = true := by
  cases q
  · simp
  · simp
theorem lt_or_new {A T i : Nat} (h1 : T.testBit i = true) (h2 : A.testBit i = false) : A < A ||| T := by
  have hle : A ≤ A ||| T := Nat.left_le_or
  have hne : A ≠ A ||| T := fun e => by
    have : (A ||| T).testBit i = true := by rw [Nat.testBit_or, h1, Bool.or_true]
    rw [← e, h2] at this
    cases this
  omega
theorem df_tb {b a i : Nat} (hb : b < 2 ^ 20) : (df b a).testBit i = true ↔ b.testBit i = true ∧ a.testBit i = false := by
  rw [tb_df (Nat.lt_trans hb (by decide)), Bool.and_eq_true, Bool.not_eq_true']
theorem and_tb (a b i : Nat) : (a &&& b).testBit i = true ↔ a.testBit i = true ∧ b.testBit i = true := by
  rw [Nat.testBit_and, Bool.and_eq_true]
theorem ex_tb {a : Nat} (h : a ≠ 0) : ∃ i, a.testBit i = true := Nat.exists_testBit_of_ne_zero h
theorem tb_bd {a n i : Nat} (ha : a < 2 ^ n) (h : a.testBit i = true) : i < n := by
  apply Nat.lt_of_not_le
  intro hi
  rw [tb_hi ha hi] at h
  cases h
theorem pow20 {a n : Nat} (hn : n ≤ 20) (h : a < 2 ^ n) : a < 2 ^ 20 := Nat.lt_of_lt_of_le h (Nat.pow_le_pow_right (by decide) hn)
theorem m_joinedWhen {d n p S u : Nat} {G : Nat → Nat} {h : j_H} {Q : Option Value → j_H → Prop} (h0 : mO h n p) (hG : okG n G) (h98 : hI h 98 20 n (fun i => nI (G i))) (hn : n ≤ 20) (hS : S < 2 ^ 20) (hu : u < n) : WP d mX11_joinedWhen 0 [some (.ref 88), some (.int (nI u)), some (.int (nI S)), none, none, none, none] [] h Q = Q (some (.int (nI (es G n S u)))) h := by
  obtain ⟨a, b, c, e0⟩ := id h0
  obtain ⟨f, f1, f2⟩ := h98
  refine WP.det ?_ Q
  have eu : f u = nI (G u) := f2 u hu
  have hGl : ∀ x, G x < 2 ^ 20 := fun x => pow20 hn (hG.2.2 x)
  have hGu := hGl u
  simp (disch := first | omega | assumption) only [r_X11_joinedWhen_0, r_X11_joinedWhen_1, r_X11_joinedWhen_2, r_X11_joinedWhen_3, r_X11_joinedWhen_4, r_X11_joinedWhen_5, r_X11_joinedWhen_8, r_X11_joinedWhen_9, r_X11_joinedWhen_10, r_X11_joinedWhen_12, r_X11_joinedWhen_14, r_X11_joinedWhen_15, r_X11_joinedWhen_16, r_X11_joinedWhen_17, r_X11_joinedWhen_18, r_X11_joinedWhen_19, r_X11_joinedWhen_20, r_X11_joinedWhen_24, r_X11_joinedWhen_27, r_X11_joinedWhen_28, r_X11_joinedWhen_30, r_X11_joinedWhen_31, r_X11_joinedWhen_32, r_X11_joinedWhen_33, r_X11_joinedWhen_37, r_X11_joinedWhen_38, r_X11_joinedWhen_41, r_X11_joinedWhen_44, r_X11_joinedWhen_46, r_X11_joinedWhen_48, r_X11_joinedWhen_50, r_X11_joinedWhen_51, r_X11_joinedWhen_52, r_X11_joinedWhen_53, r_X11_joinedWhen_54, r_X11_joinedWhen_57, r_X11_joinedWhen_58, r_X11_joinedWhen_61, r_X11_joinedWhen_63, r_X11_joinedWhen_64, r_X11_joinedWhen_67, r_X11_joinedWhen_68, r_X11_joinedWhen_69, r_X11_joinedWhen_71, r_X11_joinedWhen_74, r_X11_joinedWhen_77, r_X11_joinedWhen_79, r_X11_joinedWhen_80, r_X11_joinedWhen_81, r_X11_joinedWhen_82, r_X11_joinedWhen_83, r_X11_joinedWhen_84, r_X11_joinedWhen_85, r_X11_joinedWhen_87, r_X11_joinedWhen_90, r_X11_joinedWhen_92, r_X11_joinedWhen_93, r_X11_joinedWhen_94, r_X11_joinedWhen_95, r_X11_joinedWhen_96, r_X11_joinedWhen_97, r_X11_joinedWhen_98, r_X11_joinedWhen_99, r_X11_joinedWhen_100, r_X11_joinedWhen_101, r_X11_joinedWhen_102, gF_0, gF_1, gF_2, gF_3, gF_4, gF_5, gF_6, gF_7, gF_8, gF_9, gF_10, gF_11, gF_12, gF_13, gF_14, gF_15, gF_16, gF_17, pF_0, pF_1, pF_2, pF_3, pF_4, pF_5, pF_6, pF_7, pF_8, pF_9, pF_10, pF_11, pF_12, pF_13, pF_14, pF_15, pF_16, pF_17, gI_of, gL_of, gR_of, sI_of, sL_of, gN_of, gO_of, cl_i, cl_r, cl_l, cl_n, pu_s, pu_n, rV_s, hg_same, hg_ne, if_true, if_false, true_and, and_true, ne_eq, not_false_eq_true, not_true_eq_false, eq_self, reduceCtorEq, Nat.reduceAdd, nI_add, n_mul, n_sub, n_div, n_dec, n_dif, n_shl1, n_bit, n_eq0, n_0eq, n_eq, n_lt, n_le, n_lt0, n_ge0, n_gt0, n_le0, n_em1, n_m1e, n_m1lt0, n_m1ge0, n_m1gt0, n_m1eq0, n_m1lt, bI_eq0, bI_ne0, tb_eq0, tb_eq1, e0, f1, eu, n_and]
  have key : ∀ m Cm Al x6, 2 ^ 20 ≤ Cm + m → Cm < 2 ^ 20 → Al < 2 ^ n → Cm.testBit u = true → (∀ k, Al.testBit k = true → Rb G S u k) → (∀ k, Cm.testBit k = true → ∀ v, (G k).testBit v = true → Al.testBit v = true) → WP d mX11_joinedWhen 22 [some (.ref 88), some (.int (nI u)), some (.int (nI S)), some (.int (nI Cm)), some (.int (nI Al)), some (.int (nI (df (Al &&& S) Cm))), x6] [] h (fun r h' => r = some (.int (nI (es G n S u))) ∧ h' = h) := by
    intro m
    induction m with
    | zero => intro Cm Al x6 hm hC; omega
    | succ m ih =>
      intro Cm Al x6 hm hC hA i1 i2 i3
      have hA20 := pow20 hn hA
      have hAS : Al &&& S < 2 ^ 20 := Nat.lt_of_le_of_lt Nat.and_le_left hA20
      have hT : df (Al &&& S) Cm < 2 ^ 20 := Nat.lt_of_le_of_lt (df_le _ _) hAS
      have hdA : df Al S < 2 ^ 20 := Nat.lt_of_le_of_lt (df_le _ _) hA20
      rw [r_X11_joinedWhen_22]
      by_cases hz : df (Al &&& S) Cm = 0
      · have fin : df (df Al S) (2 ^ u) = es G n S u := by
          apply tb_iff
          intro v
          rw [df_tb hdA, df_tb hA20, es_tb, tb_pow, decide_eq_false_iff_not]
          constructor
          · rintro ⟨⟨h1, h2⟩, h3⟩
            exact ⟨tb_bd hA h1, h2, h3, i2 v h1⟩
          · rintro ⟨h1, h2, h3, h4⟩
            refine ⟨⟨?_, h2⟩, h3⟩
            refine h4 (fun x => Al.testBit x = true) (fun w hw => i3 u i1 w hw) (fun k hk hk2 w hw => i3 k ?_ w hw)
            cases hc : Cm.testBit k with
            | true => rfl
            | false =>
              have : (df (Al &&& S) Cm).testBit k = true := (df_tb hAS).mpr ⟨(and_tb _ _ _).mpr ⟨hk, hk2⟩, hc⟩
              rw [hz, Nat.zero_testBit] at this
              cases this
        rw [hz]
        simp (disch := first | omega | assumption) only [r_X11_joinedWhen_0, r_X11_joinedWhen_1, r_X11_joinedWhen_2, r_X11_joinedWhen_3, r_X11_joinedWhen_4, r_X11_joinedWhen_5, r_X11_joinedWhen_8, r_X11_joinedWhen_9, r_X11_joinedWhen_10, r_X11_joinedWhen_12, r_X11_joinedWhen_14, r_X11_joinedWhen_15, r_X11_joinedWhen_16, r_X11_joinedWhen_17, r_X11_joinedWhen_18, r_X11_joinedWhen_19, r_X11_joinedWhen_20, r_X11_joinedWhen_24, r_X11_joinedWhen_27, r_X11_joinedWhen_28, r_X11_joinedWhen_30, r_X11_joinedWhen_31, r_X11_joinedWhen_32, r_X11_joinedWhen_33, r_X11_joinedWhen_37, r_X11_joinedWhen_38, r_X11_joinedWhen_41, r_X11_joinedWhen_44, r_X11_joinedWhen_46, r_X11_joinedWhen_48, r_X11_joinedWhen_50, r_X11_joinedWhen_51, r_X11_joinedWhen_52, r_X11_joinedWhen_53, r_X11_joinedWhen_54, r_X11_joinedWhen_57, r_X11_joinedWhen_58, r_X11_joinedWhen_61, r_X11_joinedWhen_63, r_X11_joinedWhen_64, r_X11_joinedWhen_67, r_X11_joinedWhen_68, r_X11_joinedWhen_69, r_X11_joinedWhen_71, r_X11_joinedWhen_74, r_X11_joinedWhen_77, r_X11_joinedWhen_79, r_X11_joinedWhen_80, r_X11_joinedWhen_81, r_X11_joinedWhen_82, r_X11_joinedWhen_83, r_X11_joinedWhen_84, r_X11_joinedWhen_85, r_X11_joinedWhen_87, r_X11_joinedWhen_90, r_X11_joinedWhen_92, r_X11_joinedWhen_93, r_X11_joinedWhen_94, r_X11_joinedWhen_95, r_X11_joinedWhen_96, r_X11_joinedWhen_97, r_X11_joinedWhen_98, r_X11_joinedWhen_99, r_X11_joinedWhen_100, r_X11_joinedWhen_101, r_X11_joinedWhen_102, gF_0, gF_1, gF_2, gF_3, gF_4, gF_5, gF_6, gF_7, gF_8, gF_9, gF_10, gF_11, gF_12, gF_13, gF_14, gF_15, gF_16, gF_17, pF_0, pF_1, pF_2, pF_3, pF_4, pF_5, pF_6, pF_7, pF_8, pF_9, pF_10, pF_11, pF_12, pF_13, pF_14, pF_15, pF_16, pF_17, gI_of, gL_of, gR_of, sI_of, sL_of, gN_of, gO_of, cl_i, cl_r, cl_l, cl_n, pu_s, pu_n, rV_s, hg_same, hg_ne, if_true, if_false, true_and, and_true, ne_eq, not_false_eq_true, not_true_eq_false, eq_self, reduceCtorEq, Nat.reduceAdd, nI_add, n_mul, n_sub, n_div, n_dec, n_dif, n_shl1, n_bit, n_eq0, n_0eq, n_eq, n_lt, n_le, n_lt0, n_ge0, n_gt0, n_le0, n_em1, n_m1e, n_m1lt0, n_m1ge0, n_m1gt0, n_m1eq0, n_m1lt, bI_eq0, bI_ne0, tb_eq0, tb_eq1, fin]
        first | done | exact ⟨trivial, trivial⟩ | exact ⟨rfl, rfl⟩
      · have hsub : ∀ k, (df (Al &&& S) Cm).testBit k = true → Al.testBit k = true ∧ S.testBit k = true ∧ Cm.testBit k = false := fun k hk => by
          have h1 := (df_tb hAS).mp hk
          have h2 := (and_tb _ _ _).mp h1.1
          exact ⟨h2.1, h2.2, h1.2⟩
        generalize df (Al &&& S) Cm = T at hz hT hsub
        have hCT : Cm ||| T < 2 ^ 20 := or_lt hC hT
        simp (disch := first | omega | assumption) only [r_X11_joinedWhen_0, r_X11_joinedWhen_1, r_X11_joinedWhen_2, r_X11_joinedWhen_3, r_X11_joinedWhen_4, r_X11_joinedWhen_5, r_X11_joinedWhen_8, r_X11_joinedWhen_9, r_X11_joinedWhen_10, r_X11_joinedWhen_12, r_X11_joinedWhen_14, r_X11_joinedWhen_15, r_X11_joinedWhen_16, r_X11_joinedWhen_17, r_X11_joinedWhen_18, r_X11_joinedWhen_19, r_X11_joinedWhen_20, r_X11_joinedWhen_24, r_X11_joinedWhen_27, r_X11_joinedWhen_28, r_X11_joinedWhen_30, r_X11_joinedWhen_31, r_X11_joinedWhen_32, r_X11_joinedWhen_33, r_X11_joinedWhen_37, r_X11_joinedWhen_38, r_X11_joinedWhen_41, r_X11_joinedWhen_44, r_X11_joinedWhen_46, r_X11_joinedWhen_48, r_X11_joinedWhen_50, r_X11_joinedWhen_51, r_X11_joinedWhen_52, r_X11_joinedWhen_53, r_X11_joinedWhen_54, r_X11_joinedWhen_57, r_X11_joinedWhen_58, r_X11_joinedWhen_61, r_X11_joinedWhen_63, r_X11_joinedWhen_64, r_X11_joinedWhen_67, r_X11_joinedWhen_68, r_X11_joinedWhen_69, r_X11_joinedWhen_71, r_X11_joinedWhen_74, r_X11_joinedWhen_77, r_X11_joinedWhen_79, r_X11_joinedWhen_80, r_X11_joinedWhen_81, r_X11_joinedWhen_82, r_X11_joinedWhen_83, r_X11_joinedWhen_84, r_X11_joinedWhen_85, r_X11_joinedWhen_87, r_X11_joinedWhen_90, r_X11_joinedWhen_92, r_X11_joinedWhen_93, r_X11_joinedWhen_94, r_X11_joinedWhen_95, r_X11_joinedWhen_96, r_X11_joinedWhen_97, r_X11_joinedWhen_98, r_X11_joinedWhen_99, r_X11_joinedWhen_100, r_X11_joinedWhen_101, r_X11_joinedWhen_102, gF_0, gF_1, gF_2, gF_3, gF_4, gF_5, gF_6, gF_7, gF_8, gF_9, gF_10, gF_11, gF_12, gF_13, gF_14, gF_15, gF_16, gF_17, pF_0, pF_1, pF_2, pF_3, pF_4, pF_5, pF_6, pF_7, pF_8, pF_9, pF_10, pF_11, pF_12, pF_13, pF_14, pF_15, pF_16, pF_17, gI_of, gL_of, gR_of, sI_of, sL_of, gN_of, gO_of, cl_i, cl_r, cl_l, cl_n, pu_s, pu_n, rV_s, hg_same, hg_ne, if_true, if_false, true_and, and_true, ne_eq, not_false_eq_true, not_true_eq_false, eq_self, reduceCtorEq, Nat.reduceAdd, nI_add, n_mul, n_sub, n_div, n_dec, n_dif, n_shl1, n_bit, n_eq0, n_0eq, n_eq, n_lt, n_le, n_lt0, n_ge0, n_gt0, n_le0, n_em1, n_m1e, n_m1lt0, n_m1ge0, n_m1gt0, n_m1eq0, n_m1lt, bI_eq0, bI_ne0, tb_eq0, tb_eq1, hz, n_or]
        have hol : ∀ k, Al ||| orr (fun i => if T.testBit i = true then G i else 0) k < 2 ^ n := fun k => or_lt hA (orr_lt k (fun i _ => by
          split
          · exact hG.2.2 i
          · exact Nat.two_pow_pos n))
        have key2 : ∀ k, k ≤ n → WP d mX11_joinedWhen 35 [some (.ref 88), some (.int (nI u)), some (.int (nI S)), some (.int (nI (Cm ||| T))), some (.int (nI (Al ||| orr (fun i => if T.testBit i = true then G i else 0) k))), some (.int (nI T)), some (.int (nI k))] [] h (fun r h' => r = some (.int (nI (es G n S u))) ∧ h' = h) := by
          refine lup (P := fun k => WP d mX11_joinedWhen 35 [some (.ref 88), some (.int (nI u)), some (.int (nI S)), some (.int (nI (Cm ||| T))), some (.int (nI (Al ||| orr (fun i => if T.testBit i = true then G i else 0) k))), some (.int (nI T)), some (.int (nI k))] [] h (fun r h' => r = some (.int (nI (es G n S u))) ∧ h' = h)) ?_ ?_
          · have h1 := hol n
            have h2 := pow20 hn h1
            rw [r_X11_joinedWhen_35]
            simp (disch := first | omega | assumption) only [r_X11_joinedWhen_0, r_X11_joinedWhen_1, r_X11_joinedWhen_2, r_X11_joinedWhen_3, r_X11_joinedWhen_4, r_X11_joinedWhen_5, r_X11_joinedWhen_8, r_X11_joinedWhen_9, r_X11_joinedWhen_10, r_X11_joinedWhen_12, r_X11_joinedWhen_14, r_X11_joinedWhen_15, r_X11_joinedWhen_16, r_X11_joinedWhen_17, r_X11_joinedWhen_18, r_X11_joinedWhen_19, r_X11_joinedWhen_20, r_X11_joinedWhen_24, r_X11_joinedWhen_27, r_X11_joinedWhen_28, r_X11_joinedWhen_30, r_X11_joinedWhen_31, r_X11_joinedWhen_32, r_X11_joinedWhen_33, r_X11_joinedWhen_37, r_X11_joinedWhen_38, r_X11_joinedWhen_41, r_X11_joinedWhen_44, r_X11_joinedWhen_46, r_X11_joinedWhen_48, r_X11_joinedWhen_50, r_X11_joinedWhen_51, r_X11_joinedWhen_52, r_X11_joinedWhen_53, r_X11_joinedWhen_54, r_X11_joinedWhen_57, r_X11_joinedWhen_58, r_X11_joinedWhen_61, r_X11_joinedWhen_63, r_X11_joinedWhen_64, r_X11_joinedWhen_67, r_X11_joinedWhen_68, r_X11_joinedWhen_69, r_X11_joinedWhen_71, r_X11_joinedWhen_74, r_X11_joinedWhen_77, r_X11_joinedWhen_79, r_X11_joinedWhen_80, r_X11_joinedWhen_81, r_X11_joinedWhen_82, r_X11_joinedWhen_83, r_X11_joinedWhen_84, r_X11_joinedWhen_85, r_X11_joinedWhen_87, r_X11_joinedWhen_90, r_X11_joinedWhen_92, r_X11_joinedWhen_93, r_X11_joinedWhen_94, r_X11_joinedWhen_95, r_X11_joinedWhen_96, r_X11_joinedWhen_97, r_X11_joinedWhen_98, r_X11_joinedWhen_99, r_X11_joinedWhen_100, r_X11_joinedWhen_101, r_X11_joinedWhen_102, gF_0, gF_1, gF_2, gF_3, gF_4, gF_5, gF_6, gF_7, gF_8, gF_9, gF_10, gF_11, gF_12, gF_13, gF_14, gF_15, gF_16, gF_17, pF_0, pF_1, pF_2, pF_3, pF_4, pF_5, pF_6, pF_7, pF_8, pF_9, pF_10, pF_11, pF_12, pF_13, pF_14, pF_15, pF_16, pF_17, gI_of, gL_of, gR_of, sI_of, sL_of, gN_of, gO_of, cl_i, cl_r, cl_l, cl_n, pu_s, pu_n, rV_s, hg_same, hg_ne, if_true, if_false, true_and, and_true, ne_eq, not_false_eq_true, not_true_eq_false, eq_self, reduceCtorEq, Nat.reduceAdd, nI_add, n_mul, n_sub, n_div, n_dec, n_dif, n_shl1, n_bit, n_eq0, n_0eq, n_eq, n_lt, n_le, n_lt0, n_ge0, n_gt0, n_le0, n_em1, n_m1e, n_m1lt0, n_m1ge0, n_m1gt0, n_m1eq0, n_m1lt, bI_eq0, bI_ne0, tb_eq0, tb_eq1, Nat.le_refl, e0, n_and]
            obtain ⟨t, ht⟩ := ex_tb hz
            have hlt := lt_or_new ht (hsub t ht).2.2
            refine ih _ _ _ (by omega) hCT h1 (by rw [Nat.testBit_or, i1, Bool.true_or]) (fun k hk => ?_) (fun k hk v hv => ?_)
            · rw [Nat.testBit_or, Bool.or_eq_true, orr_tb] at hk
              cases hk with
              | inl hk => exact i2 k hk
              | inr hk =>
                obtain ⟨j, j1, j2⟩ := hk
                rw [ite_tb] at j2
                have := hsub j j2.1
                exact (i2 j this.1).step this.2.1 j2.2
            · rw [Nat.testBit_or, Bool.or_eq_true] at hk
              rw [Nat.testBit_or, Bool.or_eq_true, orr_tb]
              cases hk with
              | inl hk => exact Or.inl (i3 k hk v hv)
              | inr hk => exact Or.inr ⟨k, tb_bd hA (hsub k hk).1, (ite_tb _ _ _).mpr ⟨hk, hv⟩⟩
          · intro k hk ih2
            have ek : f k = nI (G k) := f2 k hk
            have hb := tb_lt T k
            rw [orr, ← Nat.or_assoc] at ih2
            rw [r_X11_joinedWhen_35]
            cases ht : T.testBit k with
            | true =>
              simp only [ht, if_true] at ih2
              simp (disch := first | omega | assumption) only [r_X11_joinedWhen_0, r_X11_joinedWhen_1, r_X11_joinedWhen_2, r_X11_joinedWhen_3, r_X11_joinedWhen_4, r_X11_joinedWhen_5, r_X11_joinedWhen_8, r_X11_joinedWhen_9, r_X11_joinedWhen_10, r_X11_joinedWhen_12, r_X11_joinedWhen_14, r_X11_joinedWhen_15, r_X11_joinedWhen_16, r_X11_joinedWhen_17, r_X11_joinedWhen_18, r_X11_joinedWhen_19, r_X11_joinedWhen_20, r_X11_joinedWhen_24, r_X11_joinedWhen_27, r_X11_joinedWhen_28, r_X11_joinedWhen_30, r_X11_joinedWhen_31, r_X11_joinedWhen_32, r_X11_joinedWhen_33, r_X11_joinedWhen_37, r_X11_joinedWhen_38, r_X11_joinedWhen_41, r_X11_joinedWhen_44, r_X11_joinedWhen_46, r_X11_joinedWhen_48, r_X11_joinedWhen_50, r_X11_joinedWhen_51, r_X11_joinedWhen_52, r_X11_joinedWhen_53, r_X11_joinedWhen_54, r_X11_joinedWhen_57, r_X11_joinedWhen_58, r_X11_joinedWhen_61, r_X11_joinedWhen_63, r_X11_joinedWhen_64, r_X11_joinedWhen_67, r_X11_joinedWhen_68, r_X11_joinedWhen_69, r_X11_joinedWhen_71, r_X11_joinedWhen_74, r_X11_joinedWhen_77, r_X11_joinedWhen_79, r_X11_joinedWhen_80, r_X11_joinedWhen_81, r_X11_joinedWhen_82, r_X11_joinedWhen_83, r_X11_joinedWhen_84, r_X11_joinedWhen_85, r_X11_joinedWhen_87, r_X11_joinedWhen_90, r_X11_joinedWhen_92, r_X11_joinedWhen_93, r_X11_joinedWhen_94, r_X11_joinedWhen_95, r_X11_joinedWhen_96, r_X11_joinedWhen_97, r_X11_joinedWhen_98, r_X11_joinedWhen_99, r_X11_joinedWhen_100, r_X11_joinedWhen_101, r_X11_joinedWhen_102, gF_0, gF_1, gF_2, gF_3, gF_4, gF_5, gF_6, gF_7, gF_8, gF_9, gF_10, gF_11, gF_12, gF_13, gF_14, gF_15, gF_16, gF_17, pF_0, pF_1, pF_2, pF_3, pF_4, pF_5, pF_6, pF_7, pF_8, pF_9, pF_10, pF_11, pF_12, pF_13, pF_14, pF_15, pF_16, pF_17, gI_of, gL_of, gR_of, sI_of, sL_of, gN_of, gO_of, cl_i, cl_r, cl_l, cl_n, pu_s, pu_n, rV_s, hg_same, hg_ne, if_true, if_false, true_and, and_true, ne_eq, not_false_eq_true, not_true_eq_false, eq_self, reduceCtorEq, Nat.reduceAdd, nI_add, n_mul, n_sub, n_div, n_dec, n_dif, n_shl1, n_bit, n_eq0, n_0eq, n_eq, n_lt, n_le, n_lt0, n_ge0, n_gt0, n_le0, n_em1, n_m1e, n_m1lt0, n_m1ge0, n_m1gt0, n_m1eq0, n_m1lt, bI_eq0, bI_ne0, tb_eq0, tb_eq1, show ¬ n ≤ k by omega, e0, f1, ek, ht, n_or]
              exact ih2
            | false =>
              simp only [ht, Bool.false_eq_true, if_false, Nat.or_zero] at ih2
              simp (disch := first | omega | assumption) only [r_X11_joinedWhen_0, r_X11_joinedWhen_1, r_X11_joinedWhen_2, r_X11_joinedWhen_3, r_X11_joinedWhen_4, r_X11_joinedWhen_5, r_X11_joinedWhen_8, r_X11_joinedWhen_9, r_X11_joinedWhen_10, r_X11_joinedWhen_12, r_X11_joinedWhen_14, r_X11_joinedWhen_15, r_X11_joinedWhen_16, r_X11_joinedWhen_17, r_X11_joinedWhen_18, r_X11_joinedWhen_19, r_X11_joinedWhen_20, r_X11_joinedWhen_24, r_X11_joinedWhen_27, r_X11_joinedWhen_28, r_X11_joinedWhen_30, r_X11_joinedWhen_31, r_X11_joinedWhen_32, r_X11_joinedWhen_33, r_X11_joinedWhen_37, r_X11_joinedWhen_38, r_X11_joinedWhen_41, r_X11_joinedWhen_44, r_X11_joinedWhen_46, r_X11_joinedWhen_48, r_X11_joinedWhen_50, r_X11_joinedWhen_51, r_X11_joinedWhen_52, r_X11_joinedWhen_53, r_X11_joinedWhen_54, r_X11_joinedWhen_57, r_X11_joinedWhen_58, r_X11_joinedWhen_61, r_X11_joinedWhen_63, r_X11_joinedWhen_64, r_X11_joinedWhen_67, r_X11_joinedWhen_68, r_X11_joinedWhen_69, r_X11_joinedWhen_71, r_X11_joinedWhen_74, r_X11_joinedWhen_77, r_X11_joinedWhen_79, r_X11_joinedWhen_80, r_X11_joinedWhen_81, r_X11_joinedWhen_82, r_X11_joinedWhen_83, r_X11_joinedWhen_84, r_X11_joinedWhen_85, r_X11_joinedWhen_87, r_X11_joinedWhen_90, r_X11_joinedWhen_92, r_X11_joinedWhen_93, r_X11_joinedWhen_94, r_X11_joinedWhen_95, r_X11_joinedWhen_96, r_X11_joinedWhen_97, r_X11_joinedWhen_98, r_X11_joinedWhen_99, r_X11_joinedWhen_100, r_X11_joinedWhen_101, r_X11_joinedWhen_102, gF_0, gF_1, gF_2, gF_3, gF_4, gF_5, gF_6, gF_7, gF_8, gF_9, gF_10, gF_11, gF_12, gF_13, gF_14, gF_15, gF_16, gF_17, pF_0, pF_1, pF_2, pF_3, pF_4, pF_5, pF_6, pF_7, pF_8, pF_9, pF_10, pF_11, pF_12, pF_13, pF_14, pF_15, pF_16, pF_17, gI_of, gL_of, gR_of, sI_of, sL_of, gN_of, gO_of, cl_i, cl_r, cl_l, cl_n, pu_s, pu_n, rV_s, hg_same, hg_ne, if_true, if_false, true_and, and_true, ne_eq, not_false_eq_true, not_true_eq_false, eq_self, reduceCtorEq, Nat.reduceAdd, nI_add, n_mul, n_sub, n_div, n_dec, n_dif, n_shl1, n_bit, n_eq0, n_0eq, n_eq, n_lt, n_le, n_lt0, n_ge0, n_gt0, n_le0, n_em1, n_m1e, n_m1lt0, n_m1ge0, n_m1gt0, n_m1eq0, n_m1lt, bI_eq0, bI_ne0, tb_eq0, tb_eq1, show ¬ n ≤ k by omega, e0, f1, ek, ht, Bool.false_eq_true, n_or, Nat.or_zero]
              exact ih2
        have := key2 0 (by omega)
        rw [orr, Nat.or_zero] at this
        exact this
  exact key (2 ^ 20) (2 ^ u) (G u) _ (Nat.le_add_left _ _) (pow_lt (by omega)) (hG.2.2 u) (by rw [tb_pow]; simp) (fun k hk => Rc.base hk) (fun k hk v hv => by
    rw [tb_pow, decide_eq_true_iff] at hk
    subst hk; exact hv)
/-- the sets of those joined, of the nodes that have not gone -/
def nr (h : j_H) (a m n : Nat) (G : Nat → Nat) (S : Nat) : Prop := ∃ f, hg h a = some (aI m f) ∧ ∀ u, u < n → S.testBit u = false → f u = nI (es G n S u)
theorem x_letGo {d n m a S g : Nat} {G : Nat → Nat} {h : j_H} {Q : Option Value → j_H → Prop} (hN : nr h a m n G S) (hG : okG n G) (hn : n ≤ 20) (hnm : n ≤ m) (hm : m < 100) (ha : a ≠ 0) (hg1 : g < n) (hS : S.testBit g = false) (k : ∀ h1, nr h1 a m n G (S ||| 2 ^ g) → Sm (fun b => b = a) h h1 → Q (some (.int (nI (es G n S g)))) h1) : WP (d + 1) mX3_letGo 0 [some (.ref a), some (.int (nI n)), some (.int (nI g)), none, none, none] [] h Q := by
  obtain ⟨f, f1, f2⟩ := hN
  have eg : f g = nI (es G n S g) := f2 g hg1 hS
  have hl : ∀ x, es G n S x < 2 ^ 20 := fun x => pow20 hn (es_lt G n S x)
  have hL := hl g
  simp (disch := first | omega | assumption) only [r_X3_letGo_0, r_X3_letGo_1, r_X3_letGo_2, r_X3_letGo_3, r_X3_letGo_4, r_X3_letGo_5, r_X3_letGo_7, r_X3_letGo_8, r_X3_letGo_12, r_X3_letGo_13, r_X3_letGo_16, r_X3_letGo_18, r_X3_letGo_21, r_X3_letGo_23, r_X3_letGo_24, r_X3_letGo_25, r_X3_letGo_28, r_X3_letGo_29, r_X3_letGo_31, r_X3_letGo_32, r_X3_letGo_34, r_X3_letGo_35, r_X3_letGo_36, r_X3_letGo_37, r_X3_letGo_39, r_X3_letGo_42, r_X3_letGo_43, r_X3_letGo_46, r_X3_letGo_47, r_X3_letGo_48, r_X3_letGo_49, r_X3_letGo_50, r_X3_letGo_51, r_X3_letGo_53, r_X3_letGo_54, r_X3_letGo_55, r_X3_letGo_57, r_X3_letGo_60, r_X3_letGo_63, r_X3_letGo_64, gF_0, gF_1, gF_2, gF_3, gF_4, gF_5, gF_6, gF_7, gF_8, gF_9, gF_10, gF_11, gF_12, gF_13, gF_14, gF_15, gF_16, gF_17, pF_0, pF_1, pF_2, pF_3, pF_4, pF_5, pF_6, pF_7, pF_8, pF_9, pF_10, pF_11, pF_12, pF_13, pF_14, pF_15, pF_16, pF_17, gI_of, gL_of, gR_of, sI_of, sL_of, gN_of, gO_of, cl_i, cl_r, cl_l, cl_n, pu_s, pu_n, rV_s, hg_same, hg_ne, if_true, if_false, true_and, and_true, ne_eq, not_false_eq_true, not_true_eq_false, eq_self, reduceCtorEq, Nat.reduceAdd, f1, eg]
  have hdiv : ∀ i, es G n S g / 2 ^ i < 2 ^ 31 := fun i => Nat.lt_of_le_of_lt (Nat.div_le_self _ _) (by omega)
  have fin : ∀ f', (∀ u, u < n → S.testBit u = false → u ≠ g → f' u = nI (if (es G n S g).testBit u = true then df (es G n S u ||| es G n S g) (2 ^ u ||| 2 ^ g) else es G n S u)) → Q (some (.int (nI (es G n S g)))) (hs h a (aI m f')) := by
    intro f' hf'
    refine k _ ⟨f', hg_same _ _ _, fun u hu hSu => ?_⟩ ((Sm.rf _ h).set rfl)
    rw [tb_or_pow, Bool.or_eq_false_iff, decide_eq_false_iff_not] at hSu
    rw [hf' u hu hSu.1 hSu.2, es_go hn hg1 hS hSu.2]
    have e : (es G n S g).testBit u = (es G n S u).testBit g := by
      apply Bool.eq_iff_iff.mpr
      exact ⟨fun q => es_sym hG hg1 hS q, fun q => es_sym hG hu hSu.1 q⟩
    rw [e]
  have key : ∀ i, i ≤ n → ∀ f', (∀ u, u < n → S.testBit u = false → u ≠ g → f' u = nI (if u < i ∧ (es G n S g).testBit u = true then df (es G n S u ||| es G n S g) (2 ^ u ||| 2 ^ g) else es G n S u)) → WP (d + 1) mX3_letGo 10 [some (.ref a), some (.int (nI n)), some (.int (nI g)), some (.int (nI (es G n S g))), some (.int (nI (es G n S g / 2 ^ i))), some (.int (nI i))] [] (hs h a (aI m f')) Q := by
    refine lup (P := fun i => ∀ f', (∀ u, u < n → S.testBit u = false → u ≠ g → f' u = nI (if u < i ∧ (es G n S g).testBit u = true then df (es G n S u ||| es G n S g) (2 ^ u ||| 2 ^ g) else es G n S u)) → WP (d + 1) mX3_letGo 10 [some (.ref a), some (.int (nI n)), some (.int (nI g)), some (.int (nI (es G n S g))), some (.int (nI (es G n S g / 2 ^ i))), some (.int (nI i))] [] (hs h a (aI m f')) Q) ?_ ?_
    · intro f' hf'
      rw [r_X3_letGo_10]
      simp (disch := first | omega | assumption) only [r_X3_letGo_0, r_X3_letGo_1, r_X3_letGo_2, r_X3_letGo_3, r_X3_letGo_4, r_X3_letGo_5, r_X3_letGo_7, r_X3_letGo_8, r_X3_letGo_12, r_X3_letGo_13, r_X3_letGo_16, r_X3_letGo_18, r_X3_letGo_21, r_X3_letGo_23, r_X3_letGo_24, r_X3_letGo_25, r_X3_letGo_28, r_X3_letGo_29, r_X3_letGo_31, r_X3_letGo_32, r_X3_letGo_34, r_X3_letGo_35, r_X3_letGo_36, r_X3_letGo_37, r_X3_letGo_39, r_X3_letGo_42, r_X3_letGo_43, r_X3_letGo_46, r_X3_letGo_47, r_X3_letGo_48, r_X3_letGo_49, r_X3_letGo_50, r_X3_letGo_51, r_X3_letGo_53, r_X3_letGo_54, r_X3_letGo_55, r_X3_letGo_57, r_X3_letGo_60, r_X3_letGo_63, r_X3_letGo_64, gF_0, gF_1, gF_2, gF_3, gF_4, gF_5, gF_6, gF_7, gF_8, gF_9, gF_10, gF_11, gF_12, gF_13, gF_14, gF_15, gF_16, gF_17, pF_0, pF_1, pF_2, pF_3, pF_4, pF_5, pF_6, pF_7, pF_8, pF_9, pF_10, pF_11, pF_12, pF_13, pF_14, pF_15, pF_16, pF_17, gI_of, gL_of, gR_of, sI_of, sL_of, gN_of, gO_of, cl_i, cl_r, cl_l, cl_n, pu_s, pu_n, rV_s, hg_same, hg_ne, if_true, if_false, true_and, and_true, ne_eq, not_false_eq_true, not_true_eq_false, eq_self, reduceCtorEq, Nat.reduceAdd, nI_add, n_mul, n_sub, n_div, n_dec, n_dif, n_shl1, n_bit, n_eq0, n_0eq, n_eq, n_lt, n_le, n_lt0, n_ge0, n_gt0, n_le0, n_em1, n_m1e, n_m1lt0, n_m1ge0, n_m1gt0, n_m1eq0, n_m1lt, bI_eq0, bI_ne0, tb_eq0, tb_eq1, Nat.le_refl]
      refine fin f' (fun u h1 h2 h3 => ?_)
      rw [hf' u h1 h2 h3]
      simp only [h1, true_and]
    · intro i hi ih f' hf'
      have hd := hdiv i
      have hb := tb_lt (es G n S g / 2 ^ i) 0
      have h2 : es G n S g / 2 ^ i / 2 = es G n S g / 2 ^ (i + 1) := by rw [Nat.div_div_eq_div_mul, Nat.pow_succ]
      rw [r_X3_letGo_10]
      by_cases hz : es G n S g / 2 ^ i = 0
      · have hz' : ∀ u, i ≤ u → (es G n S g).testBit u = false := by
          intro u hu
          refine tb_hi (n := i) ?_ hu
          exact (Nat.div_eq_zero_iff_lt (Nat.two_pow_pos i)).mp hz
        rw [hz]
        simp (disch := first | omega | assumption) only [r_X3_letGo_0, r_X3_letGo_1, r_X3_letGo_2, r_X3_letGo_3, r_X3_letGo_4, r_X3_letGo_5, r_X3_letGo_7, r_X3_letGo_8, r_X3_letGo_12, r_X3_letGo_13, r_X3_letGo_16, r_X3_letGo_18, r_X3_letGo_21, r_X3_letGo_23, r_X3_letGo_24, r_X3_letGo_25, r_X3_letGo_28, r_X3_letGo_29, r_X3_letGo_31, r_X3_letGo_32, r_X3_letGo_34, r_X3_letGo_35, r_X3_letGo_36, r_X3_letGo_37, r_X3_letGo_39, r_X3_letGo_42, r_X3_letGo_43, r_X3_letGo_46, r_X3_letGo_47, r_X3_letGo_48, r_X3_letGo_49, r_X3_letGo_50, r_X3_letGo_51, r_X3_letGo_53, r_X3_letGo_54, r_X3_letGo_55, r_X3_letGo_57, r_X3_letGo_60, r_X3_letGo_63, r_X3_letGo_64, gF_0, gF_1, gF_2, gF_3, gF_4, gF_5, gF_6, gF_7, gF_8, gF_9, gF_10, gF_11, gF_12, gF_13, gF_14, gF_15, gF_16, gF_17, pF_0, pF_1, pF_2, pF_3, pF_4, pF_5, pF_6, pF_7, pF_8, pF_9, pF_10, pF_11, pF_12, pF_13, pF_14, pF_15, pF_16, pF_17, gI_of, gL_of, gR_of, sI_of, sL_of, gN_of, gO_of, cl_i, cl_r, cl_l, cl_n, pu_s, pu_n, rV_s, hg_same, hg_ne, if_true, if_false, true_and, and_true, ne_eq, not_false_eq_true, not_true_eq_false, eq_self, reduceCtorEq, Nat.reduceAdd, nI_add, n_mul, n_sub, n_div, n_dec, n_dif, n_shl1, n_bit, n_eq0, n_0eq, n_eq, n_lt, n_le, n_lt0, n_ge0, n_gt0, n_le0, n_em1, n_m1e, n_m1lt0, n_m1ge0, n_m1gt0, n_m1eq0, n_m1lt, bI_eq0, bI_ne0, tb_eq0, tb_eq1, show ¬ n ≤ i by omega]
        refine fin f' (fun u h1 h2 h3 => ?_)
        rw [hf' u h1 h2 h3]
        by_cases hu : u < i
        · simp only [hu, true_and]
        · simp only [hu, false_and, if_false, hz' u (by omega), Bool.false_eq_true]
      · cases ht : (es G n S g).testBit i with
        | true =>
          have hbit : (es G n S g / 2 ^ i).testBit 0 = true := by rw [Nat.testBit_div_two_pow]; rw [Nat.zero_add]; exact ht
          have hi2 := (es_tb G n S g i).mp ht
          have ei : f' i = nI (es G n S i) := by
            rw [hf' i hi hi2.2.1 hi2.2.2.1]
            simp only [Nat.lt_irrefl, false_and, if_false]
          simp (disch := first | omega | assumption) only [r_X3_letGo_0, r_X3_letGo_1, r_X3_letGo_2, r_X3_letGo_3, r_X3_letGo_4, r_X3_letGo_5, r_X3_letGo_7, r_X3_letGo_8, r_X3_letGo_12, r_X3_letGo_13, r_X3_letGo_16, r_X3_letGo_18, r_X3_letGo_21, r_X3_letGo_23, r_X3_letGo_24, r_X3_letGo_25, r_X3_letGo_28, r_X3_letGo_29, r_X3_letGo_31, r_X3_letGo_32, r_X3_letGo_34, r_X3_letGo_35, r_X3_letGo_36, r_X3_letGo_37, r_X3_letGo_39, r_X3_letGo_42, r_X3_letGo_43, r_X3_letGo_46, r_X3_letGo_47, r_X3_letGo_48, r_X3_letGo_49, r_X3_letGo_50, r_X3_letGo_51, r_X3_letGo_53, r_X3_letGo_54, r_X3_letGo_55, r_X3_letGo_57, r_X3_letGo_60, r_X3_letGo_63, r_X3_letGo_64, gF_0, gF_1, gF_2, gF_3, gF_4, gF_5, gF_6, gF_7, gF_8, gF_9, gF_10, gF_11, gF_12, gF_13, gF_14, gF_15, gF_16, gF_17, pF_0, pF_1, pF_2, pF_3, pF_4, pF_5, pF_6, pF_7, pF_8, pF_9, pF_10, pF_11, pF_12, pF_13, pF_14, pF_15, pF_16, pF_17, gI_of, gL_of, gR_of, sI_of, sL_of, gN_of, gO_of, cl_i, cl_r, cl_l, cl_n, pu_s, pu_n, rV_s, hg_same, hg_ne, if_true, if_false, true_and, and_true, ne_eq, not_false_eq_true, not_true_eq_false, eq_self, reduceCtorEq, Nat.reduceAdd, nI_add, n_mul, n_sub, n_div, n_dec, n_dif, n_shl1, n_bit, n_eq0, n_0eq, n_eq, n_lt, n_le, n_lt0, n_ge0, n_gt0, n_le0, n_em1, n_m1e, n_m1lt0, n_m1ge0, n_m1gt0, n_m1eq0, n_m1lt, bI_eq0, bI_ne0, tb_eq0, tb_eq1, show ¬ n ≤ i by omega, hz, n_bit0, n_half, hbit, ei, x_bit, n_or, hs_hs, h2]
          refine ih _ (fun u h1 h2 h3 => ?_)
          by_cases e : u = i
          · subst e
            rw [up_same]
            simp only [Nat.lt_succ_self, true_and, ht, if_true]
          · rw [up_ne e, hf' u h1 h2 h3]
            by_cases hu : u < i
            · simp only [hu, show u < i + 1 by omega, true_and]
            · simp only [hu, show ¬ u < i + 1 by omega, false_and]
        | false =>
          have hbit : (es G n S g / 2 ^ i).testBit 0 = false := by rw [Nat.testBit_div_two_pow]; rw [Nat.zero_add]; exact ht
          simp (disch := first | omega | assumption) only [r_X3_letGo_0, r_X3_letGo_1, r_X3_letGo_2, r_X3_letGo_3, r_X3_letGo_4, r_X3_letGo_5, r_X3_letGo_7, r_X3_letGo_8, r_X3_letGo_12, r_X3_letGo_13, r_X3_letGo_16, r_X3_letGo_18, r_X3_letGo_21, r_X3_letGo_23, r_X3_letGo_24, r_X3_letGo_25, r_X3_letGo_28, r_X3_letGo_29, r_X3_letGo_31, r_X3_letGo_32, r_X3_letGo_34, r_X3_letGo_35, r_X3_letGo_36, r_X3_letGo_37, r_X3_letGo_39, r_X3_letGo_42, r_X3_letGo_43, r_X3_letGo_46, r_X3_letGo_47, r_X3_letGo_48, r_X3_letGo_49, r_X3_letGo_50, r_X3_letGo_51, r_X3_letGo_53, r_X3_letGo_54, r_X3_letGo_55, r_X3_letGo_57, r_X3_letGo_60, r_X3_letGo_63, r_X3_letGo_64, gF_0, gF_1, gF_2, gF_3, gF_4, gF_5, gF_6, gF_7, gF_8, gF_9, gF_10, gF_11, gF_12, gF_13, gF_14, gF_15, gF_16, gF_17, pF_0, pF_1, pF_2, pF_3, pF_4, pF_5, pF_6, pF_7, pF_8, pF_9, pF_10, pF_11, pF_12, pF_13, pF_14, pF_15, pF_16, pF_17, gI_of, gL_of, gR_of, sI_of, sL_of, gN_of, gO_of, cl_i, cl_r, cl_l, cl_n, pu_s, pu_n, rV_s, hg_same, hg_ne, if_true, if_false, true_and, and_true, ne_eq, not_false_eq_true, not_true_eq_false, eq_self, reduceCtorEq, Nat.reduceAdd, nI_add, n_mul, n_sub, n_div, n_dec, n_dif, n_shl1, n_bit, n_eq0, n_0eq, n_eq, n_lt, n_le, n_lt0, n_ge0, n_gt0, n_le0, n_em1, n_m1e, n_m1lt0, n_m1ge0, n_m1gt0, n_m1eq0, n_m1lt, bI_eq0, bI_ne0, tb_eq0, tb_eq1, show ¬ n ≤ i by omega, hz, n_bit0, n_half, hbit, h2]
          refine ih _ (fun u h1 h2 h3 => ?_)
          rw [hf' u h1 h2 h3]
          by_cases e : u = i
          · subst e
            simp only [Nat.lt_irrefl, false_and, ht, Bool.false_eq_true, and_false]
          · by_cases hu : u < i
            · simp only [hu, show u < i + 1 by omega, true_and]
            · simp only [hu, show ¬ u < i + 1 by omega, false_and]
  have := key 0 (by omega) f (fun u h1 h2 h3 => by rw [f2 u h1 h2]; simp only [Nat.not_lt_zero, false_and, if_false])
  rw [hs_self f1, Nat.pow_zero, Nat.div_one] at this
  exact this
