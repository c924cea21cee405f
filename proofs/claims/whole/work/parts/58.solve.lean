/-- one less, as Java counts down -/
def dI (k : Nat) : Int32 := nI k + (-1)
theorem dI_s (k : Nat) : dI (k + 1) = nI k := n_dec (Nat.succ_pos k)
theorem dI_0 : dI 0 = -1 := by decide +kernel
/-- s solves the upper triangle U with its side in column n -/
def sg (U : Nat → Nat → Nat) (s : Nat → Nat) (i : Nat) : Nat → Nat := sm (fun x => if i < x then U i x * s x else 0)
def sv (p n : Nat) (U : Nat → Nat → Nat) (s : Nat → Nat) (i : Nat) : Nat := rs p (((rs p ((U i n : Int) - ((sg U s i n : Nat) : Int)) * rcp p (U i i) : Nat)) : Int)
theorem sg_ext {U : Nat → Nat → Nat} {s t : Nat → Nat} {i : Nat} (n : Nat) (h : ∀ x, i < x → x < n → s x = t x) : sg U s i n = sg U t i n := by
  unfold sg
  refine sm_ext (fun x hx => ?_)
  by_cases e : i < x
  · simp only [if_pos e]; rw [h x e hx]
  · simp only [if_neg e]
theorem sv_ext {p n i : Nat} {U : Nat → Nat → Nat} {s t : Nat → Nat} (h : ∀ x, i < x → x < n → s x = t x) : sv p n U s i = sv p n U t i := by
  unfold sv
  rw [sg_ext n h]
theorem sg_low {U : Nat → Nat → Nat} {s : Nat → Nat} {i : Nat} : ∀ c, c ≤ i + 1 → sg U s i c = 0 := by
  intro c
  induction c with
  | zero => intro _; rfl
  | succ c ih =>
    intro h
    have := ih (by omega)
    unfold sg at this ⊢
    rw [sm, this, if_neg (by omega)]
theorem sg_le {U : Nat → Nat → Nat} {s : Nat → Nat} {i n p : Nat} (hn : n ≤ 20) (hp : p ≤ 46337) (hU : ∀ x, x < n → U i x < p) (hs : ∀ x, i < x → x < n → s x < p) : ∀ c, c ≤ n → sg U s i c ≤ 42942351400 := by
  intro c hc
  have := sm_le (f := fun x => if i < x then U i x * s x else 0) (b := 2147117570) c (fun x hx => by
    by_cases e : i < x
    · simp only [if_pos e]
      have := mul_lt (hU x (by omega)) (hs x e (by omega)) hp
      omega
    · simp only [if_neg e]; omega)
  unfold sg
  omega
theorem x_solve {d p n : Nat} {v : Int32} {h : j_H} {Q : Option Value → j_H → Prop} {R : Nat → Option Nat} {q : Nat → Nat} {A : Nat → Nat → Nat} (h63 : hg h 63 = some (oB 7 [.int (nI p), .int v, .ref 64, .ref 85])) (H : rW h R q n (n + 1) A) (h85 : isI h 85 20) (hp : 2 ≤ p) (hp2 : p ≤ 46337) (hn : 1 ≤ n ∧ n ≤ 20) (hA : ∀ a b, a < n → b < n + 1 → A a b < p)
    (kf : ∀ h1, (cS p n (n + 1) A n).2.1 < n → xR h1 p → Sm (fun b => 63 ≤ b ∧ b < 86) h h1 → Q (some (.int (bI false))) h1)
    (kt : ∀ h1 s v, ¬ (cS p n (n + 1) A n).2.1 < n → hg h1 63 = some (oB 7 [.int (nI p), .int v, .ref 64, .ref 85]) → hI h1 85 20 n (fun i => nI (s i)) → (∀ i, i < n → s i = sv p n (cS p n (n + 1) A n).1 s i) → xR h1 p → Sm (fun b => 63 ≤ b ∧ b < 86) h h1 → Q (some (.int (bI true))) h1) : WP (d + 3) mX7_solve 0 [some (.ref 63), some (.int (nI n)), none, none, none, none] [] h Q := by
  simp (disch := first | omega | assumption) only [r_X7_solve_0, r_X7_solve_1, r_X7_solve_2, r_X7_solve_3, r_X7_solve_4, r_X7_solve_5, r_X7_solve_8, r_X7_solve_9, r_X7_solve_12, r_X7_solve_13, r_X7_solve_13_0, r_X7_solve_13_1, r_X7_solve_14, r_X7_solve_15, r_X7_solve_16, r_X7_solve_17, r_X7_solve_19, r_X7_solve_22, r_X7_solve_23, r_X7_solve_26, r_X7_solve_27, r_X7_solve_28, r_X7_solve_29, r_X7_solve_30, r_X7_solve_31, r_X7_solve_32, r_X7_solve_33, r_X7_solve_34, r_X7_solve_35, r_X7_solve_39, r_X7_solve_40, r_X7_solve_43, r_X7_solve_44, r_X7_solve_45, r_X7_solve_48, r_X7_solve_49, r_X7_solve_50, r_X7_solve_52, r_X7_solve_53, r_X7_solve_54, r_X7_solve_55, r_X7_solve_58, r_X7_solve_60, r_X7_solve_61, r_X7_solve_62, r_X7_solve_63, r_X7_solve_64, r_X7_solve_65, r_X7_solve_68, r_X7_solve_71, r_X7_solve_72, r_X7_solve_75, r_X7_solve_76, r_X7_solve_77, r_X7_solve_78, r_X7_solve_79, r_X7_solve_82, r_X7_solve_83, r_X7_solve_84, r_X7_solve_85, r_X7_solve_88, r_X7_solve_89, r_X7_solve_90, r_X7_solve_91, r_X7_solve_92, r_X7_solve_95, r_X7_solve_96, r_X7_solve_97, r_X7_solve_100, r_X7_solve_101, r_X7_solve_104, r_X7_solve_107, r_X7_solve_108, r_X7_solve_108_0, r_X7_solve_108_1, gF_0, gF_1, gF_2, gF_3, gF_4, gF_5, gF_6, gF_7, gF_8, gF_9, gF_10, gF_11, gF_12, gF_13, gF_14, gF_15, gF_16, gF_17, pF_0, pF_1, pF_2, pF_3, pF_4, pF_5, pF_6, pF_7, pF_8, pF_9, pF_10, pF_11, pF_12, pF_13, pF_14, pF_15, pF_16, pF_17, gI_of, gL_of, gR_of, sI_of, sL_of, gN_of, gO_of, cl_i, cl_r, cl_l, cl_n, pu_s, pu_n, rV_s, hg_same, hg_ne, if_true, if_false, true_and, and_true, ne_eq, not_false_eq_true, not_true_eq_false, eq_self, reduceCtorEq, Nat.reduceAdd, nI_add, n_mul, n_sub, n_div, n_dec, n_dif, n_shl1, n_bit, n_eq0, n_0eq, n_eq, n_lt, n_le, n_lt0, n_ge0, n_gt0, n_le0, n_em1, n_m1e, n_m1lt0, n_m1ge0, n_m1gt0, n_m1eq0, n_m1lt, bI_eq0, bI_ne0, tb_eq0, tb_eq1, h63]
  refine x_clearBelow h63 H hp hp2 hn.2 (by omega) (by omega) hA (fun h1 R1 q1 H1 y63 hS1 => ?_)
  obtain ⟨c1, c2, c3⟩ := cS_ok (w := n + 1) hp hA n
  generalize cS p n (n + 1) A n = S at *
  obtain ⟨U, r, P⟩ := S
  simp only at c1 c2 c3 H1 y63 kf kt ⊢
  have y85 := h85.keep (hS1.at (b := 85) (by omega))
  by_cases hr : r < n
  · simp (disch := first | omega | assumption) only [r_X7_solve_0, r_X7_solve_1, r_X7_solve_2, r_X7_solve_3, r_X7_solve_4, r_X7_solve_5, r_X7_solve_8, r_X7_solve_9, r_X7_solve_12, r_X7_solve_13, r_X7_solve_13_0, r_X7_solve_13_1, r_X7_solve_14, r_X7_solve_15, r_X7_solve_16, r_X7_solve_17, r_X7_solve_19, r_X7_solve_22, r_X7_solve_23, r_X7_solve_26, r_X7_solve_27, r_X7_solve_28, r_X7_solve_29, r_X7_solve_30, r_X7_solve_31, r_X7_solve_32, r_X7_solve_33, r_X7_solve_34, r_X7_solve_35, r_X7_solve_39, r_X7_solve_40, r_X7_solve_43, r_X7_solve_44, r_X7_solve_45, r_X7_solve_48, r_X7_solve_49, r_X7_solve_50, r_X7_solve_52, r_X7_solve_53, r_X7_solve_54, r_X7_solve_55, r_X7_solve_58, r_X7_solve_60, r_X7_solve_61, r_X7_solve_62, r_X7_solve_63, r_X7_solve_64, r_X7_solve_65, r_X7_solve_68, r_X7_solve_71, r_X7_solve_72, r_X7_solve_75, r_X7_solve_76, r_X7_solve_77, r_X7_solve_78, r_X7_solve_79, r_X7_solve_82, r_X7_solve_83, r_X7_solve_84, r_X7_solve_85, r_X7_solve_88, r_X7_solve_89, r_X7_solve_90, r_X7_solve_91, r_X7_solve_92, r_X7_solve_95, r_X7_solve_96, r_X7_solve_97, r_X7_solve_100, r_X7_solve_101, r_X7_solve_104, r_X7_solve_107, r_X7_solve_108, r_X7_solve_108_0, r_X7_solve_108_1, gF_0, gF_1, gF_2, gF_3, gF_4, gF_5, gF_6, gF_7, gF_8, gF_9, gF_10, gF_11, gF_12, gF_13, gF_14, gF_15, gF_16, gF_17, pF_0, pF_1, pF_2, pF_3, pF_4, pF_5, pF_6, pF_7, pF_8, pF_9, pF_10, pF_11, pF_12, pF_13, pF_14, pF_15, pF_16, pF_17, gI_of, gL_of, gR_of, sI_of, sL_of, gN_of, gO_of, cl_i, cl_r, cl_l, cl_n, pu_s, pu_n, rV_s, hg_same, hg_ne, if_true, if_false, true_and, and_true, ne_eq, not_false_eq_true, not_true_eq_false, eq_self, reduceCtorEq, Nat.reduceAdd, nI_add, n_mul, n_sub, n_div, n_dec, n_dif, n_shl1, n_bit, n_eq0, n_0eq, n_eq, n_lt, n_le, n_lt0, n_ge0, n_gt0, n_le0, n_em1, n_m1e, n_m1lt0, n_m1ge0, n_m1gt0, n_m1eq0, n_m1lt, bI_eq0, bI_ne0, tb_eq0, tb_eq1, show ¬ n ≤ r by omega]
    exact kf h1 hr (H1.xR (h' := h1) y63 y85) (hS1.mono (fun x q => by omega))
  · simp (disch := first | omega | assumption) only [r_X7_solve_0, r_X7_solve_1, r_X7_solve_2, r_X7_solve_3, r_X7_solve_4, r_X7_solve_5, r_X7_solve_8, r_X7_solve_9, r_X7_solve_12, r_X7_solve_13, r_X7_solve_13_0, r_X7_solve_13_1, r_X7_solve_14, r_X7_solve_15, r_X7_solve_16, r_X7_solve_17, r_X7_solve_19, r_X7_solve_22, r_X7_solve_23, r_X7_solve_26, r_X7_solve_27, r_X7_solve_28, r_X7_solve_29, r_X7_solve_30, r_X7_solve_31, r_X7_solve_32, r_X7_solve_33, r_X7_solve_34, r_X7_solve_35, r_X7_solve_39, r_X7_solve_40, r_X7_solve_43, r_X7_solve_44, r_X7_solve_45, r_X7_solve_48, r_X7_solve_49, r_X7_solve_50, r_X7_solve_52, r_X7_solve_53, r_X7_solve_54, r_X7_solve_55, r_X7_solve_58, r_X7_solve_60, r_X7_solve_61, r_X7_solve_62, r_X7_solve_63, r_X7_solve_64, r_X7_solve_65, r_X7_solve_68, r_X7_solve_71, r_X7_solve_72, r_X7_solve_75, r_X7_solve_76, r_X7_solve_77, r_X7_solve_78, r_X7_solve_79, r_X7_solve_82, r_X7_solve_83, r_X7_solve_84, r_X7_solve_85, r_X7_solve_88, r_X7_solve_89, r_X7_solve_90, r_X7_solve_91, r_X7_solve_92, r_X7_solve_95, r_X7_solve_96, r_X7_solve_97, r_X7_solve_100, r_X7_solve_101, r_X7_solve_104, r_X7_solve_107, r_X7_solve_108, r_X7_solve_108_0, r_X7_solve_108_1, gF_0, gF_1, gF_2, gF_3, gF_4, gF_5, gF_6, gF_7, gF_8, gF_9, gF_10, gF_11, gF_12, gF_13, gF_14, gF_15, gF_16, gF_17, pF_0, pF_1, pF_2, pF_3, pF_4, pF_5, pF_6, pF_7, pF_8, pF_9, pF_10, pF_11, pF_12, pF_13, pF_14, pF_15, pF_16, pF_17, gI_of, gL_of, gR_of, sI_of, sL_of, gN_of, gO_of, cl_i, cl_r, cl_l, cl_n, pu_s, pu_n, rV_s, hg_same, hg_ne, if_true, if_false, true_and, and_true, ne_eq, not_false_eq_true, not_true_eq_false, eq_self, reduceCtorEq, Nat.reduceAdd, nI_add, n_mul, n_sub, n_div, n_dec, n_dif, n_shl1, n_bit, n_eq0, n_0eq, n_eq, n_lt, n_le, n_lt0, n_ge0, n_gt0, n_le0, n_em1, n_m1e, n_m1lt0, n_m1ge0, n_m1gt0, n_m1eq0, n_m1lt, bI_eq0, bI_ne0, tb_eq0, tb_eq1, show n ≤ r by omega]
    have key : ∀ k, k ≤ n → ∀ h' x3 x4 x5 f s, Sm (fun b => b = 85) h1 h' → hg h' 85 = some (aI 20 f) → (∀ i, k ≤ i → i < n → f i = nI (s i) ∧ s i < p ∧ s i = sv p n U s i) → WP (d + 3) mX7_solve 18 [some (.ref 63), some (.int (nI n)), some (.int (dI k)), x3, x4, x5] [] h' Q := by
      intro k
      induction k with
      | zero =>
        intro _ h' x3 x4 x5 f s hS f1 f2
        rw [r_X7_solve_18, dI_0]
        simp (disch := first | omega | assumption) only [r_X7_solve_0, r_X7_solve_1, r_X7_solve_2, r_X7_solve_3, r_X7_solve_4, r_X7_solve_5, r_X7_solve_8, r_X7_solve_9, r_X7_solve_12, r_X7_solve_13, r_X7_solve_13_0, r_X7_solve_13_1, r_X7_solve_14, r_X7_solve_15, r_X7_solve_16, r_X7_solve_17, r_X7_solve_19, r_X7_solve_22, r_X7_solve_23, r_X7_solve_26, r_X7_solve_27, r_X7_solve_28, r_X7_solve_29, r_X7_solve_30, r_X7_solve_31, r_X7_solve_32, r_X7_solve_33, r_X7_solve_34, r_X7_solve_35, r_X7_solve_39, r_X7_solve_40, r_X7_solve_43, r_X7_solve_44, r_X7_solve_45, r_X7_solve_48, r_X7_solve_49, r_X7_solve_50, r_X7_solve_52, r_X7_solve_53, r_X7_solve_54, r_X7_solve_55, r_X7_solve_58, r_X7_solve_60, r_X7_solve_61, r_X7_solve_62, r_X7_solve_63, r_X7_solve_64, r_X7_solve_65, r_X7_solve_68, r_X7_solve_71, r_X7_solve_72, r_X7_solve_75, r_X7_solve_76, r_X7_solve_77, r_X7_solve_78, r_X7_solve_79, r_X7_solve_82, r_X7_solve_83, r_X7_solve_84, r_X7_solve_85, r_X7_solve_88, r_X7_solve_89, r_X7_solve_90, r_X7_solve_91, r_X7_solve_92, r_X7_solve_95, r_X7_solve_96, r_X7_solve_97, r_X7_solve_100, r_X7_solve_101, r_X7_solve_104, r_X7_solve_107, r_X7_solve_108, r_X7_solve_108_0, r_X7_solve_108_1, gF_0, gF_1, gF_2, gF_3, gF_4, gF_5, gF_6, gF_7, gF_8, gF_9, gF_10, gF_11, gF_12, gF_13, gF_14, gF_15, gF_16, gF_17, pF_0, pF_1, pF_2, pF_3, pF_4, pF_5, pF_6, pF_7, pF_8, pF_9, pF_10, pF_11, pF_12, pF_13, pF_14, pF_15, pF_16, pF_17, gI_of, gL_of, gR_of, sI_of, sL_of, gN_of, gO_of, cl_i, cl_r, cl_l, cl_n, pu_s, pu_n, rV_s, hg_same, hg_ne, if_true, if_false, true_and, and_true, ne_eq, not_false_eq_true, not_true_eq_false, eq_self, reduceCtorEq, Nat.reduceAdd, nI_add, n_mul, n_sub, n_div, n_dec, n_dif, n_shl1, n_bit, n_eq0, n_0eq, n_eq, n_lt, n_le, n_lt0, n_ge0, n_gt0, n_le0, n_em1, n_m1e, n_m1lt0, n_m1ge0, n_m1gt0, n_m1eq0, n_m1lt, bI_eq0, bI_ne0, tb_eq0, tb_eq1, Nat.le_refl]
        have e63 := (hS.at (b := 63) (by omega)).trans y63
        have W : rW h' R1 q1 n (n + 1) U := by
          obtain ⟨w1, w2, w3, w4, w5⟩ := H1
          refine ⟨(hS.at (by omega)).trans w1, w2, w3, fun i hi => (w4 i hi).keep (hS.at (by omega)), fun i hi => ?_⟩
          obtain ⟨g, g1, g2⟩ := w5 i hi
          have := (w2 i (by omega)).2
          exact ⟨g, (hS.at (by omega)).trans g1, g2⟩
        exact kt h' s _ hr e63 ⟨f, f1, fun i hi => (f2 i (by omega) hi).1⟩ (fun i hi => (f2 i (by omega) hi).2.2) (W.xR (h' := h') e63 ⟨f, f1⟩) ((hS1.mono (fun x q => by omega)).trans (hS.mono (fun x q => by omega)))
      | succ k ih =>
        intro hk h' x3 x4 x5 f s hS f1 f2
        have e63 := (hS.at (b := 63) (by omega)).trans y63
        have e64 := (hS.at (b := 64) (by omega)).trans H1.1
        have eR := (H1.2.1 k (by omega)).1
        have qk := (H1.2.1 k (by omega)).2
        obtain ⟨g, g1, g2⟩ := H1.2.2.2.2 k (by omega)
        have g1' := (hS.at (b := 65 + q1 k) (by omega)).trans g1
        have gn := g2 n (by omega)
        have gk := g2 k (by omega)
        have un := c1 k n (by omega) (by omega)
        have uk := c1 k k (by omega) (by omega)
        rw [r_X7_solve_18, dI_s]
        simp (disch := first | omega | assumption) only [r_X7_solve_0, r_X7_solve_1, r_X7_solve_2, r_X7_solve_3, r_X7_solve_4, r_X7_solve_5, r_X7_solve_8, r_X7_solve_9, r_X7_solve_12, r_X7_solve_13, r_X7_solve_13_0, r_X7_solve_13_1, r_X7_solve_14, r_X7_solve_15, r_X7_solve_16, r_X7_solve_17, r_X7_solve_19, r_X7_solve_22, r_X7_solve_23, r_X7_solve_26, r_X7_solve_27, r_X7_solve_28, r_X7_solve_29, r_X7_solve_30, r_X7_solve_31, r_X7_solve_32, r_X7_solve_33, r_X7_solve_34, r_X7_solve_35, r_X7_solve_39, r_X7_solve_40, r_X7_solve_43, r_X7_solve_44, r_X7_solve_45, r_X7_solve_48, r_X7_solve_49, r_X7_solve_50, r_X7_solve_52, r_X7_solve_53, r_X7_solve_54, r_X7_solve_55, r_X7_solve_58, r_X7_solve_60, r_X7_solve_61, r_X7_solve_62, r_X7_solve_63, r_X7_solve_64, r_X7_solve_65, r_X7_solve_68, r_X7_solve_71, r_X7_solve_72, r_X7_solve_75, r_X7_solve_76, r_X7_solve_77, r_X7_solve_78, r_X7_solve_79, r_X7_solve_82, r_X7_solve_83, r_X7_solve_84, r_X7_solve_85, r_X7_solve_88, r_X7_solve_89, r_X7_solve_90, r_X7_solve_91, r_X7_solve_92, r_X7_solve_95, r_X7_solve_96, r_X7_solve_97, r_X7_solve_100, r_X7_solve_101, r_X7_solve_104, r_X7_solve_107, r_X7_solve_108, r_X7_solve_108_0, r_X7_solve_108_1, gF_0, gF_1, gF_2, gF_3, gF_4, gF_5, gF_6, gF_7, gF_8, gF_9, gF_10, gF_11, gF_12, gF_13, gF_14, gF_15, gF_16, gF_17, pF_0, pF_1, pF_2, pF_3, pF_4, pF_5, pF_6, pF_7, pF_8, pF_9, pF_10, pF_11, pF_12, pF_13, pF_14, pF_15, pF_16, pF_17, gI_of, gL_of, gR_of, sI_of, sL_of, gN_of, gO_of, cl_i, cl_r, cl_l, cl_n, pu_s, pu_n, rV_s, hg_same, hg_ne, if_true, if_false, true_and, and_true, ne_eq, not_false_eq_true, not_true_eq_false, eq_self, reduceCtorEq, Nat.reduceAdd, nI_add, n_mul, n_sub, n_div, n_dec, n_dif, n_shl1, n_bit, n_eq0, n_0eq, n_eq, n_lt, n_le, n_lt0, n_ge0, n_gt0, n_le0, n_em1, n_m1e, n_m1lt0, n_m1ge0, n_m1gt0, n_m1eq0, n_m1lt, bI_eq0, bI_ne0, tb_eq0, tb_eq1, e63, e64, eR, g1', gn, nI_lI]
        have hsl : ∀ x, k < x → x < n → s x < p := fun x h1 h2 => (f2 x (by omega) h2).2.1
        have hle := sg_le (U := U) (s := s) (i := k) hn.2 hp2 (fun x hx => c1 k x (by omega) (by omega)) hsl
        have key2 : ∀ c, c ≤ n → k < c → WP (d + 3) mX7_solve 37 [some (.ref 63), some (.int (nI n)), some (.int (nI k)), some (.long (lI ((U k n : Int) - ((sg U s k c : Nat) : Int)))), none, some (.int (nI c))] [] h' Q := by
          refine lup (P := fun c => k < c → WP (d + 3) mX7_solve 37 [some (.ref 63), some (.int (nI n)), some (.int (nI k)), some (.long (lI ((U k n : Int) - ((sg U s k c : Nat) : Int)))), none, some (.int (nI c))] [] h' Q) ?_ ?_
          · intro _
            have hl := hle n (Nat.le_refl n)
            have hrs := rs_lt (p := p) (by omega) ((U k n : Int) - ((sg U s k n : Nat) : Int))
            have hrc := rcp_lt hp (U k k)
            have hm := mul_lt hrs hrc hp2
            rw [r_X7_solve_37]
            simp (disch := first | omega | assumption) only [r_X7_solve_0, r_X7_solve_1, r_X7_solve_2, r_X7_solve_3, r_X7_solve_4, r_X7_solve_5, r_X7_solve_8, r_X7_solve_9, r_X7_solve_12, r_X7_solve_13, r_X7_solve_13_0, r_X7_solve_13_1, r_X7_solve_14, r_X7_solve_15, r_X7_solve_16, r_X7_solve_17, r_X7_solve_19, r_X7_solve_22, r_X7_solve_23, r_X7_solve_26, r_X7_solve_27, r_X7_solve_28, r_X7_solve_29, r_X7_solve_30, r_X7_solve_31, r_X7_solve_32, r_X7_solve_33, r_X7_solve_34, r_X7_solve_35, r_X7_solve_39, r_X7_solve_40, r_X7_solve_43, r_X7_solve_44, r_X7_solve_45, r_X7_solve_48, r_X7_solve_49, r_X7_solve_50, r_X7_solve_52, r_X7_solve_53, r_X7_solve_54, r_X7_solve_55, r_X7_solve_58, r_X7_solve_60, r_X7_solve_61, r_X7_solve_62, r_X7_solve_63, r_X7_solve_64, r_X7_solve_65, r_X7_solve_68, r_X7_solve_71, r_X7_solve_72, r_X7_solve_75, r_X7_solve_76, r_X7_solve_77, r_X7_solve_78, r_X7_solve_79, r_X7_solve_82, r_X7_solve_83, r_X7_solve_84, r_X7_solve_85, r_X7_solve_88, r_X7_solve_89, r_X7_solve_90, r_X7_solve_91, r_X7_solve_92, r_X7_solve_95, r_X7_solve_96, r_X7_solve_97, r_X7_solve_100, r_X7_solve_101, r_X7_solve_104, r_X7_solve_107, r_X7_solve_108, r_X7_solve_108_0, r_X7_solve_108_1, gF_0, gF_1, gF_2, gF_3, gF_4, gF_5, gF_6, gF_7, gF_8, gF_9, gF_10, gF_11, gF_12, gF_13, gF_14, gF_15, gF_16, gF_17, pF_0, pF_1, pF_2, pF_3, pF_4, pF_5, pF_6, pF_7, pF_8, pF_9, pF_10, pF_11, pF_12, pF_13, pF_14, pF_15, pF_16, pF_17, gI_of, gL_of, gR_of, sI_of, sL_of, gN_of, gO_of, cl_i, cl_r, cl_l, cl_n, pu_s, pu_n, rV_s, hg_same, hg_ne, if_true, if_false, true_and, and_true, ne_eq, not_false_eq_true, not_true_eq_false, eq_self, reduceCtorEq, Nat.reduceAdd, nI_add, n_mul, n_sub, n_div, n_dec, n_dif, n_shl1, n_bit, n_eq0, n_0eq, n_eq, n_lt, n_le, n_lt0, n_ge0, n_gt0, n_le0, n_em1, n_m1e, n_m1lt0, n_m1ge0, n_m1gt0, n_m1eq0, n_m1lt, bI_eq0, bI_ne0, tb_eq0, tb_eq1, Nat.le_refl, e63, e64, eR, g1', gk, x_restOf e63, x_reciprocal e63, nI_lI, lI_mulN, f1]
            have hsv : rs p (((rs p ((U k n : Int) - ((sg U s k n : Nat) : Int)) * rcp p (U k k) : Nat)) : Int) = sv p n U (up s k (sv p n U s k)) k := by
              show sv p n U s k = _
              exact sv_ext (fun x h1 _ => (up_ne (by omega)).symm)
            refine ih (by omega) _ _ _ _ (up f k (nI (sv p n U s k))) (up s k (sv p n U s k)) (hS.set rfl) (hg_same _ _ _) (fun i h1 h2 => ?_)
            by_cases e : i = k
            · subst e
              rw [up_same, up_same]
              exact ⟨rfl, rs_lt (by omega) _, hsv⟩
            · rw [up_ne e, up_ne e]
              obtain ⟨q1, q2, q3⟩ := f2 i (by omega) h2
              refine ⟨q1, q2, ?_⟩
              rw [← sv_ext (s := s) (t := up s k (sv p n U s k)) (fun x h3 _ => (up_ne (by omega)).symm)]
              exact q3
          · intro c hc ih2 hkc
            have gc := g2 c (by omega)
            obtain ⟨fc, sc, -⟩ := f2 c (by omega) hc
            have uc := c1 k c (by omega) (by omega)
            have hm := mul_lt uc sc hp2
            have nx := ih2 (by omega)
            have e1 : (U k n : Int) - ((sg U s k c : Nat) : Int) - ((U k c * s c : Nat) : Int) = (U k n : Int) - ((sg U s k (c + 1) : Nat) : Int) := by
              have : sg U s k (c + 1) = sg U s k c + U k c * s c := by
                unfold sg
                rw [sm, if_pos hkc]
              rw [this]; omega
            rw [r_X7_solve_37]
            simp (disch := first | omega | assumption) only [r_X7_solve_0, r_X7_solve_1, r_X7_solve_2, r_X7_solve_3, r_X7_solve_4, r_X7_solve_5, r_X7_solve_8, r_X7_solve_9, r_X7_solve_12, r_X7_solve_13, r_X7_solve_13_0, r_X7_solve_13_1, r_X7_solve_14, r_X7_solve_15, r_X7_solve_16, r_X7_solve_17, r_X7_solve_19, r_X7_solve_22, r_X7_solve_23, r_X7_solve_26, r_X7_solve_27, r_X7_solve_28, r_X7_solve_29, r_X7_solve_30, r_X7_solve_31, r_X7_solve_32, r_X7_solve_33, r_X7_solve_34, r_X7_solve_35, r_X7_solve_39, r_X7_solve_40, r_X7_solve_43, r_X7_solve_44, r_X7_solve_45, r_X7_solve_48, r_X7_solve_49, r_X7_solve_50, r_X7_solve_52, r_X7_solve_53, r_X7_solve_54, r_X7_solve_55, r_X7_solve_58, r_X7_solve_60, r_X7_solve_61, r_X7_solve_62, r_X7_solve_63, r_X7_solve_64, r_X7_solve_65, r_X7_solve_68, r_X7_solve_71, r_X7_solve_72, r_X7_solve_75, r_X7_solve_76, r_X7_solve_77, r_X7_solve_78, r_X7_solve_79, r_X7_solve_82, r_X7_solve_83, r_X7_solve_84, r_X7_solve_85, r_X7_solve_88, r_X7_solve_89, r_X7_solve_90, r_X7_solve_91, r_X7_solve_92, r_X7_solve_95, r_X7_solve_96, r_X7_solve_97, r_X7_solve_100, r_X7_solve_101, r_X7_solve_104, r_X7_solve_107, r_X7_solve_108, r_X7_solve_108_0, r_X7_solve_108_1, gF_0, gF_1, gF_2, gF_3, gF_4, gF_5, gF_6, gF_7, gF_8, gF_9, gF_10, gF_11, gF_12, gF_13, gF_14, gF_15, gF_16, gF_17, pF_0, pF_1, pF_2, pF_3, pF_4, pF_5, pF_6, pF_7, pF_8, pF_9, pF_10, pF_11, pF_12, pF_13, pF_14, pF_15, pF_16, pF_17, gI_of, gL_of, gR_of, sI_of, sL_of, gN_of, gO_of, cl_i, cl_r, cl_l, cl_n, pu_s, pu_n, rV_s, hg_same, hg_ne, if_true, if_false, true_and, and_true, ne_eq, not_false_eq_true, not_true_eq_false, eq_self, reduceCtorEq, Nat.reduceAdd, nI_add, n_mul, n_sub, n_div, n_dec, n_dif, n_shl1, n_bit, n_eq0, n_0eq, n_eq, n_lt, n_le, n_lt0, n_ge0, n_gt0, n_le0, n_em1, n_m1e, n_m1lt0, n_m1ge0, n_m1gt0, n_m1eq0, n_m1lt, bI_eq0, bI_ne0, tb_eq0, tb_eq1, show ¬ n ≤ c by omega, e63, e64, eR, g1', gc, f1, fc, nI_lI, lI_mulN, lI_sub, e1]
            exact nx
        have := key2 (k + 1) (by omega) (by omega)
        rw [sg_low (k + 1) (Nat.le_refl _)] at this
        rw [show (U k n : Int) - ((0 : Nat) : Int) = (U k n : Int) by omega] at this
        exact this
    obtain ⟨f, f1⟩ := y85
    have := key n (Nat.le_refl n) h1 none none none f (fun _ => 0) (Sm.rf _ h1) f1 (fun i h1 h2 => by omega)
    rw [show dI n = nI (n - 1) from n_dec (by omega)] at this
    exact this
