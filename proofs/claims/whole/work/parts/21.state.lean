theorem hs_hs (h : j_H) (a : Nat) (c c' : j_C) : hs (hs h a c) a c' = hs h a c' := by
  simp only [hs]
  congr 2
  funext b
  by_cases e : b = a <;> simp [e]
theorem hs_self {h : j_H} {a : Nat} {c : j_C} (hc : hg h a = some c) : hs h a c = h := by
  obtain ⟨x, y, f⟩ := h
  simp only [hs]
  congr 2
  funext b
  by_cases e : b = a
  · subst e; rw [if_pos rfl]; exact hc.symm
  · rw [if_neg e]
theorem hs_sz (h : j_H) (a : Nat) (c : j_C) : (hs h a c).1 = h.1 := rfl
theorem hs_sl (h : j_H) (a : Nat) (c : j_C) : (hs h a c).2.1 = h.2.1 := rfl
/-- a set of the numbers below n -/
def mk (p : Nat → Bool) : Nat → Nat
  | 0 => 0
  | k + 1 => mk p k ||| (if p k then 2 ^ k else 0)
theorem mk_tb (p : Nat → Bool) (n i : Nat) : (mk p n).testBit i = (decide (i < n) && p i) := by
  induction n with
  | zero => simp [mk]
  | succ k ih =>
    rw [mk, Nat.testBit_or, ih]
    by_cases hp : p k = true
    · rw [if_pos hp, tb_pow]
      by_cases e : i = k
      · subst e; simp [hp]
      · have : (i < k + 1) = (i < k) := propext ⟨fun h => by omega, fun h => by omega⟩
        simp [e, this]
    · rw [if_neg hp, Nat.zero_testBit]
      by_cases e : i = k
      · subst e; simp [hp]
      · have : (i < k + 1) = (i < k) := propext ⟨fun h => by omega, fun h => by omega⟩
        simp [this]
theorem mk_lt (p : Nat → Bool) (n : Nat) : mk p n < 2 ^ n := lt_of_tb (fun i hi => by rw [mk_tb]; simp; omega)
theorem mk_ext {p q : Nat → Bool} {n : Nat} (h : ∀ i, i < n → p i = q i) : mk p n = mk q n := tb_ext (fun i => by
  rw [mk_tb, mk_tb]
  by_cases e : i < n
  · rw [h i e]
  · simp [e])
def isI (h : j_H) (a n : Nat) : Prop := ∃ f, hg h a = some (aI n f)
def isL (h : j_H) (a n : Nat) : Prop := ∃ f, hg h a = some (aL n f)
def hI (h : j_H) (a n m : Nat) (g : Nat → Int32) : Prop := ∃ f, hg h a = some (aI n f) ∧ ∀ i, i < m → f i = g i
/-- the same but at these addresses -/
def Sm (S : Nat → Prop) (h h' : j_H) : Prop := h'.1 = h.1 ∧ h'.2.1 = h.2.1 ∧ ∀ b, ¬ S b → hg h' b = hg h b
theorem Sm.rf (S : Nat → Prop) (h : j_H) : Sm S h h := ⟨rfl, rfl, fun _ _ => rfl⟩
theorem Sm.set {S : Nat → Prop} {h h' : j_H} {a : Nat} {c : j_C} (hh : Sm S h h') (ha : S a) : Sm S h (hs h' a c) := ⟨hh.1, hh.2.1, fun b hb => by
  have e : b ≠ a := fun e => hb (by rw [e]; exact ha)
  rw [hg_ne e]; exact hh.2.2 b hb⟩
theorem Sm.trans {S : Nat → Prop} {h h' h'' : j_H} (a : Sm S h h') (b : Sm S h' h'') : Sm S h h'' := ⟨b.1.trans a.1, b.2.1.trans a.2.1, fun x hx => (b.2.2 x hx).trans (a.2.2 x hx)⟩
theorem Sm.mono {S T : Nat → Prop} {h h' : j_H} (a : Sm S h h') (hs : ∀ x, S x → T x) : Sm T h h' := ⟨a.1, a.2.1, fun b hb => a.2.2 b (fun q => hb (hs b q))⟩
theorem Sm.at {S : Nat → Prop} {h h' : j_H} {b : Nat} (a : Sm S h h') (hb : ¬ S b) : hg h' b = hg h b := a.2.2 b hb
theorem isI.keep {h h' : j_H} {a n : Nat} (hh : isI h a n) (e : hg h' a = hg h a) : isI h' a n := by
  obtain ⟨f, hf⟩ := hh
  exact ⟨f, e.trans hf⟩
theorem isL.keep {h h' : j_H} {a n : Nat} (hh : isL h a n) (e : hg h' a = hg h a) : isL h' a n := by
  obtain ⟨f, hf⟩ := hh
  exact ⟨f, e.trans hf⟩
theorem hI.keep {h h' : j_H} {a n m : Nat} {g : Nat → Int32} (hh : hI h a n m g) (e : hg h' a = hg h a) : hI h' a n m g := by
  obtain ⟨f, hf, hk⟩ := hh
  exact ⟨f, e.trans hf, hk⟩
theorem hI.is {h : j_H} {a n m : Nat} {g : Nat → Int32} (hh : hI h a n m g) : isI h a n := by
  obtain ⟨f, hf, hk⟩ := hh
  exact ⟨f, hf⟩
theorem w_fill {d a n : Nat} {v : Int32} {h : j_H} {Q : Option Value → j_H → Prop} {f : Nat → Int32} (hf : hg h a = some (aI n f)) (ha : a ≠ 0) (hn : n < 2 ^ 31 - 1) (k : ∀ g, (∀ j, j < n → g j = v) → Q none (hs h a (aI n g))) : WP d mJ_fill 0 [some (.ref a), some (.int v), none, none] [] h Q := by
  simp (disch := first | omega | assumption) only [r_J_fill_0, r_J_fill_1, r_J_fill_2, r_J_fill_3, r_J_fill_4, r_J_fill_6, r_J_fill_7, r_J_fill_10, r_J_fill_11, r_J_fill_12, r_J_fill_13, r_J_fill_14, r_J_fill_17, r_J_fill_20, gF_0, gF_1, gF_2, gF_3, gF_4, gF_5, gF_6, gF_7, gF_8, gF_9, gF_10, gF_11, gF_12, gF_13, gF_14, gF_15, gF_16, gF_17, pF_0, pF_1, pF_2, pF_3, pF_4, pF_5, pF_6, pF_7, pF_8, pF_9, pF_10, pF_11, pF_12, pF_13, pF_14, pF_15, pF_16, pF_17, gI_of, gL_of, gR_of, sI_of, sL_of, gN_of, gO_of, cl_i, cl_r, cl_l, cl_n, pu_s, pu_n, rV_s, hg_same, hg_ne, if_true, if_false, true_and, and_true, ne_eq, not_false_eq_true, not_true_eq_false, hf]
  have key : ∀ i, i ≤ n → ∀ g, (∀ j, j < i → g j = v) → WP d mJ_fill 5 [some (.ref a), some (.int v), some (.int (nI i)), some (.int (nI n))] [] (hs h a (aI n g)) Q := by
    refine lup (P := fun i => ∀ g, (∀ j, j < i → g j = v) → WP d mJ_fill 5 [some (.ref a), some (.int v), some (.int (nI i)), some (.int (nI n))] [] (hs h a (aI n g)) Q) ?_ ?_
    · intro g hg
      rw [r_J_fill_5]
      simp (disch := first | omega | assumption) only [r_J_fill_0, r_J_fill_1, r_J_fill_2, r_J_fill_3, r_J_fill_4, r_J_fill_6, r_J_fill_7, r_J_fill_10, r_J_fill_11, r_J_fill_12, r_J_fill_13, r_J_fill_14, r_J_fill_17, r_J_fill_20, gF_0, gF_1, gF_2, gF_3, gF_4, gF_5, gF_6, gF_7, gF_8, gF_9, gF_10, gF_11, gF_12, gF_13, gF_14, gF_15, gF_16, gF_17, pF_0, pF_1, pF_2, pF_3, pF_4, pF_5, pF_6, pF_7, pF_8, pF_9, pF_10, pF_11, pF_12, pF_13, pF_14, pF_15, pF_16, pF_17, gI_of, gL_of, gR_of, sI_of, sL_of, gN_of, gO_of, cl_i, cl_r, cl_l, cl_n, pu_s, pu_n, rV_s, hg_same, hg_ne, if_true, if_false, true_and, and_true, ne_eq, not_false_eq_true, not_true_eq_false, nI_add, n_mul, n_sub, n_div, n_dec, n_dif, n_shl1, n_bit, n_eq0, n_0eq, n_eq, n_lt, n_le, n_lt0, n_ge0, n_gt0, n_le0, n_em1, n_m1e, n_m1lt0, n_m1ge0, n_m1gt0, n_m1eq0, n_m1lt, bI_eq0, bI_ne0, tb_eq0, tb_eq1, Nat.le_refl]
      exact k g hg
    · intro i hi ih g hg
      rw [r_J_fill_5]
      simp (disch := first | omega | assumption) only [r_J_fill_0, r_J_fill_1, r_J_fill_2, r_J_fill_3, r_J_fill_4, r_J_fill_6, r_J_fill_7, r_J_fill_10, r_J_fill_11, r_J_fill_12, r_J_fill_13, r_J_fill_14, r_J_fill_17, r_J_fill_20, gF_0, gF_1, gF_2, gF_3, gF_4, gF_5, gF_6, gF_7, gF_8, gF_9, gF_10, gF_11, gF_12, gF_13, gF_14, gF_15, gF_16, gF_17, pF_0, pF_1, pF_2, pF_3, pF_4, pF_5, pF_6, pF_7, pF_8, pF_9, pF_10, pF_11, pF_12, pF_13, pF_14, pF_15, pF_16, pF_17, gI_of, gL_of, gR_of, sI_of, sL_of, gN_of, gO_of, cl_i, cl_r, cl_l, cl_n, pu_s, pu_n, rV_s, hg_same, hg_ne, if_true, if_false, true_and, and_true, ne_eq, not_false_eq_true, not_true_eq_false, nI_add, n_mul, n_sub, n_div, n_dec, n_dif, n_shl1, n_bit, n_eq0, n_0eq, n_eq, n_lt, n_le, n_lt0, n_ge0, n_gt0, n_le0, n_em1, n_m1e, n_m1lt0, n_m1ge0, n_m1gt0, n_m1eq0, n_m1lt, bI_eq0, bI_ne0, tb_eq0, tb_eq1, show ¬ n ≤ i by omega, hs_hs]
      refine ih _ (fun j hj => ?_)
      by_cases e : j = i
      · subst e; exact up_same _ _ _
      · rw [up_ne e]; exact hg j (by omega)
  have := key 0 (by omega) f (fun j hj => by omega)
  rw [hs_self hf] at this
  exact this
