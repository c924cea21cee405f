/-- the first row from r on that is not nought in a column; n if there is none -/
def fpk (A : Nat → Nat → Nat) (c : Nat) : Nat → Nat → Nat
  | 0, i => i
  | k + 1, i => if A i c = 0 then fpk A c k (i + 1) else i
def fp (A : Nat → Nat → Nat) (c n r : Nat) : Nat := fpk A c (n - r) r
theorem fp_end (A : Nat → Nat → Nat) (c n : Nat) : fp A c n n = n := by unfold fp; rw [Nat.sub_self]; rfl
theorem fp_skip {A : Nat → Nat → Nat} {c n r : Nat} (h : r < n) (hz : A r c = 0) : fp A c n r = fp A c n (r + 1) := by
  unfold fp
  rw [show n - r = (n - (r + 1)) + 1 by omega, fpk, if_pos hz]
theorem fp_hit {A : Nat → Nat → Nat} {c n r : Nat} (h : r < n) (hz : A r c ≠ 0) : fp A c n r = r := by
  unfold fp
  rw [show n - r = (n - (r + 1)) + 1 by omega, fpk, if_neg hz]
theorem fp_spec (A : Nat → Nat → Nat) (c n : Nat) : ∀ r, r ≤ n → (r ≤ fp A c n r ∧ fp A c n r ≤ n) ∧ (fp A c n r < n → A (fp A c n r) c ≠ 0) := by
  refine lup (P := fun r => (r ≤ fp A c n r ∧ fp A c n r ≤ n) ∧ (fp A c n r < n → A (fp A c n r) c ≠ 0)) ?_ ?_
  · rw [fp_end]; exact ⟨⟨Nat.le_refl n, Nat.le_refl n⟩, fun h => absurd h (Nat.lt_irrefl n)⟩
  · intro r hr ih
    by_cases hz : A r c = 0
    · rw [fp_skip hr hz]; exact ⟨⟨by omega, ih.1.2⟩, ih.2⟩
    · rw [fp_hit hr hz]; exact ⟨⟨by omega, by omega⟩, fun _ => hz⟩
theorem fp_ext {A B : Nat → Nat → Nat} {c n : Nat} : ∀ r, r ≤ n → (∀ i, r ≤ i → i < n → A i c = B i c) → fp A c n r = fp B c n r := by
  refine lup (P := fun r => (∀ i, r ≤ i → i < n → A i c = B i c) → fp A c n r = fp B c n r) ?_ ?_
  · intro _; rw [fp_end, fp_end]
  · intro r hr ih hE
    have e := hE r (by omega) hr
    by_cases hz : A r c = 0
    · rw [fp_skip hr hz, fp_skip hr (e.symm.trans hz)]; exact ih (fun i h1 h2 => hE i (by omega) h2)
    · rw [fp_hit hr hz, fp_hit hr (by rw [← e]; exact hz)]
def swp (A : Nat → Nat → Nat) (a b : Nat) : Nat → Nat → Nat := fun i j => if i = a then A b j else if i = b then A a j else A i j
theorem swp_lt {A : Nat → Nat → Nat} {a b n w p : Nat} (ha : a < n) (hb : b < n) (hA : ∀ i j, i < n → j < w → A i j < p) : ∀ i j, i < n → j < w → swp A a b i j < p := by
  intro i j hi hj
  unfold swp
  split
  · exact hA b j hb hj
  · split
    · exact hA a j ha hj
    · exact hA i j hi hj
theorem swp_self (A : Nat → Nat → Nat) (a : Nat) : swp A a a = A := by
  funext i j
  unfold swp
  by_cases e : i = a
  · rw [if_pos e, e]
  · rw [if_neg e, if_neg e]
theorem x_rowWithPivot {d p n w c r : Nat} {v : Int32} {h : j_H} {Q : Option Value → j_H → Prop} {R : Nat → Option Nat} {q : Nat → Nat} {A : Nat → Nat → Nat} (h63 : hg h 63 = some (oB 7 [.int (nI p), .int v, .ref 64, .ref 85])) (H : rW h R q n w A) (hn : n ≤ 20) (hw : w ≤ 21) (hc : c < w) (hp : p ≤ 46337) (hA : ∀ a b, a < n → b < w → A a b < p) (hr : r ≤ n) : WP d mX7_rowWithPivot 0 [some (.ref 63), some (.int (nI r)), some (.int (nI c)), some (.int (nI n)), none] [] h Q = Q (some (.int (if fp A c n r < n then nI (fp A c n r) else -1))) h := by
  simp (disch := first | omega | assumption) only [r_X7_rowWithPivot_0, r_X7_rowWithPivot_1, r_X7_rowWithPivot_5, r_X7_rowWithPivot_6, r_X7_rowWithPivot_9, r_X7_rowWithPivot_10, r_X7_rowWithPivot_13, r_X7_rowWithPivot_15, r_X7_rowWithPivot_16, r_X7_rowWithPivot_17, r_X7_rowWithPivot_18, r_X7_rowWithPivot_21, r_X7_rowWithPivot_23, r_X7_rowWithPivot_24, r_X7_rowWithPivot_27, r_X7_rowWithPivot_30, r_X7_rowWithPivot_31, gF_0, gF_1, gF_2, gF_3, gF_4, gF_5, gF_6, gF_7, gF_8, gF_9, gF_10, gF_11, gF_12, gF_13, gF_14, gF_15, gF_16, gF_17, pF_0, pF_1, pF_2, pF_3, pF_4, pF_5, pF_6, pF_7, pF_8, pF_9, pF_10, pF_11, pF_12, pF_13, pF_14, pF_15, pF_16, pF_17, gI_of, gL_of, gR_of, sI_of, sL_of, gN_of, gO_of, cl_i, cl_r, cl_l, cl_n, pu_s, pu_n, rV_s, hg_same, hg_ne, if_true, if_false, true_and, and_true, ne_eq, not_false_eq_true, not_true_eq_false, eq_self, reduceCtorEq, Nat.reduceAdd]
  have h64 := H.1
  have key : ∀ i, i ≤ n → WP d mX7_rowWithPivot 3 [some (.ref 63), some (.int (nI r)), some (.int (nI c)), some (.int (nI n)), some (.int (nI i))] [] h Q = Q (some (.int (if fp A c n i < n then nI (fp A c n i) else -1))) h := by
    refine lup (P := fun i => WP d mX7_rowWithPivot 3 [some (.ref 63), some (.int (nI r)), some (.int (nI c)), some (.int (nI n)), some (.int (nI i))] [] h Q = Q (some (.int (if fp A c n i < n then nI (fp A c n i) else -1))) h) ?_ ?_
    · rw [r_X7_rowWithPivot_3, fp_end, if_neg (Nat.lt_irrefl n)]
      simp (disch := first | omega | assumption) only [r_X7_rowWithPivot_0, r_X7_rowWithPivot_1, r_X7_rowWithPivot_5, r_X7_rowWithPivot_6, r_X7_rowWithPivot_9, r_X7_rowWithPivot_10, r_X7_rowWithPivot_13, r_X7_rowWithPivot_15, r_X7_rowWithPivot_16, r_X7_rowWithPivot_17, r_X7_rowWithPivot_18, r_X7_rowWithPivot_21, r_X7_rowWithPivot_23, r_X7_rowWithPivot_24, r_X7_rowWithPivot_27, r_X7_rowWithPivot_30, r_X7_rowWithPivot_31, gF_0, gF_1, gF_2, gF_3, gF_4, gF_5, gF_6, gF_7, gF_8, gF_9, gF_10, gF_11, gF_12, gF_13, gF_14, gF_15, gF_16, gF_17, pF_0, pF_1, pF_2, pF_3, pF_4, pF_5, pF_6, pF_7, pF_8, pF_9, pF_10, pF_11, pF_12, pF_13, pF_14, pF_15, pF_16, pF_17, gI_of, gL_of, gR_of, sI_of, sL_of, gN_of, gO_of, cl_i, cl_r, cl_l, cl_n, pu_s, pu_n, rV_s, hg_same, hg_ne, if_true, if_false, true_and, and_true, ne_eq, not_false_eq_true, not_true_eq_false, eq_self, reduceCtorEq, Nat.reduceAdd, nI_add, n_mul, n_sub, n_div, n_dec, n_dif, n_shl1, n_bit, n_eq0, n_0eq, n_eq, n_lt, n_le, n_lt0, n_ge0, n_gt0, n_le0, n_em1, n_m1e, n_m1lt0, n_m1ge0, n_m1gt0, n_m1eq0, n_m1lt, bI_eq0, bI_ne0, tb_eq0, tb_eq1, Nat.le_refl]
    · intro i hi ih
      obtain ⟨f, f1, f2⟩ := H.2.2.2.2 i hi
      have eR := (H.2.1 i (by omega)).1
      have ec := f2 c hc
      have hlt := hA i c hi hc
      rw [r_X7_rowWithPivot_3]
      by_cases hz : A i c = 0
      · simp (disch := first | omega | assumption) only [r_X7_rowWithPivot_0, r_X7_rowWithPivot_1, r_X7_rowWithPivot_5, r_X7_rowWithPivot_6, r_X7_rowWithPivot_9, r_X7_rowWithPivot_10, r_X7_rowWithPivot_13, r_X7_rowWithPivot_15, r_X7_rowWithPivot_16, r_X7_rowWithPivot_17, r_X7_rowWithPivot_18, r_X7_rowWithPivot_21, r_X7_rowWithPivot_23, r_X7_rowWithPivot_24, r_X7_rowWithPivot_27, r_X7_rowWithPivot_30, r_X7_rowWithPivot_31, gF_0, gF_1, gF_2, gF_3, gF_4, gF_5, gF_6, gF_7, gF_8, gF_9, gF_10, gF_11, gF_12, gF_13, gF_14, gF_15, gF_16, gF_17, pF_0, pF_1, pF_2, pF_3, pF_4, pF_5, pF_6, pF_7, pF_8, pF_9, pF_10, pF_11, pF_12, pF_13, pF_14, pF_15, pF_16, pF_17, gI_of, gL_of, gR_of, sI_of, sL_of, gN_of, gO_of, cl_i, cl_r, cl_l, cl_n, pu_s, pu_n, rV_s, hg_same, hg_ne, if_true, if_false, true_and, and_true, ne_eq, not_false_eq_true, not_true_eq_false, eq_self, reduceCtorEq, Nat.reduceAdd, nI_add, n_mul, n_sub, n_div, n_dec, n_dif, n_shl1, n_bit, n_eq0, n_0eq, n_eq, n_lt, n_le, n_lt0, n_ge0, n_gt0, n_le0, n_em1, n_m1e, n_m1lt0, n_m1ge0, n_m1gt0, n_m1eq0, n_m1lt, bI_eq0, bI_ne0, tb_eq0, tb_eq1, show ¬ n ≤ i by omega, h63, h64, eR, f1, ec, hz]
        rw [fp_skip hi hz]; exact ih
      · simp (disch := first | omega | assumption) only [r_X7_rowWithPivot_0, r_X7_rowWithPivot_1, r_X7_rowWithPivot_5, r_X7_rowWithPivot_6, r_X7_rowWithPivot_9, r_X7_rowWithPivot_10, r_X7_rowWithPivot_13, r_X7_rowWithPivot_15, r_X7_rowWithPivot_16, r_X7_rowWithPivot_17, r_X7_rowWithPivot_18, r_X7_rowWithPivot_21, r_X7_rowWithPivot_23, r_X7_rowWithPivot_24, r_X7_rowWithPivot_27, r_X7_rowWithPivot_30, r_X7_rowWithPivot_31, gF_0, gF_1, gF_2, gF_3, gF_4, gF_5, gF_6, gF_7, gF_8, gF_9, gF_10, gF_11, gF_12, gF_13, gF_14, gF_15, gF_16, gF_17, pF_0, pF_1, pF_2, pF_3, pF_4, pF_5, pF_6, pF_7, pF_8, pF_9, pF_10, pF_11, pF_12, pF_13, pF_14, pF_15, pF_16, pF_17, gI_of, gL_of, gR_of, sI_of, sL_of, gN_of, gO_of, cl_i, cl_r, cl_l, cl_n, pu_s, pu_n, rV_s, hg_same, hg_ne, if_true, if_false, true_and, and_true, ne_eq, not_false_eq_true, not_true_eq_false, eq_self, reduceCtorEq, Nat.reduceAdd, nI_add, n_mul, n_sub, n_div, n_dec, n_dif, n_shl1, n_bit, n_eq0, n_0eq, n_eq, n_lt, n_le, n_lt0, n_ge0, n_gt0, n_le0, n_em1, n_m1e, n_m1lt0, n_m1ge0, n_m1gt0, n_m1eq0, n_m1lt, bI_eq0, bI_ne0, tb_eq0, tb_eq1, show ¬ n ≤ i by omega, h63, h64, eR, f1, ec, hz, fp_hit hi hz, if_pos hi]
  exact key r hr
theorem x_swapRows {d p n w a b : Nat} {v : Int32} {h : j_H} {Q : Option Value → j_H → Prop} {R : Nat → Option Nat} {q : Nat → Nat} {A : Nat → Nat → Nat} (h63 : hg h 63 = some (oB 7 [.int (nI p), .int v, .ref 64, .ref 85])) (H : rW h R q n w A) (hn : n ≤ 20) (ha : a < n) (hb : b < n) (k : ∀ h1 R1 q1, rW h1 R1 q1 n w (swp A a b) → Sm (fun x => x = 64) h h1 → Q none h1) : WP d mX7_swapRows 0 [some (.ref 63), some (.int (nI a)), some (.int (nI b)), none] [] h Q := by
  obtain ⟨h64, hq, hqi, h4, h5⟩ := H
  have ea := (hq a (by omega)).1
  have eb := (hq b (by omega)).1
  have qa := (hq a (by omega)).2
  have qb := (hq b (by omega)).2
  obtain ⟨fa, fa1⟩ := h4 (q a) qa
  obtain ⟨fb, fb1⟩ := h4 (q b) qb
  simp (disch := first | omega | assumption) only [r_X7_swapRows_0, r_X7_swapRows_1, r_X7_swapRows_4, r_X7_swapRows_5, r_X7_swapRows_6, r_X7_swapRows_7, r_X7_swapRows_8, r_X7_swapRows_11, r_X7_swapRows_12, r_X7_swapRows_13, r_X7_swapRows_16, r_X7_swapRows_17, r_X7_swapRows_19, r_X7_swapRows_20, r_X7_swapRows_23, r_X7_swapRows_24, r_X7_swapRows_26, gF_0, gF_1, gF_2, gF_3, gF_4, gF_5, gF_6, gF_7, gF_8, gF_9, gF_10, gF_11, gF_12, gF_13, gF_14, gF_15, gF_16, gF_17, pF_0, pF_1, pF_2, pF_3, pF_4, pF_5, pF_6, pF_7, pF_8, pF_9, pF_10, pF_11, pF_12, pF_13, pF_14, pF_15, pF_16, pF_17, gI_of, gL_of, gR_of, sI_of, sL_of, gN_of, gO_of, cl_i, cl_r, cl_l, cl_n, pu_s, pu_n, rV_s, hg_same, hg_ne, if_true, if_false, true_and, and_true, ne_eq, not_false_eq_true, not_true_eq_false, eq_self, reduceCtorEq, Nat.reduceAdd, h63, h64, ea, eb]
  rw [r_X7_swapRows_18 h64 fb1 (by omega) (by omega) (by omega)]
  simp (disch := first | omega | assumption) only [r_X7_swapRows_0, r_X7_swapRows_1, r_X7_swapRows_4, r_X7_swapRows_5, r_X7_swapRows_6, r_X7_swapRows_7, r_X7_swapRows_8, r_X7_swapRows_11, r_X7_swapRows_12, r_X7_swapRows_13, r_X7_swapRows_16, r_X7_swapRows_17, r_X7_swapRows_19, r_X7_swapRows_20, r_X7_swapRows_23, r_X7_swapRows_24, r_X7_swapRows_26, gF_0, gF_1, gF_2, gF_3, gF_4, gF_5, gF_6, gF_7, gF_8, gF_9, gF_10, gF_11, gF_12, gF_13, gF_14, gF_15, gF_16, gF_17, pF_0, pF_1, pF_2, pF_3, pF_4, pF_5, pF_6, pF_7, pF_8, pF_9, pF_10, pF_11, pF_12, pF_13, pF_14, pF_15, pF_16, pF_17, gI_of, gL_of, gR_of, sI_of, sL_of, gN_of, gO_of, cl_i, cl_r, cl_l, cl_n, pu_s, pu_n, rV_s, hg_same, hg_ne, if_true, if_false, true_and, and_true, ne_eq, not_false_eq_true, not_true_eq_false, eq_self, reduceCtorEq, Nat.reduceAdd, h63]
  rw [r_X7_swapRows_25 (hg_same _ _ _) ((hg_ne (by omega)).trans fa1) (by omega) (by omega) (by omega)]
  simp (disch := first | omega | assumption) only [r_X7_swapRows_0, r_X7_swapRows_1, r_X7_swapRows_4, r_X7_swapRows_5, r_X7_swapRows_6, r_X7_swapRows_7, r_X7_swapRows_8, r_X7_swapRows_11, r_X7_swapRows_12, r_X7_swapRows_13, r_X7_swapRows_16, r_X7_swapRows_17, r_X7_swapRows_19, r_X7_swapRows_20, r_X7_swapRows_23, r_X7_swapRows_24, r_X7_swapRows_26, gF_0, gF_1, gF_2, gF_3, gF_4, gF_5, gF_6, gF_7, gF_8, gF_9, gF_10, gF_11, gF_12, gF_13, gF_14, gF_15, gF_16, gF_17, pF_0, pF_1, pF_2, pF_3, pF_4, pF_5, pF_6, pF_7, pF_8, pF_9, pF_10, pF_11, pF_12, pF_13, pF_14, pF_15, pF_16, pF_17, gI_of, gL_of, gR_of, sI_of, sL_of, gN_of, gO_of, cl_i, cl_r, cl_l, cl_n, pu_s, pu_n, rV_s, hg_same, hg_ne, if_true, if_false, true_and, and_true, ne_eq, not_false_eq_true, not_true_eq_false, eq_self, reduceCtorEq, Nat.reduceAdd]
  refine k _ (up (up R a (some (65 + q b))) b (some (65 + q a))) (fun i => if i = b then q a else if i = a then q b else q i) ?_ (Sm.set (S := fun x => x = 64) (Sm.set (S := fun x => x = 64) (Sm.rf _ h) rfl) rfl)
  have same : ∀ x, x ≠ 64 → hg (hs (hs h 64 (aR 20 (up R a (some (65 + q b))))) 64 (aR 20 (up (up R a (some (65 + q b))) b (some (65 + q a))))) x = hg h x := fun x hx => by rw [hg_ne hx, hg_ne hx]
  refine ⟨hg_same _ _ _, fun i hi => ?_, fun i j hi hj => ?_, fun i hi => (h4 i hi).keep (same _ (by omega)), fun i hi => ?_⟩
  · have := hq i hi
    unfold up
    by_cases e1 : i = b
    · simp only [if_pos e1]; exact ⟨trivial, qa⟩
    · by_cases e2 : i = a
      · simp only [if_neg e1, if_pos e2]; exact ⟨trivial, qb⟩
      · simp only [if_neg e1, if_neg e2]; exact this
  · have i1 := hqi i j hi hj
    have i2 := hqi a b (by omega) (by omega)
    have i3 := hqi i a hi (by omega)
    have i4 := hqi i b hi (by omega)
    have i5 := hqi j a hj (by omega)
    have i6 := hqi j b hj (by omega)
    intro e
    by_cases e1 : i = b
    · by_cases e2 : j = b
      · omega
      · by_cases e3 : j = a
        · simp only [if_pos e1, if_neg e2, if_pos e3] at e; have := i2 e; omega
        · simp only [if_pos e1, if_neg e2, if_neg e3] at e; have := i5 e.symm; omega
    · by_cases e4 : i = a
      · by_cases e2 : j = b
        · simp only [if_neg e1, if_pos e4, if_pos e2] at e; have := i2 e.symm; omega
        · by_cases e3 : j = a
          · omega
          · simp only [if_neg e1, if_pos e4, if_neg e2, if_neg e3] at e; have := i6 e.symm; omega
      · by_cases e2 : j = b
        · simp only [if_neg e1, if_neg e4, if_pos e2] at e; have := i3 e; omega
        · by_cases e3 : j = a
          · simp only [if_neg e1, if_neg e4, if_neg e2, if_pos e3] at e; have := i4 e; omega
          · simp only [if_neg e1, if_neg e4, if_neg e2, if_neg e3] at e; exact i1 e
  · unfold swp
    by_cases e1 : i = b
    · by_cases e2 : i = a
      · obtain ⟨f, f1, f2⟩ := h5 a ha
        refine ⟨f, by rw [same _ (by omega)]; simp only [if_pos e1]; exact f1, fun j hj => ?_⟩
        simp only [if_pos e2]
        rw [show b = a by omega]; exact f2 j hj
      · obtain ⟨f, f1, f2⟩ := h5 a ha
        refine ⟨f, by rw [same _ (by omega)]; simp only [if_pos e1]; exact f1, fun j hj => ?_⟩
        simp only [if_neg e2, if_pos e1]; exact f2 j hj
    · by_cases e2 : i = a
      · obtain ⟨f, f1, f2⟩ := h5 b hb
        refine ⟨f, by rw [same _ (by omega)]; simp only [if_neg e1, if_pos e2]; exact f1, fun j hj => ?_⟩
        simp only [if_pos e2]; exact f2 j hj
      · obtain ⟨f, f1, f2⟩ := h5 i hi
        refine ⟨f, by rw [same _ (by omega)]; simp only [if_neg e1, if_neg e2]; exact f1, fun j hj => ?_⟩
        simp only [if_neg e2, if_neg e1]; exact f2 j hj
