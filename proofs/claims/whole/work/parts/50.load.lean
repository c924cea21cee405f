def L0 (p : Nat) (C : Nat → Nat → Int32) : Nat → Nat → Nat := fun i j => rs p (C i j).toInt
theorem x_load {d p n : Nat} {v : Int32} {h : j_H} {Q : Option Value → j_H → Prop} {R : Nat → Option Nat} {q : Nat → Nat} {C : Nat → Nat → Int32} (hT : xT h n C) (h63 : hg h 63 = some (oB 7 [.int (nI p), .int v, .ref 64, .ref 85])) (H : ∀ w A, rW h R q 0 w A) (hp : 2 ≤ p) (hp2 : p ≤ 46337) (hn : 1 ≤ n ∧ n ≤ 20)
    (k : ∀ h1, rW h1 R q n n (L0 p C) → Sm (fun b => 65 ≤ b ∧ b < 85) h h1 → Q none h1) : WP (d + 1) mX7_load 0 [some (.ref 63), some (.ref 2), none, none] [] h Q := by
  have x2 := hT.1
  simp (disch := first | omega | assumption) only [r_X7_load_0, r_X7_load_1, r_X7_load_3, r_X7_load_4, r_X7_load_7, r_X7_load_10, r_X7_load_11, r_X7_load_13, r_X7_load_14, r_X7_load_17, r_X7_load_20, r_X7_load_21, r_X7_load_24, r_X7_load_25, r_X7_load_26, r_X7_load_27, r_X7_load_28, r_X7_load_29, r_X7_load_32, r_X7_load_33, r_X7_load_34, r_X7_load_35, r_X7_load_36, r_X7_load_37, r_X7_load_40, r_X7_load_41, r_X7_load_44, r_X7_load_47, r_X7_load_50, r_X7_load_53, gF_0, gF_1, gF_2, gF_3, gF_4, gF_5, gF_6, gF_7, gF_8, gF_9, gF_10, gF_11, gF_12, gF_13, gF_14, gF_15, gF_16, gF_17, pF_0, pF_1, pF_2, pF_3, pF_4, pF_5, pF_6, pF_7, pF_8, pF_9, pF_10, pF_11, pF_12, pF_13, pF_14, pF_15, pF_16, pF_17, gI_of, gL_of, gR_of, sI_of, sL_of, gN_of, gO_of, cl_i, cl_r, cl_l, cl_n, pu_s, pu_n, rV_s, hg_same, hg_ne, if_true, if_false, true_and, and_true, ne_eq, not_false_eq_true, not_true_eq_false, eq_self, reduceCtorEq, Nat.reduceAdd, x2]
  have key1 : ∀ i, i ≤ n → ∀ h' x5, rW h' R q i n (L0 p C) → Sm (fun b => 65 ≤ b ∧ b < 85) h h' → WP (d + 1) mX7_load 2 [some (.ref 63), some (.ref 2), some (.int (nI i)), x5] [] h' Q := by
    refine lup (P := fun i => ∀ h' x5, rW h' R q i n (L0 p C) → Sm (fun b => 65 ≤ b ∧ b < 85) h h' → WP (d + 1) mX7_load 2 [some (.ref 63), some (.ref 2), some (.int (nI i)), x5] [] h' Q) ?_ ?_
    · intro h' x5 H' hS
      have e2 := (hS.at (b := 2) (by omega)).trans x2
      rw [r_X7_load_2]
      simp (disch := first | omega | assumption) only [r_X7_load_0, r_X7_load_1, r_X7_load_3, r_X7_load_4, r_X7_load_7, r_X7_load_10, r_X7_load_11, r_X7_load_13, r_X7_load_14, r_X7_load_17, r_X7_load_20, r_X7_load_21, r_X7_load_24, r_X7_load_25, r_X7_load_26, r_X7_load_27, r_X7_load_28, r_X7_load_29, r_X7_load_32, r_X7_load_33, r_X7_load_34, r_X7_load_35, r_X7_load_36, r_X7_load_37, r_X7_load_40, r_X7_load_41, r_X7_load_44, r_X7_load_47, r_X7_load_50, r_X7_load_53, gF_0, gF_1, gF_2, gF_3, gF_4, gF_5, gF_6, gF_7, gF_8, gF_9, gF_10, gF_11, gF_12, gF_13, gF_14, gF_15, gF_16, gF_17, pF_0, pF_1, pF_2, pF_3, pF_4, pF_5, pF_6, pF_7, pF_8, pF_9, pF_10, pF_11, pF_12, pF_13, pF_14, pF_15, pF_16, pF_17, gI_of, gL_of, gR_of, sI_of, sL_of, gN_of, gO_of, cl_i, cl_r, cl_l, cl_n, pu_s, pu_n, rV_s, hg_same, hg_ne, if_true, if_false, true_and, and_true, ne_eq, not_false_eq_true, not_true_eq_false, eq_self, reduceCtorEq, Nat.reduceAdd, nI_add, n_mul, n_sub, n_div, n_dec, n_dif, n_shl1, n_bit, n_eq0, n_0eq, n_eq, n_lt, n_le, n_lt0, n_ge0, n_gt0, n_le0, n_em1, n_m1e, n_m1lt0, n_m1ge0, n_m1gt0, n_m1eq0, n_m1lt, bI_eq0, bI_ne0, tb_eq0, tb_eq1, Nat.le_refl, e2]
      exact k h' H' hS
    · intro i hi ih h' x5 H' hS
      have e2 := (hS.at (b := 2) (by omega)).trans x2
      rw [r_X7_load_2]
      simp (disch := first | omega | assumption) only [r_X7_load_0, r_X7_load_1, r_X7_load_3, r_X7_load_4, r_X7_load_7, r_X7_load_10, r_X7_load_11, r_X7_load_13, r_X7_load_14, r_X7_load_17, r_X7_load_20, r_X7_load_21, r_X7_load_24, r_X7_load_25, r_X7_load_26, r_X7_load_27, r_X7_load_28, r_X7_load_29, r_X7_load_32, r_X7_load_33, r_X7_load_34, r_X7_load_35, r_X7_load_36, r_X7_load_37, r_X7_load_40, r_X7_load_41, r_X7_load_44, r_X7_load_47, r_X7_load_50, r_X7_load_53, gF_0, gF_1, gF_2, gF_3, gF_4, gF_5, gF_6, gF_7, gF_8, gF_9, gF_10, gF_11, gF_12, gF_13, gF_14, gF_15, gF_16, gF_17, pF_0, pF_1, pF_2, pF_3, pF_4, pF_5, pF_6, pF_7, pF_8, pF_9, pF_10, pF_11, pF_12, pF_13, pF_14, pF_15, pF_16, pF_17, gI_of, gL_of, gR_of, sI_of, sL_of, gN_of, gO_of, cl_i, cl_r, cl_l, cl_n, pu_s, pu_n, rV_s, hg_same, hg_ne, if_true, if_false, true_and, and_true, ne_eq, not_false_eq_true, not_true_eq_false, eq_self, reduceCtorEq, Nat.reduceAdd, nI_add, n_mul, n_sub, n_div, n_dec, n_dif, n_shl1, n_bit, n_eq0, n_0eq, n_eq, n_lt, n_le, n_lt0, n_ge0, n_gt0, n_le0, n_em1, n_m1e, n_m1lt0, n_m1ge0, n_m1gt0, n_m1eq0, n_m1lt, bI_eq0, bI_ne0, tb_eq0, tb_eq1, show ¬ n ≤ i by omega, e2]
      have key2 : ∀ j, j ≤ n → ∀ h2 f, rW h2 R q i n (L0 p C) → Sm (fun b => 65 ≤ b ∧ b < 85) h h2 → hg h2 (65 + q i) = some (aI 21 f) → (∀ b, b < j → f b = nI (L0 p C i b)) → WP (d + 1) mX7_load 12 [some (.ref 63), some (.ref 2), some (.int (nI i)), some (.int (nI j))] [] h2 Q := by
        refine lup (P := fun j => ∀ h2 f, rW h2 R q i n (L0 p C) → Sm (fun b => 65 ≤ b ∧ b < 85) h h2 → hg h2 (65 + q i) = some (aI 21 f) → (∀ b, b < j → f b = nI (L0 p C i b)) → WP (d + 1) mX7_load 12 [some (.ref 63), some (.ref 2), some (.int (nI i)), some (.int (nI j))] [] h2 Q) ?_ ?_
        · intro h2 f H2 hS2 f1 f2
          have e2 := (hS2.at (b := 2) (by omega)).trans x2
          rw [r_X7_load_12]
          simp (disch := first | omega | assumption) only [r_X7_load_0, r_X7_load_1, r_X7_load_3, r_X7_load_4, r_X7_load_7, r_X7_load_10, r_X7_load_11, r_X7_load_13, r_X7_load_14, r_X7_load_17, r_X7_load_20, r_X7_load_21, r_X7_load_24, r_X7_load_25, r_X7_load_26, r_X7_load_27, r_X7_load_28, r_X7_load_29, r_X7_load_32, r_X7_load_33, r_X7_load_34, r_X7_load_35, r_X7_load_36, r_X7_load_37, r_X7_load_40, r_X7_load_41, r_X7_load_44, r_X7_load_47, r_X7_load_50, r_X7_load_53, gF_0, gF_1, gF_2, gF_3, gF_4, gF_5, gF_6, gF_7, gF_8, gF_9, gF_10, gF_11, gF_12, gF_13, gF_14, gF_15, gF_16, gF_17, pF_0, pF_1, pF_2, pF_3, pF_4, pF_5, pF_6, pF_7, pF_8, pF_9, pF_10, pF_11, pF_12, pF_13, pF_14, pF_15, pF_16, pF_17, gI_of, gL_of, gR_of, sI_of, sL_of, gN_of, gO_of, cl_i, cl_r, cl_l, cl_n, pu_s, pu_n, rV_s, hg_same, hg_ne, if_true, if_false, true_and, and_true, ne_eq, not_false_eq_true, not_true_eq_false, eq_self, reduceCtorEq, Nat.reduceAdd, nI_add, n_mul, n_sub, n_div, n_dec, n_dif, n_shl1, n_bit, n_eq0, n_0eq, n_eq, n_lt, n_le, n_lt0, n_ge0, n_gt0, n_le0, n_em1, n_m1e, n_m1lt0, n_m1ge0, n_m1gt0, n_m1eq0, n_m1lt, bI_eq0, bI_ne0, tb_eq0, tb_eq1, Nat.le_refl, e2]
          exact ih h2 _ (H2.next f1 f2) hS2
        · intro j hj ih2 h2 f H2 hS2 f1 f2
          have e63 := (hS2.at (b := 63) (by omega)).trans h63
          have e64 := H2.1
          have qi := H2.2.1 i (by omega)
          have eR := qi.1
          have e2 := (hS2.at (b := 2) (by omega)).trans x2
          obtain ⟨R3, f3, q1, q2, q3, q4⟩ := hT.cell (i := i) (by omega)
          have e3 := (hS2.at (b := 3) (by omega)).trans q1
          have e4 := (hS2.at (b := 4 + i) (by omega)).trans q3
          have ec : f3 j = C i j := q4 j (by omega)
          have b1 := Int32.le_toInt (C i j)
          have b2 := Int32.toInt_lt (C i j)
          rw [r_X7_load_12]
          simp (disch := first | omega | assumption) only [r_X7_load_0, r_X7_load_1, r_X7_load_3, r_X7_load_4, r_X7_load_7, r_X7_load_10, r_X7_load_11, r_X7_load_13, r_X7_load_14, r_X7_load_17, r_X7_load_20, r_X7_load_21, r_X7_load_24, r_X7_load_25, r_X7_load_26, r_X7_load_27, r_X7_load_28, r_X7_load_29, r_X7_load_32, r_X7_load_33, r_X7_load_34, r_X7_load_35, r_X7_load_36, r_X7_load_37, r_X7_load_40, r_X7_load_41, r_X7_load_44, r_X7_load_47, r_X7_load_50, r_X7_load_53, gF_0, gF_1, gF_2, gF_3, gF_4, gF_5, gF_6, gF_7, gF_8, gF_9, gF_10, gF_11, gF_12, gF_13, gF_14, gF_15, gF_16, gF_17, pF_0, pF_1, pF_2, pF_3, pF_4, pF_5, pF_6, pF_7, pF_8, pF_9, pF_10, pF_11, pF_12, pF_13, pF_14, pF_15, pF_16, pF_17, gI_of, gL_of, gR_of, sI_of, sL_of, gN_of, gO_of, cl_i, cl_r, cl_l, cl_n, pu_s, pu_n, rV_s, hg_same, hg_ne, if_true, if_false, true_and, and_true, ne_eq, not_false_eq_true, not_true_eq_false, eq_self, reduceCtorEq, Nat.reduceAdd, nI_add, n_mul, n_sub, n_div, n_dec, n_dif, n_shl1, n_bit, n_eq0, n_0eq, n_eq, n_lt, n_le, n_lt0, n_ge0, n_gt0, n_le0, n_em1, n_m1e, n_m1lt0, n_m1ge0, n_m1gt0, n_m1eq0, n_m1lt, bI_eq0, bI_ne0, tb_eq0, tb_eq1, show ¬ n ≤ j by omega, e63, e64, eR, e2, e3, e4, q2, ec, i_lI, x_restOf e63, f1]
          refine ih2 _ (up f j (nI (L0 p C i j))) (H2.over (Nat.le_refl i) (by omega)) (hS2.set (by omega)) (hg_same _ _ _) (fun b hb => ?_)
          by_cases e : b = j
          · subst e; rw [up_same]
          · rw [up_ne e]; exact f2 b (by omega)
      obtain ⟨f, hf⟩ := H'.2.2.2.1 (q i) (H'.2.1 i (by omega)).2
      exact key2 0 (by omega) h' f H' hS hf (fun b hb => by omega)
  exact key1 0 (by omega) h _ (H _ _) (Sm.rf _ h)
/-- a table with a side in column n -/
def wS (n : Nat) (A : Nat → Nat → Nat) (S : Nat → Nat) : Nat → Nat → Nat := fun i j => if j = n then S i else A i j
theorem x_putBeside {d p n i : Nat} {v : Int32} {y : Int32} {h : j_H} {Q : Option Value → j_H → Prop} {R : Nat → Option Nat} {q : Nat → Nat} {A : Nat → Nat → Nat} {S : Nat → Nat} (h63 : hg h 63 = some (oB 7 [.int (nI p), .int v, .ref 64, .ref 85])) (H : rW h R q n n A) (H2 : rW h R q i (n + 1) (wS n A S)) (hp : 2 ≤ p) (hp2 : p ≤ 46337) (hn : 1 ≤ n ∧ n ≤ 20) (hi : i < n) (hs : rs p y.toInt = S i)
    (k : ∀ h1, rW h1 R q n n A → rW h1 R q (i + 1) (n + 1) (wS n A S) → Sm (fun b => 65 ≤ b ∧ b < 85) h h1 → Q none h1) : WP (d + 1) mX7_putBeside 0 [some (.ref 63), some (.int (nI i)), some (.int (nI n)), some (.int y)] [] h Q := by
  obtain ⟨f, f1, f2⟩ := H.2.2.2.2 i hi
  have e64 := H.1
  have eR := (H.2.1 i (by omega)).1
  have qi := (H.2.1 i (by omega)).2
  have b1 := Int32.le_toInt y
  have b2 := Int32.toInt_lt y
  simp (disch := first | omega | assumption) only [r_X7_putBeside_0, r_X7_putBeside_1, r_X7_putBeside_4, r_X7_putBeside_5, r_X7_putBeside_6, r_X7_putBeside_7, r_X7_putBeside_8, r_X7_putBeside_9, r_X7_putBeside_10, r_X7_putBeside_13, r_X7_putBeside_14, gF_0, gF_1, gF_2, gF_3, gF_4, gF_5, gF_6, gF_7, gF_8, gF_9, gF_10, gF_11, gF_12, gF_13, gF_14, gF_15, gF_16, gF_17, pF_0, pF_1, pF_2, pF_3, pF_4, pF_5, pF_6, pF_7, pF_8, pF_9, pF_10, pF_11, pF_12, pF_13, pF_14, pF_15, pF_16, pF_17, gI_of, gL_of, gR_of, sI_of, sL_of, gN_of, gO_of, cl_i, cl_r, cl_l, cl_n, pu_s, pu_n, rV_s, hg_same, hg_ne, if_true, if_false, true_and, and_true, ne_eq, not_false_eq_true, not_true_eq_false, eq_self, reduceCtorEq, Nat.reduceAdd, nI_add, n_mul, n_sub, n_div, n_dec, n_dif, n_shl1, n_bit, n_eq0, n_0eq, n_eq, n_lt, n_le, n_lt0, n_ge0, n_gt0, n_le0, n_em1, n_m1e, n_m1lt0, n_m1ge0, n_m1gt0, n_m1eq0, n_m1lt, bI_eq0, bI_ne0, tb_eq0, tb_eq1, h63, e64, eR, f1, i_lI, x_restOf h63, hs]
  refine k _ (H.row hn.2 hi (fun j hj => ?_) (fun a ha hne j hj => rfl)) (rW.next (H2.over (Nat.le_refl i) (by omega)) (hg_same _ _ _) (fun j hj => ?_)) ((Sm.rf _ h).set (by omega))
  · rw [up_ne (by omega)]; exact f2 j hj
  · unfold wS
    by_cases e : j = n
    · subst e; rw [up_same, if_pos rfl]
    · rw [up_ne e, if_neg e]; exact f2 j (by omega)
