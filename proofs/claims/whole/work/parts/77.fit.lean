theorem aug_cnt {n : Nat} {r r' : Nat → Nat} {x0 : Nat} (hx : x0 < n) (hr : r x0 = n) (h : ∀ y, y < n → (r' y < n ↔ (r y < n ∨ y = x0))) : sm (fun y => bn (r' y < n)) n = sm (fun y => bn (r y < n)) n + 1 := by
  have e3 : (1 : Nat) = sm (fun y => if y = x0 then 1 else 0) n := by rw [sm_one, if_pos hx]
  conv => rhs; rw [e3]
  rw [← sm_add]
  refine sm_ext (fun y hy => ?_)
  by_cases e : y = x0
  · rw [if_pos e, bn_1 ((h y hy).mpr (Or.inr e)), bn_0 (by rw [e, hr]; exact Nat.lt_irrefl n)]
  · rw [if_neg e, Nat.add_zero]
    exact bn_iff ((h y hy).trans ⟨fun q => q.resolve_right e, fun q => Or.inl q⟩)
/-- the class's matching: its object, arrays, and what they are -/
def xMs (h : j_H) (n : Nat) (c r : Nat → Nat) (rk : Nat) : Prop := hg h 27 = some (oB 5 [.int (nI rk), .ref 28, .ref 29, .ref 30, .ref 31]) ∧ xMa h n c r ∧ isI h 30 20 ∧ isI h 31 20
theorem x_makeMost {d n : Nat} {C : Nat → Nat → Int32} {h : j_H} {Q : Option Value → j_H → Prop} (hT : xT h n C) (hM : xM h) (hn : 1 ≤ n ∧ n ≤ 20) (k : ∀ h1 c r, Stt n C 0 0 c r (nu n (Eb C) 0 0) → xMs h1 n c r (nu n (Eb C) 0 0) → Sm (fun b => 27 ≤ b ∧ b < 32) h h1 → Q none h1) : WP (d + 2) mX5_makeMost 0 [some (.ref 27), some (.ref 2), none] [] h Q := by
  obtain ⟨⟨v, e27⟩, ⟨f28, e28⟩, ⟨f29, e29⟩, e30, e31⟩ := hM
  have x2 := hT.1
  simp (disch := first | omega | assumption) only [r_X5_makeMost_0, r_X5_makeMost_1, r_X5_makeMost_4, r_X5_makeMost_5, r_X5_makeMost_8, r_X5_makeMost_9, r_X5_makeMost_12, r_X5_makeMost_13, r_X5_makeMost_16, r_X5_makeMost_17, r_X5_makeMost_18, r_X5_makeMost_21, r_X5_makeMost_22, r_X5_makeMost_24, r_X5_makeMost_25, r_X5_makeMost_28, r_X5_makeMost_31, r_X5_makeMost_32, r_X5_makeMost_33, r_X5_makeMost_34, r_X5_makeMost_35, r_X5_makeMost_38, r_X5_makeMost_41, r_X5_makeMost_42, r_X5_makeMost_43, r_X5_makeMost_46, r_X5_makeMost_47, r_X5_makeMost_48, r_X5_makeMost_51, r_X5_makeMost_54, r_X5_makeMost_57, gF_0, gF_1, gF_2, gF_3, gF_4, gF_5, gF_6, gF_7, gF_8, gF_9, gF_10, gF_11, gF_12, gF_13, gF_14, gF_15, gF_16, gF_17, pF_0, pF_1, pF_2, pF_3, pF_4, pF_5, pF_6, pF_7, pF_8, pF_9, pF_10, pF_11, pF_12, pF_13, pF_14, pF_15, pF_16, pF_17, gI_of, gL_of, gR_of, sI_of, sL_of, gN_of, gO_of, cl_i, cl_r, cl_l, cl_n, pu_s, pu_n, rV_s, hg_same, hg_ne, if_true, if_false, true_and, and_true, ne_eq, not_false_eq_true, not_true_eq_false, eq_self, reduceCtorEq, Nat.reduceAdd, nI_add, n_mul, n_sub, n_div, n_dec, n_dif, n_shl1, n_bit, n_eq0, n_0eq, n_eq, n_lt, n_le, n_lt0, n_ge0, n_gt0, n_le0, n_em1, n_m1e, n_m1lt0, n_m1ge0, n_m1gt0, n_m1eq0, n_m1lt, bI_eq0, bI_ne0, tb_eq0, tb_eq1, e27]
  refine w_fill e28 (by decide) (by decide) (fun g28 w28 => ?_)
  simp (disch := first | omega | assumption) only [r_X5_makeMost_0, r_X5_makeMost_1, r_X5_makeMost_4, r_X5_makeMost_5, r_X5_makeMost_8, r_X5_makeMost_9, r_X5_makeMost_12, r_X5_makeMost_13, r_X5_makeMost_16, r_X5_makeMost_17, r_X5_makeMost_18, r_X5_makeMost_21, r_X5_makeMost_22, r_X5_makeMost_24, r_X5_makeMost_25, r_X5_makeMost_28, r_X5_makeMost_31, r_X5_makeMost_32, r_X5_makeMost_33, r_X5_makeMost_34, r_X5_makeMost_35, r_X5_makeMost_38, r_X5_makeMost_41, r_X5_makeMost_42, r_X5_makeMost_43, r_X5_makeMost_46, r_X5_makeMost_47, r_X5_makeMost_48, r_X5_makeMost_51, r_X5_makeMost_54, r_X5_makeMost_57, gF_0, gF_1, gF_2, gF_3, gF_4, gF_5, gF_6, gF_7, gF_8, gF_9, gF_10, gF_11, gF_12, gF_13, gF_14, gF_15, gF_16, gF_17, pF_0, pF_1, pF_2, pF_3, pF_4, pF_5, pF_6, pF_7, pF_8, pF_9, pF_10, pF_11, pF_12, pF_13, pF_14, pF_15, pF_16, pF_17, gI_of, gL_of, gR_of, sI_of, sL_of, gN_of, gO_of, cl_i, cl_r, cl_l, cl_n, pu_s, pu_n, rV_s, hg_same, hg_ne, if_true, if_false, true_and, and_true, ne_eq, not_false_eq_true, not_true_eq_false, eq_self, reduceCtorEq, Nat.reduceAdd, nI_add, n_mul, n_sub, n_div, n_dec, n_dif, n_shl1, n_bit, n_eq0, n_0eq, n_eq, n_lt, n_le, n_lt0, n_ge0, n_gt0, n_le0, n_em1, n_m1e, n_m1lt0, n_m1ge0, n_m1gt0, n_m1eq0, n_m1lt, bI_eq0, bI_ne0, tb_eq0, tb_eq1, e27]
  refine w_fill (n := 20) (f := f29) ((hg_ne (by omega)).trans e29) (by decide) (by decide) (fun g29 w29 => ?_)
  simp (disch := first | omega | assumption) only [r_X5_makeMost_0, r_X5_makeMost_1, r_X5_makeMost_4, r_X5_makeMost_5, r_X5_makeMost_8, r_X5_makeMost_9, r_X5_makeMost_12, r_X5_makeMost_13, r_X5_makeMost_16, r_X5_makeMost_17, r_X5_makeMost_18, r_X5_makeMost_21, r_X5_makeMost_22, r_X5_makeMost_24, r_X5_makeMost_25, r_X5_makeMost_28, r_X5_makeMost_31, r_X5_makeMost_32, r_X5_makeMost_33, r_X5_makeMost_34, r_X5_makeMost_35, r_X5_makeMost_38, r_X5_makeMost_41, r_X5_makeMost_42, r_X5_makeMost_43, r_X5_makeMost_46, r_X5_makeMost_47, r_X5_makeMost_48, r_X5_makeMost_51, r_X5_makeMost_54, r_X5_makeMost_57, gF_0, gF_1, gF_2, gF_3, gF_4, gF_5, gF_6, gF_7, gF_8, gF_9, gF_10, gF_11, gF_12, gF_13, gF_14, gF_15, gF_16, gF_17, pF_0, pF_1, pF_2, pF_3, pF_4, pF_5, pF_6, pF_7, pF_8, pF_9, pF_10, pF_11, pF_12, pF_13, pF_14, pF_15, pF_16, pF_17, gI_of, gL_of, gR_of, sI_of, sL_of, gN_of, gO_of, cl_i, cl_r, cl_l, cl_n, pu_s, pu_n, rV_s, hg_same, hg_ne, if_true, if_false, true_and, and_true, ne_eq, not_false_eq_true, not_true_eq_false, eq_self, reduceCtorEq, Nat.reduceAdd, nI_add, n_mul, n_sub, n_div, n_dec, n_dif, n_shl1, n_bit, n_eq0, n_0eq, n_eq, n_lt, n_le, n_lt0, n_ge0, n_gt0, n_le0, n_em1, n_m1e, n_m1lt0, n_m1ge0, n_m1gt0, n_m1eq0, n_m1lt, bI_eq0, bI_ne0, tb_eq0, tb_eq1, e27]
  have key : ∀ t, t ≤ n → ∀ h' c r, Sm (fun b => 27 ≤ b ∧ b < 32) h h' → xMs h' n c r t → Mr n (Wc C 0 0) r → CR n c r → sm (fun y => bn (r y < n)) n = t → WP (d + 2) mX5_makeMost 23 [some (.ref 27), some (.ref 2), some (.int (nI t))] [] h' Q := by
    have stt : ∀ c r, Mr n (Wc C 0 0) r → CR n c r → sm (fun y => bn (r y < n)) n = nu n (Eb C) 0 0 → Stt n C 0 0 c r (nu n (Eb C) 0 0) := fun c r h1 h2 h3 => ⟨h1, h2, fun y _ hu => absurd hu (by rw [Nat.zero_testBit]; decide), Nat.two_pow_pos n, h3⟩
    refine lup (P := fun t => ∀ h' c r, Sm (fun b => 27 ≤ b ∧ b < 32) h h' → xMs h' n c r t → Mr n (Wc C 0 0) r → CR n c r → sm (fun y => bn (r y < n)) n = t → WP (d + 2) mX5_makeMost 23 [some (.ref 27), some (.ref 2), some (.int (nI t))] [] h' Q) ?_ ?_
    · intro h' c r hS A M R hsz
      have y2 := (hS.at (b := 2) (by omega)).trans x2
      have h1 := st_full M
      obtain ⟨⟨m, m1, m2⟩, -⟩ := nu_max n (Eb C) 0 0
      have h2 := szm_le n 0 m
      have e : nu n (Eb C) 0 0 = n := by omega
      rw [r_X5_makeMost_23]
      simp (disch := first | omega | assumption) only [r_X5_makeMost_0, r_X5_makeMost_1, r_X5_makeMost_4, r_X5_makeMost_5, r_X5_makeMost_8, r_X5_makeMost_9, r_X5_makeMost_12, r_X5_makeMost_13, r_X5_makeMost_16, r_X5_makeMost_17, r_X5_makeMost_18, r_X5_makeMost_21, r_X5_makeMost_22, r_X5_makeMost_24, r_X5_makeMost_25, r_X5_makeMost_28, r_X5_makeMost_31, r_X5_makeMost_32, r_X5_makeMost_33, r_X5_makeMost_34, r_X5_makeMost_35, r_X5_makeMost_38, r_X5_makeMost_41, r_X5_makeMost_42, r_X5_makeMost_43, r_X5_makeMost_46, r_X5_makeMost_47, r_X5_makeMost_48, r_X5_makeMost_51, r_X5_makeMost_54, r_X5_makeMost_57, gF_0, gF_1, gF_2, gF_3, gF_4, gF_5, gF_6, gF_7, gF_8, gF_9, gF_10, gF_11, gF_12, gF_13, gF_14, gF_15, gF_16, gF_17, pF_0, pF_1, pF_2, pF_3, pF_4, pF_5, pF_6, pF_7, pF_8, pF_9, pF_10, pF_11, pF_12, pF_13, pF_14, pF_15, pF_16, pF_17, gI_of, gL_of, gR_of, sI_of, sL_of, gN_of, gO_of, cl_i, cl_r, cl_l, cl_n, pu_s, pu_n, rV_s, hg_same, hg_ne, if_true, if_false, true_and, and_true, ne_eq, not_false_eq_true, not_true_eq_false, eq_self, reduceCtorEq, Nat.reduceAdd, nI_add, n_mul, n_sub, n_div, n_dec, n_dif, n_shl1, n_bit, n_eq0, n_0eq, n_eq, n_lt, n_le, n_lt0, n_ge0, n_gt0, n_le0, n_em1, n_m1e, n_m1lt0, n_m1ge0, n_m1gt0, n_m1eq0, n_m1lt, bI_eq0, bI_ne0, tb_eq0, tb_eq1, Nat.le_refl, y2]
      exact k h' c r (stt c r M R (by omega)) (by rw [e]; exact A) hS
    · intro t ht ih h' c r hS A M R hsz
      have y2 := (hS.at (b := 2) (by omega)).trans x2
      obtain ⟨y27, yA, y30, y31⟩ := id A
      rw [r_X5_makeMost_23]
      simp (disch := first | omega | assumption) only [r_X5_makeMost_0, r_X5_makeMost_1, r_X5_makeMost_4, r_X5_makeMost_5, r_X5_makeMost_8, r_X5_makeMost_9, r_X5_makeMost_12, r_X5_makeMost_13, r_X5_makeMost_16, r_X5_makeMost_17, r_X5_makeMost_18, r_X5_makeMost_21, r_X5_makeMost_22, r_X5_makeMost_24, r_X5_makeMost_25, r_X5_makeMost_28, r_X5_makeMost_31, r_X5_makeMost_32, r_X5_makeMost_33, r_X5_makeMost_34, r_X5_makeMost_35, r_X5_makeMost_38, r_X5_makeMost_41, r_X5_makeMost_42, r_X5_makeMost_43, r_X5_makeMost_46, r_X5_makeMost_47, r_X5_makeMost_48, r_X5_makeMost_51, r_X5_makeMost_54, r_X5_makeMost_57, gF_0, gF_1, gF_2, gF_3, gF_4, gF_5, gF_6, gF_7, gF_8, gF_9, gF_10, gF_11, gF_12, gF_13, gF_14, gF_15, gF_16, gF_17, pF_0, pF_1, pF_2, pF_3, pF_4, pF_5, pF_6, pF_7, pF_8, pF_9, pF_10, pF_11, pF_12, pF_13, pF_14, pF_15, pF_16, pF_17, gI_of, gL_of, gR_of, sI_of, sL_of, gN_of, gO_of, cl_i, cl_r, cl_l, cl_n, pu_s, pu_n, rV_s, hg_same, hg_ne, if_true, if_false, true_and, and_true, ne_eq, not_false_eq_true, not_true_eq_false, eq_self, reduceCtorEq, Nat.reduceAdd, nI_add, n_mul, n_sub, n_div, n_dec, n_dif, n_shl1, n_bit, n_eq0, n_0eq, n_eq, n_lt, n_le, n_lt0, n_ge0, n_gt0, n_le0, n_em1, n_m1e, n_m1lt0, n_m1ge0, n_m1gt0, n_m1eq0, n_m1lt, bI_eq0, bI_ne0, tb_eq0, tb_eq1, show ¬ n ≤ t by omega, y2, y27]
      refine x_grow y27 (hT.keep hS (fun b q => by omega)) yA y30 y31 hn.2 (by decide) (Nat.zero_le n) M R (fun h1 c' r' i x0 i1 i2 i3 i4 i5 i6 i7 i8 i9 i10 i11 i12 => ?_) (fun h1 i1 i2 i3 i4 => ?_)
      · have z27 := (i12.at (b := 27) (by omega)).trans y27
        simp (disch := first | omega | assumption) only [r_X5_makeMost_0, r_X5_makeMost_1, r_X5_makeMost_4, r_X5_makeMost_5, r_X5_makeMost_8, r_X5_makeMost_9, r_X5_makeMost_12, r_X5_makeMost_13, r_X5_makeMost_16, r_X5_makeMost_17, r_X5_makeMost_18, r_X5_makeMost_21, r_X5_makeMost_22, r_X5_makeMost_24, r_X5_makeMost_25, r_X5_makeMost_28, r_X5_makeMost_31, r_X5_makeMost_32, r_X5_makeMost_33, r_X5_makeMost_34, r_X5_makeMost_35, r_X5_makeMost_38, r_X5_makeMost_41, r_X5_makeMost_42, r_X5_makeMost_43, r_X5_makeMost_46, r_X5_makeMost_47, r_X5_makeMost_48, r_X5_makeMost_51, r_X5_makeMost_54, r_X5_makeMost_57, gF_0, gF_1, gF_2, gF_3, gF_4, gF_5, gF_6, gF_7, gF_8, gF_9, gF_10, gF_11, gF_12, gF_13, gF_14, gF_15, gF_16, gF_17, pF_0, pF_1, pF_2, pF_3, pF_4, pF_5, pF_6, pF_7, pF_8, pF_9, pF_10, pF_11, pF_12, pF_13, pF_14, pF_15, pF_16, pF_17, gI_of, gL_of, gR_of, sI_of, sL_of, gN_of, gO_of, cl_i, cl_r, cl_l, cl_n, pu_s, pu_n, rV_s, hg_same, hg_ne, if_true, if_false, true_and, and_true, ne_eq, not_false_eq_true, not_true_eq_false, eq_self, reduceCtorEq, Nat.reduceAdd, nI_add, n_mul, n_sub, n_div, n_dec, n_dif, n_shl1, n_bit, n_eq0, n_0eq, n_eq, n_lt, n_le, n_lt0, n_ge0, n_gt0, n_le0, n_em1, n_m1e, n_m1lt0, n_m1ge0, n_m1gt0, n_m1eq0, n_m1lt, bI_eq0, bI_ne0, tb_eq0, tb_eq1, z27, show ¬ (1 : Nat) = 0 by decide]
        have SS : Sm (fun b => b = 27) h1 (hs h1 27 (oB 5 [.int (nI (t + 1)), .ref 28, .ref 29, .ref 30, .ref 31])) := (Sm.rf _ h1).set rfl
        refine ih _ c' r' ((hS.trans (i12.mono (fun x q => by omega))).trans (SS.mono (fun x q => by omega))) ⟨hg_same _ _ _, ⟨i9.1.keep (SS.at (by omega)), i9.2.keep (SS.at (by omega))⟩, i10.keep (SS.at (by omega)), i11.keep (SS.at (by omega))⟩ i6.1 i7 ?_
        rw [aug_cnt i3 i4 i6.2.1, hsz]
      · have e : t = nu n (Eb C) 0 0 := by
          rw [← hsz]
          refine isMax.uq ?_ (nu_max n (Eb C) 0 0)
          rw [show sm (fun y => bn (r y < n)) n = sm (fun y => bn (Nat.testBit 0 y = false ∧ r y < n)) n from sm_ext (fun y _ => bn_iff ⟨fun q => ⟨Nat.zero_testBit y, q⟩, fun q => q.2⟩)]
          exact i1
        simp (disch := first | omega | assumption) only [r_X5_makeMost_0, r_X5_makeMost_1, r_X5_makeMost_4, r_X5_makeMost_5, r_X5_makeMost_8, r_X5_makeMost_9, r_X5_makeMost_12, r_X5_makeMost_13, r_X5_makeMost_16, r_X5_makeMost_17, r_X5_makeMost_18, r_X5_makeMost_21, r_X5_makeMost_22, r_X5_makeMost_24, r_X5_makeMost_25, r_X5_makeMost_28, r_X5_makeMost_31, r_X5_makeMost_32, r_X5_makeMost_33, r_X5_makeMost_34, r_X5_makeMost_35, r_X5_makeMost_38, r_X5_makeMost_41, r_X5_makeMost_42, r_X5_makeMost_43, r_X5_makeMost_46, r_X5_makeMost_47, r_X5_makeMost_48, r_X5_makeMost_51, r_X5_makeMost_54, r_X5_makeMost_57, gF_0, gF_1, gF_2, gF_3, gF_4, gF_5, gF_6, gF_7, gF_8, gF_9, gF_10, gF_11, gF_12, gF_13, gF_14, gF_15, gF_16, gF_17, pF_0, pF_1, pF_2, pF_3, pF_4, pF_5, pF_6, pF_7, pF_8, pF_9, pF_10, pF_11, pF_12, pF_13, pF_14, pF_15, pF_16, pF_17, gI_of, gL_of, gR_of, sI_of, sL_of, gN_of, gO_of, cl_i, cl_r, cl_l, cl_n, pu_s, pu_n, rV_s, hg_same, hg_ne, if_true, if_false, true_and, and_true, ne_eq, not_false_eq_true, not_true_eq_false, eq_self, reduceCtorEq, Nat.reduceAdd, nI_add, n_mul, n_sub, n_div, n_dec, n_dif, n_shl1, n_bit, n_eq0, n_0eq, n_eq, n_lt, n_le, n_lt0, n_ge0, n_gt0, n_le0, n_em1, n_m1e, n_m1lt0, n_m1ge0, n_m1gt0, n_m1eq0, n_m1lt, bI_eq0, bI_ne0, tb_eq0, tb_eq1, Nat.le_refl]
        refine k h1 c r (stt c r M R (by omega)) ⟨?_, ⟨yA.1.keep (i4.at (by omega)), yA.2.keep (i4.at (by omega))⟩, i2, i3⟩ (hS.trans (i4.mono (fun x q => by omega)))
        rw [i4.at (by omega), y27, e]
  refine key 0 (by omega) _ (fun _ => n) (fun _ => n) ((((Sm.rf _ h).set (by omega)).set (by omega)).set (by omega)) ⟨hg_same _ _ _, ⟨⟨g28, by simp (disch := omega) only [hg_ne, hg_same], fun i hi => ?_⟩, ⟨g29, by simp (disch := omega) only [hg_ne, hg_same], fun i hi => ?_⟩⟩, ?_, ?_⟩ ⟨fun j _ => ⟨Nat.le_refl n, fun q => absurd q (Nat.lt_irrefl n)⟩, fun j j' _ _ _ q => absurd q (Nat.lt_irrefl n)⟩ ⟨fun i _ => Nat.le_refl n, fun i j hi hj => ⟨fun q => absurd (show n = j from q) (by omega), fun q => absurd (show n = i from q) (by omega)⟩⟩ (sm_0 n (fun y _ => bn_0 (Nat.lt_irrefl n)))
  · show g28 i = vf n n
    rw [w28 i (by omega), vf_no (Nat.lt_irrefl n)]
  · show g29 i = vf n n
    rw [w29 i (by omega), vf_no (Nat.lt_irrefl n)]
  · exact e30.keep (by simp (disch := omega) only [hg_ne])
  · exact e31.keep (by simp (disch := omega) only [hg_ne])
theorem x_takes {d n i j U : Nat} {C : Nat → Nat → Int32} {c r : Nat → Nat} {h : j_H} {Q : Option Value → j_H → Prop} (hT : xT h n C) (hA : xMs h n c r (nu n (Eb C) 0 0)) (H : Stt n C i U c r (nu n (Eb C) 0 0)) (hn : 1 ≤ n ∧ n ≤ 20) (hi : i < n) (hj : j < n) (hE : Eb C i j = true) (hU : U.testBit j = false)
    (kt : ∀ h1 c' r', cnd n (Eb C) (nu n (Eb C) 0 0) i U (many n i c) j → Stt n C (i + 1) (U ||| 2 ^ j) c' r' (nu n (Eb C) 0 0) → c' i = j → (∀ k, k < i → c' k = c k) → xMs h1 n c' r' (nu n (Eb C) 0 0) → Sm (fun b => 28 ≤ b ∧ b < 32) h h1 → Q (some (.int (nI 1))) h1)
    (kf : ∀ h1, ¬ cnd n (Eb C) (nu n (Eb C) 0 0) i U (many n i c) j → c i ≠ j → xMs h1 n c r (nu n (Eb C) 0 0) → Sm (fun b => 28 ≤ b ∧ b < 32) h h1 → Q (some (.int (nI 0))) h1) : WP (d + 2) mX5_takes 0 [some (.ref 27), some (.ref 2), some (.int (nI i)), some (.int (nI j)), some (.int (nI U)), none, none] [] h Q := by
  obtain ⟨e27, ⟨⟨f28, g28, w28⟩, ⟨f29, g29, w29⟩⟩, e30, e31⟩ := id hA
  have a28 : f28 i = vf n (c i) := w28 i hi
  have a29 : f29 j = vf n (r j) := w29 j hj
  have hci := H.2.1.1 i hi
  have hrj := (H.1.1 j hj).1
  have hU20 := pow20 hn.2 H.2.2.2.1
  have hU2 := pow20 hn.2 (or_lt H.2.2.2.1 (pow_lt hj))
  by_cases hc : c i = j
  · -- the row has it already
    obtain ⟨s1, s2, s3⟩ := st_same H hi hj hc
    have b28 : f28 i = nI j := by rw [a28, hc, vf_of hj]
    by_cases hl : r j < n
    · have b29 : f29 j = nI (r j) := by rw [a29, vf_of hl]
      simp (disch := first | omega | assumption) only [r_X5_takes_0, r_X5_takes_1, r_X5_takes_4, r_X5_takes_5, r_X5_takes_6, r_X5_takes_8, r_X5_takes_9, r_X5_takes_12, r_X5_takes_13, r_X5_takes_14, r_X5_takes_16, r_X5_takes_18, r_X5_takes_19, r_X5_takes_22, r_X5_takes_23, r_X5_takes_23_0, r_X5_takes_23_1, r_X5_takes_24, r_X5_takes_26, r_X5_takes_27, r_X5_takes_30, r_X5_takes_31, r_X5_takes_34, r_X5_takes_36, r_X5_takes_37, r_X5_takes_38, r_X5_takes_40, r_X5_takes_41, r_X5_takes_44, r_X5_takes_45, r_X5_takes_48, r_X5_takes_50, r_X5_takes_51, r_X5_takes_52, r_X5_takes_53, r_X5_takes_56, r_X5_takes_57, r_X5_takes_58, r_X5_takes_59, r_X5_takes_60, r_X5_takes_63, r_X5_takes_64, r_X5_takes_65, r_X5_takes_66, r_X5_takes_68, r_X5_takes_69, r_X5_takes_72, r_X5_takes_74, r_X5_takes_75, r_X5_takes_78, r_X5_takes_79, r_X5_takes_79_0, r_X5_takes_79_1, r_X5_takes_80, r_X5_takes_81, r_X5_takes_82, r_X5_takes_83, r_X5_takes_84, r_X5_takes_85, r_X5_takes_87, r_X5_takes_88, r_X5_takes_91, r_X5_takes_92, r_X5_takes_95, r_X5_takes_98, r_X5_takes_99, r_X5_takes_99_0, r_X5_takes_99_1, r_X5_takes_100, r_X5_takes_101, r_X5_takes_104, r_X5_takes_105, r_X5_takes_107, r_X5_takes_108, r_X5_takes_109, r_X5_takes_112, r_X5_takes_114, r_X5_takes_115, r_X5_takes_116, r_X5_takes_117, r_X5_takes_120, r_X5_takes_122, r_X5_takes_123, r_X5_takes_124, r_X5_takes_125, r_X5_takes_128, r_X5_takes_129, r_X5_takes_131, r_X5_takes_132, r_X5_takes_133, r_X5_takes_133_0, r_X5_takes_133_1, gF_0, gF_1, gF_2, gF_3, gF_4, gF_5, gF_6, gF_7, gF_8, gF_9, gF_10, gF_11, gF_12, gF_13, gF_14, gF_15, gF_16, gF_17, pF_0, pF_1, pF_2, pF_3, pF_4, pF_5, pF_6, pF_7, pF_8, pF_9, pF_10, pF_11, pF_12, pF_13, pF_14, pF_15, pF_16, pF_17, gI_of, gL_of, gR_of, sI_of, sL_of, gN_of, gO_of, cl_i, cl_r, cl_l, cl_n, pu_s, pu_n, rV_s, hg_same, hg_ne, if_true, if_false, true_and, and_true, ne_eq, not_false_eq_true, not_true_eq_false, eq_self, reduceCtorEq, Nat.reduceAdd, nI_add, n_mul, n_sub, n_div, n_dec, n_dif, n_shl1, n_bit, n_eq0, n_0eq, n_eq, n_lt, n_le, n_lt0, n_ge0, n_gt0, n_le0, n_em1, n_m1e, n_m1lt0, n_m1ge0, n_m1gt0, n_m1eq0, n_m1lt, bI_eq0, bI_ne0, tb_eq0, tb_eq1, e27, g28, b28, g29, b29]
      exact kt h c r (st_yes H hi hj hE hU s1 hc (fun _ _ => rfl)) s1 hc (fun _ _ => rfl) hA (Sm.rf _ h)
    · have b29 : f29 j = -1 := by rw [a29, vf_no hl]
      simp (disch := first | omega | assumption) only [r_X5_takes_0, r_X5_takes_1, r_X5_takes_4, r_X5_takes_5, r_X5_takes_6, r_X5_takes_8, r_X5_takes_9, r_X5_takes_12, r_X5_takes_13, r_X5_takes_14, r_X5_takes_16, r_X5_takes_18, r_X5_takes_19, r_X5_takes_22, r_X5_takes_23, r_X5_takes_23_0, r_X5_takes_23_1, r_X5_takes_24, r_X5_takes_26, r_X5_takes_27, r_X5_takes_30, r_X5_takes_31, r_X5_takes_34, r_X5_takes_36, r_X5_takes_37, r_X5_takes_38, r_X5_takes_40, r_X5_takes_41, r_X5_takes_44, r_X5_takes_45, r_X5_takes_48, r_X5_takes_50, r_X5_takes_51, r_X5_takes_52, r_X5_takes_53, r_X5_takes_56, r_X5_takes_57, r_X5_takes_58, r_X5_takes_59, r_X5_takes_60, r_X5_takes_63, r_X5_takes_64, r_X5_takes_65, r_X5_takes_66, r_X5_takes_68, r_X5_takes_69, r_X5_takes_72, r_X5_takes_74, r_X5_takes_75, r_X5_takes_78, r_X5_takes_79, r_X5_takes_79_0, r_X5_takes_79_1, r_X5_takes_80, r_X5_takes_81, r_X5_takes_82, r_X5_takes_83, r_X5_takes_84, r_X5_takes_85, r_X5_takes_87, r_X5_takes_88, r_X5_takes_91, r_X5_takes_92, r_X5_takes_95, r_X5_takes_98, r_X5_takes_99, r_X5_takes_99_0, r_X5_takes_99_1, r_X5_takes_100, r_X5_takes_101, r_X5_takes_104, r_X5_takes_105, r_X5_takes_107, r_X5_takes_108, r_X5_takes_109, r_X5_takes_112, r_X5_takes_114, r_X5_takes_115, r_X5_takes_116, r_X5_takes_117, r_X5_takes_120, r_X5_takes_122, r_X5_takes_123, r_X5_takes_124, r_X5_takes_125, r_X5_takes_128, r_X5_takes_129, r_X5_takes_131, r_X5_takes_132, r_X5_takes_133, r_X5_takes_133_0, r_X5_takes_133_1, gF_0, gF_1, gF_2, gF_3, gF_4, gF_5, gF_6, gF_7, gF_8, gF_9, gF_10, gF_11, gF_12, gF_13, gF_14, gF_15, gF_16, gF_17, pF_0, pF_1, pF_2, pF_3, pF_4, pF_5, pF_6, pF_7, pF_8, pF_9, pF_10, pF_11, pF_12, pF_13, pF_14, pF_15, pF_16, pF_17, gI_of, gL_of, gR_of, sI_of, sL_of, gN_of, gO_of, cl_i, cl_r, cl_l, cl_n, pu_s, pu_n, rV_s, hg_same, hg_ne, if_true, if_false, true_and, and_true, ne_eq, not_false_eq_true, not_true_eq_false, eq_self, reduceCtorEq, Nat.reduceAdd, nI_add, n_mul, n_sub, n_div, n_dec, n_dif, n_shl1, n_bit, n_eq0, n_0eq, n_eq, n_lt, n_le, n_lt0, n_ge0, n_gt0, n_le0, n_em1, n_m1e, n_m1lt0, n_m1ge0, n_m1gt0, n_m1eq0, n_m1lt, bI_eq0, bI_ne0, tb_eq0, tb_eq1, e27, g28, b28, g29, b29]
      exact kt h c r (st_yes H hi hj hE hU s1 hc (fun _ _ => rfl)) s1 hc (fun _ _ => rfl) hA (Sm.rf _ h)
  · obtain ⟨t1, t2, t3, t4, t5, t6⟩ := st_take H hi hj hE hU hc
    have hfull := st_full t1.all
    have hij : r j ≠ i := fun e => hc ((H.2.1.2 i j hi hj).mpr e)
    -- what the arrays are, when both are changed
    have W28 : ∀ g : Nat → Int32, (∀ x, x < n → x ≠ i → g x = if x = r j then -1 else vf n (c x)) → g i = nI j → ∀ x, x < n → g x = vf n (tkc n c i j (r j) x) := fun g h1 h2 x hx => by
      unfold tkc
      by_cases q1 : x = i
      · rw [q1, h2, if_pos rfl, vf_of hj]
      · rw [h1 x hx q1, if_neg q1]
        by_cases q2 : x = r j
        · rw [if_pos q2, if_pos q2, vf_no (Nat.lt_irrefl n)]
        · rw [if_neg q2, if_neg q2]
    have W29 : ∀ g : Nat → Int32, (∀ y, y < n → y ≠ j → g y = if y = c i then -1 else vf n (r y)) → g j = nI i → ∀ y, y < n → g y = vf n (tkr n r i j (c i) y) := fun g h1 h2 y hy => by
      unfold tkr
      by_cases q1 : y = j
      · rw [q1, h2, if_pos rfl, vf_of hi]
      · rw [h1 y hy q1, if_neg q1]
        by_cases q2 : y = c i
        · rw [if_pos q2, if_pos q2, vf_no (Nat.lt_irrefl n)]
        · rw [if_neg q2, if_neg q2]
    have ti : tkc n c i j (r j) i = j := by unfold tkc; rw [if_pos rfl]
    have easy : bn (c i < n) + bn (r j < n) ≤ 1 → ∀ (g28' g29' : Nat → Int32) (h1 : j_H), hg h1 27 = some (oB 5 [.int (nI (nu n (Eb C) 0 0)), .ref 28, .ref 29, .ref 30, .ref 31]) → hg h1 28 = some (aI 20 g28') → hg h1 29 = some (aI 20 g29') → isI h1 30 20 → isI h1 31 20 → (∀ x, x < n → g28' x = vf n (tkc n c i j (r j) x)) → (∀ y, y < n → g29' y = vf n (tkr n r i j (c i) y)) → Sm (fun b => 28 ≤ b ∧ b < 32) h h1 → Q (some (.int (nI 1))) h1 := by
      intro hle g28' g29' h1 q27 q28 q29 q30 q31 v28 v29 S1
      have hst : Stt n C (i + 1) (U ||| 2 ^ j) (tkc n c i j (r j)) (tkr n r i j (c i)) (nu n (Eb C) 0 0) := ⟨t1, t2, t3, t4, by omega⟩
      exact kt h1 _ _ (st_yes H hi hj hE hU hst ti t5) hst ti t5 ⟨q27, ⟨⟨g28', q28, v28⟩, ⟨g29', q29, v29⟩⟩, q30, q31⟩ S1
    by_cases hl1 : c i < n
    · have b28 : f28 i = nI (c i) := by rw [a28, vf_of hl1]
      by_cases hl2 : r j < n
      · have b29 : f29 j = nI (r j) := by rw [a29, vf_of hl2]
        rw [bn_1 hl1, bn_1 hl2] at t6
        simp (disch := first | omega | assumption) only [r_X5_takes_0, r_X5_takes_1, r_X5_takes_4, r_X5_takes_5, r_X5_takes_6, r_X5_takes_8, r_X5_takes_9, r_X5_takes_12, r_X5_takes_13, r_X5_takes_14, r_X5_takes_16, r_X5_takes_18, r_X5_takes_19, r_X5_takes_22, r_X5_takes_23, r_X5_takes_23_0, r_X5_takes_23_1, r_X5_takes_24, r_X5_takes_26, r_X5_takes_27, r_X5_takes_30, r_X5_takes_31, r_X5_takes_34, r_X5_takes_36, r_X5_takes_37, r_X5_takes_38, r_X5_takes_40, r_X5_takes_41, r_X5_takes_44, r_X5_takes_45, r_X5_takes_48, r_X5_takes_50, r_X5_takes_51, r_X5_takes_52, r_X5_takes_53, r_X5_takes_56, r_X5_takes_57, r_X5_takes_58, r_X5_takes_59, r_X5_takes_60, r_X5_takes_63, r_X5_takes_64, r_X5_takes_65, r_X5_takes_66, r_X5_takes_68, r_X5_takes_69, r_X5_takes_72, r_X5_takes_74, r_X5_takes_75, r_X5_takes_78, r_X5_takes_79, r_X5_takes_79_0, r_X5_takes_79_1, r_X5_takes_80, r_X5_takes_81, r_X5_takes_82, r_X5_takes_83, r_X5_takes_84, r_X5_takes_85, r_X5_takes_87, r_X5_takes_88, r_X5_takes_91, r_X5_takes_92, r_X5_takes_95, r_X5_takes_98, r_X5_takes_99, r_X5_takes_99_0, r_X5_takes_99_1, r_X5_takes_100, r_X5_takes_101, r_X5_takes_104, r_X5_takes_105, r_X5_takes_107, r_X5_takes_108, r_X5_takes_109, r_X5_takes_112, r_X5_takes_114, r_X5_takes_115, r_X5_takes_116, r_X5_takes_117, r_X5_takes_120, r_X5_takes_122, r_X5_takes_123, r_X5_takes_124, r_X5_takes_125, r_X5_takes_128, r_X5_takes_129, r_X5_takes_131, r_X5_takes_132, r_X5_takes_133, r_X5_takes_133_0, r_X5_takes_133_1, gF_0, gF_1, gF_2, gF_3, gF_4, gF_5, gF_6, gF_7, gF_8, gF_9, gF_10, gF_11, gF_12, gF_13, gF_14, gF_15, gF_16, gF_17, pF_0, pF_1, pF_2, pF_3, pF_4, pF_5, pF_6, pF_7, pF_8, pF_9, pF_10, pF_11, pF_12, pF_13, pF_14, pF_15, pF_16, pF_17, gI_of, gL_of, gR_of, sI_of, sL_of, gN_of, gO_of, cl_i, cl_r, cl_l, cl_n, pu_s, pu_n, rV_s, hg_same, hg_ne, if_true, if_false, true_and, and_true, ne_eq, not_false_eq_true, not_true_eq_false, eq_self, reduceCtorEq, Nat.reduceAdd, nI_add, n_mul, n_sub, n_div, n_dec, n_dif, n_shl1, n_bit, n_eq0, n_0eq, n_eq, n_lt, n_le, n_lt0, n_ge0, n_gt0, n_le0, n_em1, n_m1e, n_m1lt0, n_m1ge0, n_m1gt0, n_m1eq0, n_m1lt, bI_eq0, bI_ne0, tb_eq0, tb_eq1, e27, g28, b28, g29, b29, hc, x_bit, n_or, hs_3 (show (29 : Nat) ≠ 28 by decide), hs_hs]
        have V28 := W28 (up (up f28 (r j) (-1)) i (nI j)) (fun x hx q1 => by
          rw [up_ne q1]
          by_cases q2 : x = r j
          · rw [if_pos q2, q2, up_same]
          · rw [if_neg q2, up_ne q2]; exact w28 x hx) (up_same _ _ _)
        have V29 := W29 (up (up f29 (c i) (-1)) j (nI i)) (fun x hx q1 => by
          rw [up_ne q1]
          by_cases q2 : x = c i
          · rw [if_pos q2, q2, up_same]
          · rw [if_neg q2, up_ne q2]; exact w29 x hx) (up_same _ _ _)
        generalize hG28 : up (up f28 (r j) (-1)) i (nI j) = G28 at *
        generalize hG29 : up (up f29 (c i) (-1)) j (nI i) = G29 at *
        have SA : Sm (fun b => b = 28 ∨ b = 29) h (hs (hs h 29 (aI 20 G29)) 28 (aI 20 G28)) := ((Sm.rf _ h).set (Or.inr rfl)).set (Or.inl rfl)
        refine x_grow (a := i + 1) (U := U ||| 2 ^ j) ((SA.at (by omega)).trans e27) (hT.keep SA (fun b q => by omega)) ⟨⟨G28, hg_same _ _ _, V28⟩, ⟨G29, (hg_ne (by omega)).trans (hg_same _ _ _), V29⟩⟩ (e30.keep (SA.at (by omega))) (e31.keep (SA.at (by omega))) hn.2 hU2 (by omega) t1 t2 (fun h1 c' r' x x0 i1 i2 i3 i4 i5 i6 i7 i8 i9 i10 i11 i12 => ?_) (fun h1 i1 i2 i3 i4 => ?_)
        · have z27 := (i12.at (b := 27) (by omega)).trans ((SA.at (by omega)).trans e27)
          have hst : Stt n C (i + 1) (U ||| 2 ^ j) c' r' (nu n (Eb C) 0 0) := ⟨i6.1, i7, fun y hy hu => by rw [i8 y hy hu]; exact t3 y hy hu, t4, by rw [aug_cnt i3 i4 i6.2.1]; omega⟩
          have hcol : ∀ x y, x < n → y < n → tkc n c i j (r j) x = y → (U ||| 2 ^ j).testBit y = true → c' x = y := fun x y hx hy q1 q2 => (i7.2 x y hx hy).mpr (by rw [i8 y hy q2]; exact (t2.2 x y hx hy).mp q1)
          have hc'i : c' i = j := hcol i j hi hj ti (by rw [tb_or_pow]; simp)
          have hlow : ∀ k, k < i → c' k = c k := fun k hk => by
            have q0 := t5 k hk
            by_cases q1 : c k < n
            · refine hcol k (c k) (by omega) q1 q0 ?_
              have q2 := H.2.1.lt (show k < n by omega) q1
              have q3 := ((H.1.1 _ q1).2 (by omega)).2
              rw [q2] at q3
              rw [tb_or_pow]
              cases hu : U.testBit (c k) with
              | true => rfl
              | false => have := q3.mp hu; omega
            · have q2 := H.2.1.1 k (by omega)
              have q3 := i7.1 k (by omega)
              have q4 : ¬ c' k < n := fun q4 => by
                have q5 := i7.lt (show k < n by omega) q4
                have q6 := (i6.1.1 _ q4).2 (by omega)
                rw [q5] at q6
                have hb : (U ||| 2 ^ j).testBit (c' k) = true := by
                  cases hu : (U ||| 2 ^ j).testBit (c' k) with
                  | true => rfl
                  | false => have := q6.2.mp hu; omega
                rw [i8 _ q4 hb] at q5
                have := (t2.2 k _ (by omega) q4).mpr q5
                omega
              omega
          simp (disch := first | omega | assumption) only [r_X5_takes_0, r_X5_takes_1, r_X5_takes_4, r_X5_takes_5, r_X5_takes_6, r_X5_takes_8, r_X5_takes_9, r_X5_takes_12, r_X5_takes_13, r_X5_takes_14, r_X5_takes_16, r_X5_takes_18, r_X5_takes_19, r_X5_takes_22, r_X5_takes_23, r_X5_takes_23_0, r_X5_takes_23_1, r_X5_takes_24, r_X5_takes_26, r_X5_takes_27, r_X5_takes_30, r_X5_takes_31, r_X5_takes_34, r_X5_takes_36, r_X5_takes_37, r_X5_takes_38, r_X5_takes_40, r_X5_takes_41, r_X5_takes_44, r_X5_takes_45, r_X5_takes_48, r_X5_takes_50, r_X5_takes_51, r_X5_takes_52, r_X5_takes_53, r_X5_takes_56, r_X5_takes_57, r_X5_takes_58, r_X5_takes_59, r_X5_takes_60, r_X5_takes_63, r_X5_takes_64, r_X5_takes_65, r_X5_takes_66, r_X5_takes_68, r_X5_takes_69, r_X5_takes_72, r_X5_takes_74, r_X5_takes_75, r_X5_takes_78, r_X5_takes_79, r_X5_takes_79_0, r_X5_takes_79_1, r_X5_takes_80, r_X5_takes_81, r_X5_takes_82, r_X5_takes_83, r_X5_takes_84, r_X5_takes_85, r_X5_takes_87, r_X5_takes_88, r_X5_takes_91, r_X5_takes_92, r_X5_takes_95, r_X5_takes_98, r_X5_takes_99, r_X5_takes_99_0, r_X5_takes_99_1, r_X5_takes_100, r_X5_takes_101, r_X5_takes_104, r_X5_takes_105, r_X5_takes_107, r_X5_takes_108, r_X5_takes_109, r_X5_takes_112, r_X5_takes_114, r_X5_takes_115, r_X5_takes_116, r_X5_takes_117, r_X5_takes_120, r_X5_takes_122, r_X5_takes_123, r_X5_takes_124, r_X5_takes_125, r_X5_takes_128, r_X5_takes_129, r_X5_takes_131, r_X5_takes_132, r_X5_takes_133, r_X5_takes_133_0, r_X5_takes_133_1, gF_0, gF_1, gF_2, gF_3, gF_4, gF_5, gF_6, gF_7, gF_8, gF_9, gF_10, gF_11, gF_12, gF_13, gF_14, gF_15, gF_16, gF_17, pF_0, pF_1, pF_2, pF_3, pF_4, pF_5, pF_6, pF_7, pF_8, pF_9, pF_10, pF_11, pF_12, pF_13, pF_14, pF_15, pF_16, pF_17, gI_of, gL_of, gR_of, sI_of, sL_of, gN_of, gO_of, cl_i, cl_r, cl_l, cl_n, pu_s, pu_n, rV_s, hg_same, hg_ne, if_true, if_false, true_and, and_true, ne_eq, not_false_eq_true, not_true_eq_false, eq_self, reduceCtorEq, Nat.reduceAdd, nI_add, n_mul, n_sub, n_div, n_dec, n_dif, n_shl1, n_bit, n_eq0, n_0eq, n_eq, n_lt, n_le, n_lt0, n_ge0, n_gt0, n_le0, n_em1, n_m1e, n_m1lt0, n_m1ge0, n_m1gt0, n_m1eq0, n_m1lt, bI_eq0, bI_ne0, tb_eq0, tb_eq1, show ¬ (1 : Nat) = 0 by decide]
          exact kt h1 c' r' (st_yes H hi hj hE hU hst hc'i hlow) hst hc'i hlow ⟨z27, i9, i10, i11⟩ ((SA.mono (fun x q => by omega)).trans i12)
        · have z27 := (i4.at (b := 27) (by omega)).trans ((SA.at (by omega)).trans e27)
          have z28 := (i4.at (b := 28) (by omega)).trans (hg_same _ _ _)
          have z29 := (i4.at (b := 29) (by omega)).trans ((hg_ne (by omega)).trans (hg_same _ _ _))
          simp (disch := first | omega | assumption) only [r_X5_takes_0, r_X5_takes_1, r_X5_takes_4, r_X5_takes_5, r_X5_takes_6, r_X5_takes_8, r_X5_takes_9, r_X5_takes_12, r_X5_takes_13, r_X5_takes_14, r_X5_takes_16, r_X5_takes_18, r_X5_takes_19, r_X5_takes_22, r_X5_takes_23, r_X5_takes_23_0, r_X5_takes_23_1, r_X5_takes_24, r_X5_takes_26, r_X5_takes_27, r_X5_takes_30, r_X5_takes_31, r_X5_takes_34, r_X5_takes_36, r_X5_takes_37, r_X5_takes_38, r_X5_takes_40, r_X5_takes_41, r_X5_takes_44, r_X5_takes_45, r_X5_takes_48, r_X5_takes_50, r_X5_takes_51, r_X5_takes_52, r_X5_takes_53, r_X5_takes_56, r_X5_takes_57, r_X5_takes_58, r_X5_takes_59, r_X5_takes_60, r_X5_takes_63, r_X5_takes_64, r_X5_takes_65, r_X5_takes_66, r_X5_takes_68, r_X5_takes_69, r_X5_takes_72, r_X5_takes_74, r_X5_takes_75, r_X5_takes_78, r_X5_takes_79, r_X5_takes_79_0, r_X5_takes_79_1, r_X5_takes_80, r_X5_takes_81, r_X5_takes_82, r_X5_takes_83, r_X5_takes_84, r_X5_takes_85, r_X5_takes_87, r_X5_takes_88, r_X5_takes_91, r_X5_takes_92, r_X5_takes_95, r_X5_takes_98, r_X5_takes_99, r_X5_takes_99_0, r_X5_takes_99_1, r_X5_takes_100, r_X5_takes_101, r_X5_takes_104, r_X5_takes_105, r_X5_takes_107, r_X5_takes_108, r_X5_takes_109, r_X5_takes_112, r_X5_takes_114, r_X5_takes_115, r_X5_takes_116, r_X5_takes_117, r_X5_takes_120, r_X5_takes_122, r_X5_takes_123, r_X5_takes_124, r_X5_takes_125, r_X5_takes_128, r_X5_takes_129, r_X5_takes_131, r_X5_takes_132, r_X5_takes_133, r_X5_takes_133_0, r_X5_takes_133_1, gF_0, gF_1, gF_2, gF_3, gF_4, gF_5, gF_6, gF_7, gF_8, gF_9, gF_10, gF_11, gF_12, gF_13, gF_14, gF_15, gF_16, gF_17, pF_0, pF_1, pF_2, pF_3, pF_4, pF_5, pF_6, pF_7, pF_8, pF_9, pF_10, pF_11, pF_12, pF_13, pF_14, pF_15, pF_16, pF_17, gI_of, gL_of, gR_of, sI_of, sL_of, gN_of, gO_of, cl_i, cl_r, cl_l, cl_n, pu_s, pu_n, rV_s, hg_same, hg_ne, if_true, if_false, true_and, and_true, ne_eq, not_false_eq_true, not_true_eq_false, eq_self, reduceCtorEq, Nat.reduceAdd, nI_add, n_mul, n_sub, n_div, n_dec, n_dif, n_shl1, n_bit, n_eq0, n_0eq, n_eq, n_lt, n_le, n_lt0, n_ge0, n_gt0, n_le0, n_em1, n_m1e, n_m1lt0, n_m1ge0, n_m1gt0, n_m1eq0, n_m1lt, bI_eq0, bI_ne0, tb_eq0, tb_eq1, z27, z28, z29, hs_3 (show (28 : Nat) ≠ 29 by decide), hs_hs]
          have SB : Sm (fun b => b = 28 ∨ b = 29) h1 (hs (hs h1 28 (aI 20 (up (up G28 i (nI (c i))) (r j) (nI j)))) 29 (aI 20 (up (up G29 (c i) (nI i)) j (nI (r j))))) := ((Sm.rf _ h1).set (Or.inl rfl)).set (Or.inr rfl)
          refine kf _ (fun q => ?_) hc ⟨(SB.at (by omega)).trans z27, ⟨⟨_, (hg_ne (by omega)).trans (hg_same _ _ _), fun x hx => ?_⟩, ⟨_, hg_same _ _ _, fun y hy => ?_⟩⟩, i2.keep (SB.at (by omega)), i3.keep (SB.at (by omega))⟩ ((SA.mono (fun x q => by omega)).trans ((i4.mono (fun x q => by omega)).trans (SB.mono (fun x q => by omega))))
          · have q1 := i1.uq (nu_max n (Eb C) (i + 1) (U ||| 2 ^ j))
            have q2 := q.2.2
            have hst : Stt n C (i + 1) (U ||| 2 ^ j) (tkc n c i j (r j)) (tkr n r i j (c i)) (nu n (Eb C) 0 0 - 1) := ⟨t1, t2, t3, t4, by omega⟩
            have q3 := st_cnt hst
            have q4 := many_s hi t5
            rw [ti, bn_1 hj] at q4
            unfold OC at q3
            omega
          · show up (up G28 i (nI (c i))) (r j) (nI j) x = vf n (c x)
            by_cases q1 : x = r j
            · rw [q1, up_same, H.2.1.rlt hj hl2, vf_of hj]
            · rw [up_ne q1]
              by_cases q2 : x = i
              · rw [q2, up_same, vf_of hl1]
              · rw [up_ne q2, ← hG28, up_ne q2, up_ne q1]; exact w28 x hx
          · show up (up G29 (c i) (nI i)) j (nI (r j)) y = vf n (r y)
            by_cases q1 : y = j
            · rw [q1, up_same, vf_of hl2]
            · rw [up_ne q1]
              by_cases q2 : y = c i
              · rw [q2, up_same, H.2.1.lt hi hl1, vf_of hi]
              · rw [up_ne q2, ← hG29, up_ne q1, up_ne q2]; exact w29 y hy
      · have b29 : f29 j = -1 := by rw [a29, vf_no hl2]
        simp (disch := first | omega | assumption) only [r_X5_takes_0, r_X5_takes_1, r_X5_takes_4, r_X5_takes_5, r_X5_takes_6, r_X5_takes_8, r_X5_takes_9, r_X5_takes_12, r_X5_takes_13, r_X5_takes_14, r_X5_takes_16, r_X5_takes_18, r_X5_takes_19, r_X5_takes_22, r_X5_takes_23, r_X5_takes_23_0, r_X5_takes_23_1, r_X5_takes_24, r_X5_takes_26, r_X5_takes_27, r_X5_takes_30, r_X5_takes_31, r_X5_takes_34, r_X5_takes_36, r_X5_takes_37, r_X5_takes_38, r_X5_takes_40, r_X5_takes_41, r_X5_takes_44, r_X5_takes_45, r_X5_takes_48, r_X5_takes_50, r_X5_takes_51, r_X5_takes_52, r_X5_takes_53, r_X5_takes_56, r_X5_takes_57, r_X5_takes_58, r_X5_takes_59, r_X5_takes_60, r_X5_takes_63, r_X5_takes_64, r_X5_takes_65, r_X5_takes_66, r_X5_takes_68, r_X5_takes_69, r_X5_takes_72, r_X5_takes_74, r_X5_takes_75, r_X5_takes_78, r_X5_takes_79, r_X5_takes_79_0, r_X5_takes_79_1, r_X5_takes_80, r_X5_takes_81, r_X5_takes_82, r_X5_takes_83, r_X5_takes_84, r_X5_takes_85, r_X5_takes_87, r_X5_takes_88, r_X5_takes_91, r_X5_takes_92, r_X5_takes_95, r_X5_takes_98, r_X5_takes_99, r_X5_takes_99_0, r_X5_takes_99_1, r_X5_takes_100, r_X5_takes_101, r_X5_takes_104, r_X5_takes_105, r_X5_takes_107, r_X5_takes_108, r_X5_takes_109, r_X5_takes_112, r_X5_takes_114, r_X5_takes_115, r_X5_takes_116, r_X5_takes_117, r_X5_takes_120, r_X5_takes_122, r_X5_takes_123, r_X5_takes_124, r_X5_takes_125, r_X5_takes_128, r_X5_takes_129, r_X5_takes_131, r_X5_takes_132, r_X5_takes_133, r_X5_takes_133_0, r_X5_takes_133_1, gF_0, gF_1, gF_2, gF_3, gF_4, gF_5, gF_6, gF_7, gF_8, gF_9, gF_10, gF_11, gF_12, gF_13, gF_14, gF_15, gF_16, gF_17, pF_0, pF_1, pF_2, pF_3, pF_4, pF_5, pF_6, pF_7, pF_8, pF_9, pF_10, pF_11, pF_12, pF_13, pF_14, pF_15, pF_16, pF_17, gI_of, gL_of, gR_of, sI_of, sL_of, gN_of, gO_of, cl_i, cl_r, cl_l, cl_n, pu_s, pu_n, rV_s, hg_same, hg_ne, if_true, if_false, true_and, and_true, ne_eq, not_false_eq_true, not_true_eq_false, eq_self, reduceCtorEq, Nat.reduceAdd, nI_add, n_mul, n_sub, n_div, n_dec, n_dif, n_shl1, n_bit, n_eq0, n_0eq, n_eq, n_lt, n_le, n_lt0, n_ge0, n_gt0, n_le0, n_em1, n_m1e, n_m1lt0, n_m1ge0, n_m1gt0, n_m1eq0, n_m1lt, bI_eq0, bI_ne0, tb_eq0, tb_eq1, e27, g28, b28, g29, b29, hc, hs_3 (show (29 : Nat) ≠ 28 by decide), hs_hs]
        refine easy (by rw [bn_1 hl1, bn_0 hl2]; decide) (up f28 i (nI j)) (up (up f29 (c i) (-1)) j (nI i)) _ ?_ ?_ ?_ ?_ ?_ (W28 _ (fun x hx q1 => by rw [up_ne q1, if_neg (by omega)]; exact w28 x hx) (up_same _ _ _)) (W29 _ (fun x hx q1 => by
          rw [up_ne q1]
          by_cases q2 : x = c i
          · rw [if_pos q2, q2, up_same]
          · rw [if_neg q2, up_ne q2]; exact w29 x hx) (up_same _ _ _)) (((Sm.rf _ h).set (by omega)).set (by omega))
        · simp (disch := omega) only [hg_ne, e27]
        · simp (disch := omega) only [hg_ne, hg_same]
        · simp (disch := omega) only [hg_ne, hg_same]
        · exact e30.keep (by simp (disch := omega) only [hg_ne])
        · exact e31.keep (by simp (disch := omega) only [hg_ne])
    · have b28 : f28 i = -1 := by rw [a28, vf_no hl1]
      by_cases hl2 : r j < n
      · have b29 : f29 j = nI (r j) := by rw [a29, vf_of hl2]
        simp (disch := first | omega | assumption) only [r_X5_takes_0, r_X5_takes_1, r_X5_takes_4, r_X5_takes_5, r_X5_takes_6, r_X5_takes_8, r_X5_takes_9, r_X5_takes_12, r_X5_takes_13, r_X5_takes_14, r_X5_takes_16, r_X5_takes_18, r_X5_takes_19, r_X5_takes_22, r_X5_takes_23, r_X5_takes_23_0, r_X5_takes_23_1, r_X5_takes_24, r_X5_takes_26, r_X5_takes_27, r_X5_takes_30, r_X5_takes_31, r_X5_takes_34, r_X5_takes_36, r_X5_takes_37, r_X5_takes_38, r_X5_takes_40, r_X5_takes_41, r_X5_takes_44, r_X5_takes_45, r_X5_takes_48, r_X5_takes_50, r_X5_takes_51, r_X5_takes_52, r_X5_takes_53, r_X5_takes_56, r_X5_takes_57, r_X5_takes_58, r_X5_takes_59, r_X5_takes_60, r_X5_takes_63, r_X5_takes_64, r_X5_takes_65, r_X5_takes_66, r_X5_takes_68, r_X5_takes_69, r_X5_takes_72, r_X5_takes_74, r_X5_takes_75, r_X5_takes_78, r_X5_takes_79, r_X5_takes_79_0, r_X5_takes_79_1, r_X5_takes_80, r_X5_takes_81, r_X5_takes_82, r_X5_takes_83, r_X5_takes_84, r_X5_takes_85, r_X5_takes_87, r_X5_takes_88, r_X5_takes_91, r_X5_takes_92, r_X5_takes_95, r_X5_takes_98, r_X5_takes_99, r_X5_takes_99_0, r_X5_takes_99_1, r_X5_takes_100, r_X5_takes_101, r_X5_takes_104, r_X5_takes_105, r_X5_takes_107, r_X5_takes_108, r_X5_takes_109, r_X5_takes_112, r_X5_takes_114, r_X5_takes_115, r_X5_takes_116, r_X5_takes_117, r_X5_takes_120, r_X5_takes_122, r_X5_takes_123, r_X5_takes_124, r_X5_takes_125, r_X5_takes_128, r_X5_takes_129, r_X5_takes_131, r_X5_takes_132, r_X5_takes_133, r_X5_takes_133_0, r_X5_takes_133_1, gF_0, gF_1, gF_2, gF_3, gF_4, gF_5, gF_6, gF_7, gF_8, gF_9, gF_10, gF_11, gF_12, gF_13, gF_14, gF_15, gF_16, gF_17, pF_0, pF_1, pF_2, pF_3, pF_4, pF_5, pF_6, pF_7, pF_8, pF_9, pF_10, pF_11, pF_12, pF_13, pF_14, pF_15, pF_16, pF_17, gI_of, gL_of, gR_of, sI_of, sL_of, gN_of, gO_of, cl_i, cl_r, cl_l, cl_n, pu_s, pu_n, rV_s, hg_same, hg_ne, if_true, if_false, true_and, and_true, ne_eq, not_false_eq_true, not_true_eq_false, eq_self, reduceCtorEq, Nat.reduceAdd, nI_add, n_mul, n_sub, n_div, n_dec, n_dif, n_shl1, n_bit, n_eq0, n_0eq, n_eq, n_lt, n_le, n_lt0, n_ge0, n_gt0, n_le0, n_em1, n_m1e, n_m1lt0, n_m1ge0, n_m1gt0, n_m1eq0, n_m1lt, bI_eq0, bI_ne0, tb_eq0, tb_eq1, e27, g28, b28, g29, b29, hs_hs]
        refine easy (by rw [bn_0 hl1, bn_1 hl2]; decide) (up (up f28 (r j) (-1)) i (nI j)) (up f29 j (nI i)) _ ?_ ?_ ?_ ?_ ?_ (W28 _ (fun x hx q1 => by
          rw [up_ne q1]
          by_cases q2 : x = r j
          · rw [if_pos q2, q2, up_same]
          · rw [if_neg q2, up_ne q2]; exact w28 x hx) (up_same _ _ _)) (W29 _ (fun x hx q1 => by rw [up_ne q1, if_neg (by omega)]; exact w29 x hx) (up_same _ _ _)) (((Sm.rf _ h).set (by omega)).set (by omega))
        · simp (disch := omega) only [hg_ne, e27]
        · simp (disch := omega) only [hg_ne, hg_same]
        · simp (disch := omega) only [hg_ne, hg_same]
        · exact e30.keep (by simp (disch := omega) only [hg_ne])
        · exact e31.keep (by simp (disch := omega) only [hg_ne])
      · exfalso
        rw [bn_0 hl1, bn_0 hl2] at t6
        omega
/-- settled: the reference's choice -/
theorem x_settle {d n i U : Nat} {C : Nat → Nat → Int32} {c r : Nat → Nat} {h : j_H} {Q : Option Value → j_H → Prop} (hT : xT h n C) (hA : xMs h n c r (nu n (Eb C) 0 0)) (H : Stt n C i U c r (nu n (Eb C) 0 0)) (hn : 1 ≤ n ∧ n ≤ 20) (hi : i < n)
    (kt : ∀ h1 c' r', mj n (Eb C) (nu n (Eb C) 0 0) i U (many n i c) < n → Stt n C (i + 1) (U ||| 2 ^ mj n (Eb C) (nu n (Eb C) 0 0) i U (many n i c)) c' r' (nu n (Eb C) 0 0) → c' i = mj n (Eb C) (nu n (Eb C) 0 0) i U (many n i c) → (∀ k, k < i → c' k = c k) → xMs h1 n c' r' (nu n (Eb C) 0 0) → Sm (fun b => 28 ≤ b ∧ b < 32) h h1 → Q (some (.int (nI (2 ^ mj n (Eb C) (nu n (Eb C) 0 0) i U (many n i c))))) h1)
    (kf : ∀ h1, mj n (Eb C) (nu n (Eb C) 0 0) i U (many n i c) = n → c i = n → xMs h1 n c r (nu n (Eb C) 0 0) → Sm (fun b => 28 ≤ b ∧ b < 32) h h1 → Q (some (.int (nI 0))) h1) : WP (d + 3) mX5_settle 0 [some (.ref 27), some (.ref 2), some (.int (nI i)), some (.int (nI U)), none, none] [] h Q := by
  have x2 := hT.1
  obtain ⟨-, -, -, ⟨f25, h25, w25⟩, -⟩ := id hT
  have e25 : f25 i = nI (ac C i) := w25 i (by omega)
  have hal := ac_lt C i
  have hfl : df (ac C i) U < 2 ^ 20 := Nat.lt_of_le_of_lt (df_le _ _) hal
  have hft : ∀ y, (df (ac C i) U).testBit y = true ↔ y < 20 ∧ Eb C i y = true ∧ U.testBit y = false := fun y => by
    rw [df_tb hal, ac_tb, Bool.and_eq_true, decide_eq_true_iff]
    exact ⟨fun q => ⟨q.1.1, q.1.2, q.2⟩, fun q => ⟨⟨q.1, q.2.1⟩, q.2.2⟩⟩
  simp (disch := first | omega | assumption) only [r_X5_settle_0, r_X5_settle_1, r_X5_settle_4, r_X5_settle_5, r_X5_settle_6, r_X5_settle_7, r_X5_settle_8, r_X5_settle_9, r_X5_settle_10, r_X5_settle_12, r_X5_settle_13, r_X5_settle_17, r_X5_settle_18, r_X5_settle_21, r_X5_settle_24, r_X5_settle_26, r_X5_settle_28, r_X5_settle_31, r_X5_settle_34, r_X5_settle_35, r_X5_settle_36, r_X5_settle_37, r_X5_settle_39, r_X5_settle_40, r_X5_settle_43, r_X5_settle_46, r_X5_settle_48, r_X5_settle_51, r_X5_settle_52, r_X5_settle_55, r_X5_settle_58, r_X5_settle_59, gF_0, gF_1, gF_2, gF_3, gF_4, gF_5, gF_6, gF_7, gF_8, gF_9, gF_10, gF_11, gF_12, gF_13, gF_14, gF_15, gF_16, gF_17, pF_0, pF_1, pF_2, pF_3, pF_4, pF_5, pF_6, pF_7, pF_8, pF_9, pF_10, pF_11, pF_12, pF_13, pF_14, pF_15, pF_16, pF_17, gI_of, gL_of, gR_of, sI_of, sL_of, gN_of, gO_of, cl_i, cl_r, cl_l, cl_n, pu_s, pu_n, rV_s, hg_same, hg_ne, if_true, if_false, true_and, and_true, ne_eq, not_false_eq_true, not_true_eq_false, eq_self, reduceCtorEq, Nat.reduceAdd, nI_add, n_mul, n_sub, n_div, n_dec, n_dif, n_shl1, n_bit, n_eq0, n_0eq, n_eq, n_lt, n_le, n_lt0, n_ge0, n_gt0, n_le0, n_em1, n_m1e, n_m1lt0, n_m1ge0, n_m1gt0, n_m1eq0, n_m1lt, bI_eq0, bI_ne0, tb_eq0, tb_eq1, x2, h25, e25]
  generalize hm : many n i c = mm at *
  have key : ∀ y, y ≤ n → ∀ h', Sm (fun b => 28 ≤ b ∧ b < 32) h h' → xMs h' n c r (nu n (Eb C) 0 0) → fp (fun j _ => bn (cnd n (Eb C) (nu n (Eb C) 0 0) i U mm j)) 0 n y = mj n (Eb C) (nu n (Eb C) 0 0) i U mm → (∀ y', y' < y → c i ≠ y') → WP (d + 3) mX5_settle 15 [some (.ref 27), some (.ref 2), some (.int (nI i)), some (.int (nI U)), some (.int (nI (df (ac C i) U))), some (.int (nI y))] [] h' Q := by
    refine lup (P := fun y => ∀ h', Sm (fun b => 28 ≤ b ∧ b < 32) h h' → xMs h' n c r (nu n (Eb C) 0 0) → fp (fun j _ => bn (cnd n (Eb C) (nu n (Eb C) 0 0) i U mm j)) 0 n y = mj n (Eb C) (nu n (Eb C) 0 0) i U mm → (∀ y', y' < y → c i ≠ y') → WP (d + 3) mX5_settle 15 [some (.ref 27), some (.ref 2), some (.int (nI i)), some (.int (nI U)), some (.int (nI (df (ac C i) U))), some (.int (nI y))] [] h' Q) ?_ ?_
    · intro h' hS A hfp hno
      have y2 := (hS.at (b := 2) (by omega)).trans x2
      rw [fp_end] at hfp
      have hci := H.2.1.1 i hi
      have : c i = n := by
        by_cases q : c i < n
        · exact absurd rfl (hno _ q)
        · omega
      rw [r_X5_settle_15]
      simp (disch := first | omega | assumption) only [r_X5_settle_0, r_X5_settle_1, r_X5_settle_4, r_X5_settle_5, r_X5_settle_6, r_X5_settle_7, r_X5_settle_8, r_X5_settle_9, r_X5_settle_10, r_X5_settle_12, r_X5_settle_13, r_X5_settle_17, r_X5_settle_18, r_X5_settle_21, r_X5_settle_24, r_X5_settle_26, r_X5_settle_28, r_X5_settle_31, r_X5_settle_34, r_X5_settle_35, r_X5_settle_36, r_X5_settle_37, r_X5_settle_39, r_X5_settle_40, r_X5_settle_43, r_X5_settle_46, r_X5_settle_48, r_X5_settle_51, r_X5_settle_52, r_X5_settle_55, r_X5_settle_58, r_X5_settle_59, gF_0, gF_1, gF_2, gF_3, gF_4, gF_5, gF_6, gF_7, gF_8, gF_9, gF_10, gF_11, gF_12, gF_13, gF_14, gF_15, gF_16, gF_17, pF_0, pF_1, pF_2, pF_3, pF_4, pF_5, pF_6, pF_7, pF_8, pF_9, pF_10, pF_11, pF_12, pF_13, pF_14, pF_15, pF_16, pF_17, gI_of, gL_of, gR_of, sI_of, sL_of, gN_of, gO_of, cl_i, cl_r, cl_l, cl_n, pu_s, pu_n, rV_s, hg_same, hg_ne, if_true, if_false, true_and, and_true, ne_eq, not_false_eq_true, not_true_eq_false, eq_self, reduceCtorEq, Nat.reduceAdd, nI_add, n_mul, n_sub, n_div, n_dec, n_dif, n_shl1, n_bit, n_eq0, n_0eq, n_eq, n_lt, n_le, n_lt0, n_ge0, n_gt0, n_le0, n_em1, n_m1e, n_m1lt0, n_m1ge0, n_m1gt0, n_m1eq0, n_m1lt, bI_eq0, bI_ne0, tb_eq0, tb_eq1, Nat.le_refl, y2]
      exact kf h' hfp.symm this A hS
    · intro y hy ih h' hS A hfp hno
      have y2 := (hS.at (b := 2) (by omega)).trans x2
      have y27 := A.1
      have T' := hT.keep hS (fun b q => by omega)
      rw [r_X5_settle_15]
      cases hb : (df (ac C i) U).testBit y with
      | false =>
        have hnc : ¬ cnd n (Eb C) (nu n (Eb C) 0 0) i U mm y := fun q => by
          rw [(hft y).mpr ⟨by omega, q.1, q.2.1⟩] at hb; cases hb
        rw [fp_skip hy (bn_0 hnc)] at hfp
        simp (disch := first | omega | assumption) only [r_X5_settle_0, r_X5_settle_1, r_X5_settle_4, r_X5_settle_5, r_X5_settle_6, r_X5_settle_7, r_X5_settle_8, r_X5_settle_9, r_X5_settle_10, r_X5_settle_12, r_X5_settle_13, r_X5_settle_17, r_X5_settle_18, r_X5_settle_21, r_X5_settle_24, r_X5_settle_26, r_X5_settle_28, r_X5_settle_31, r_X5_settle_34, r_X5_settle_35, r_X5_settle_36, r_X5_settle_37, r_X5_settle_39, r_X5_settle_40, r_X5_settle_43, r_X5_settle_46, r_X5_settle_48, r_X5_settle_51, r_X5_settle_52, r_X5_settle_55, r_X5_settle_58, r_X5_settle_59, gF_0, gF_1, gF_2, gF_3, gF_4, gF_5, gF_6, gF_7, gF_8, gF_9, gF_10, gF_11, gF_12, gF_13, gF_14, gF_15, gF_16, gF_17, pF_0, pF_1, pF_2, pF_3, pF_4, pF_5, pF_6, pF_7, pF_8, pF_9, pF_10, pF_11, pF_12, pF_13, pF_14, pF_15, pF_16, pF_17, gI_of, gL_of, gR_of, sI_of, sL_of, gN_of, gO_of, cl_i, cl_r, cl_l, cl_n, pu_s, pu_n, rV_s, hg_same, hg_ne, if_true, if_false, true_and, and_true, ne_eq, not_false_eq_true, not_true_eq_false, eq_self, reduceCtorEq, Nat.reduceAdd, nI_add, n_mul, n_sub, n_div, n_dec, n_dif, n_shl1, n_bit, n_eq0, n_0eq, n_eq, n_lt, n_le, n_lt0, n_ge0, n_gt0, n_le0, n_em1, n_m1e, n_m1lt0, n_m1ge0, n_m1gt0, n_m1eq0, n_m1lt, bI_eq0, bI_ne0, tb_eq0, tb_eq1, show ¬ n ≤ y by omega, y2, x_has, hb, Bool.false_eq_true]
        refine ih h' hS A hfp (fun y' hy' e => ?_)
        by_cases e1 : y' = y
        · have s := st_same H hi hy (by omega)
          rw [(hft y).mpr ⟨by omega, s.2.1, s.2.2⟩] at hb; cases hb
        · exact hno y' (by omega) e
      | true =>
        obtain ⟨b1, b2, b3⟩ := (hft y).mp hb
        simp (disch := first | omega | assumption) only [r_X5_settle_0, r_X5_settle_1, r_X5_settle_4, r_X5_settle_5, r_X5_settle_6, r_X5_settle_7, r_X5_settle_8, r_X5_settle_9, r_X5_settle_10, r_X5_settle_12, r_X5_settle_13, r_X5_settle_17, r_X5_settle_18, r_X5_settle_21, r_X5_settle_24, r_X5_settle_26, r_X5_settle_28, r_X5_settle_31, r_X5_settle_34, r_X5_settle_35, r_X5_settle_36, r_X5_settle_37, r_X5_settle_39, r_X5_settle_40, r_X5_settle_43, r_X5_settle_46, r_X5_settle_48, r_X5_settle_51, r_X5_settle_52, r_X5_settle_55, r_X5_settle_58, r_X5_settle_59, gF_0, gF_1, gF_2, gF_3, gF_4, gF_5, gF_6, gF_7, gF_8, gF_9, gF_10, gF_11, gF_12, gF_13, gF_14, gF_15, gF_16, gF_17, pF_0, pF_1, pF_2, pF_3, pF_4, pF_5, pF_6, pF_7, pF_8, pF_9, pF_10, pF_11, pF_12, pF_13, pF_14, pF_15, pF_16, pF_17, gI_of, gL_of, gR_of, sI_of, sL_of, gN_of, gO_of, cl_i, cl_r, cl_l, cl_n, pu_s, pu_n, rV_s, hg_same, hg_ne, if_true, if_false, true_and, and_true, ne_eq, not_false_eq_true, not_true_eq_false, eq_self, reduceCtorEq, Nat.reduceAdd, nI_add, n_mul, n_sub, n_div, n_dec, n_dif, n_shl1, n_bit, n_eq0, n_0eq, n_eq, n_lt, n_le, n_lt0, n_ge0, n_gt0, n_le0, n_em1, n_m1e, n_m1lt0, n_m1ge0, n_m1gt0, n_m1eq0, n_m1lt, bI_eq0, bI_ne0, tb_eq0, tb_eq1, show ¬ n ≤ y by omega, y2, x_has, hb, y27]
        refine x_takes T' A H hn hi hy b2 b3 (fun h1 c' r' q1 q2 q3 q4 q5 q6 => ?_) (fun h1 q1 q2 q3 q4 => ?_)
        · rw [hm] at q1
          rw [fp_hit hy (by rw [bn_1 q1]; decide)] at hfp
          rw [← hfp] at kt
          simp (disch := first | omega | assumption) only [r_X5_settle_0, r_X5_settle_1, r_X5_settle_4, r_X5_settle_5, r_X5_settle_6, r_X5_settle_7, r_X5_settle_8, r_X5_settle_9, r_X5_settle_10, r_X5_settle_12, r_X5_settle_13, r_X5_settle_17, r_X5_settle_18, r_X5_settle_21, r_X5_settle_24, r_X5_settle_26, r_X5_settle_28, r_X5_settle_31, r_X5_settle_34, r_X5_settle_35, r_X5_settle_36, r_X5_settle_37, r_X5_settle_39, r_X5_settle_40, r_X5_settle_43, r_X5_settle_46, r_X5_settle_48, r_X5_settle_51, r_X5_settle_52, r_X5_settle_55, r_X5_settle_58, r_X5_settle_59, gF_0, gF_1, gF_2, gF_3, gF_4, gF_5, gF_6, gF_7, gF_8, gF_9, gF_10, gF_11, gF_12, gF_13, gF_14, gF_15, gF_16, gF_17, pF_0, pF_1, pF_2, pF_3, pF_4, pF_5, pF_6, pF_7, pF_8, pF_9, pF_10, pF_11, pF_12, pF_13, pF_14, pF_15, pF_16, pF_17, gI_of, gL_of, gR_of, sI_of, sL_of, gN_of, gO_of, cl_i, cl_r, cl_l, cl_n, pu_s, pu_n, rV_s, hg_same, hg_ne, if_true, if_false, true_and, and_true, ne_eq, not_false_eq_true, not_true_eq_false, eq_self, reduceCtorEq, Nat.reduceAdd, nI_add, n_mul, n_sub, n_div, n_dec, n_dif, n_shl1, n_bit, n_eq0, n_0eq, n_eq, n_lt, n_le, n_lt0, n_ge0, n_gt0, n_le0, n_em1, n_m1e, n_m1lt0, n_m1ge0, n_m1gt0, n_m1eq0, n_m1lt, bI_eq0, bI_ne0, tb_eq0, tb_eq1, show ¬ (1 : Nat) = 0 by decide, x_bit]
          exact kt h1 c' r' hy q2 q3 q4 q5 (hS.trans q6)
        · rw [hm] at q1
          rw [fp_skip hy (bn_0 q1)] at hfp
          simp (disch := first | omega | assumption) only [r_X5_settle_0, r_X5_settle_1, r_X5_settle_4, r_X5_settle_5, r_X5_settle_6, r_X5_settle_7, r_X5_settle_8, r_X5_settle_9, r_X5_settle_10, r_X5_settle_12, r_X5_settle_13, r_X5_settle_17, r_X5_settle_18, r_X5_settle_21, r_X5_settle_24, r_X5_settle_26, r_X5_settle_28, r_X5_settle_31, r_X5_settle_34, r_X5_settle_35, r_X5_settle_36, r_X5_settle_37, r_X5_settle_39, r_X5_settle_40, r_X5_settle_43, r_X5_settle_46, r_X5_settle_48, r_X5_settle_51, r_X5_settle_52, r_X5_settle_55, r_X5_settle_58, r_X5_settle_59, gF_0, gF_1, gF_2, gF_3, gF_4, gF_5, gF_6, gF_7, gF_8, gF_9, gF_10, gF_11, gF_12, gF_13, gF_14, gF_15, gF_16, gF_17, pF_0, pF_1, pF_2, pF_3, pF_4, pF_5, pF_6, pF_7, pF_8, pF_9, pF_10, pF_11, pF_12, pF_13, pF_14, pF_15, pF_16, pF_17, gI_of, gL_of, gR_of, sI_of, sL_of, gN_of, gO_of, cl_i, cl_r, cl_l, cl_n, pu_s, pu_n, rV_s, hg_same, hg_ne, if_true, if_false, true_and, and_true, ne_eq, not_false_eq_true, not_true_eq_false, eq_self, reduceCtorEq, Nat.reduceAdd, nI_add, n_mul, n_sub, n_div, n_dec, n_dif, n_shl1, n_bit, n_eq0, n_0eq, n_eq, n_lt, n_le, n_lt0, n_ge0, n_gt0, n_le0, n_em1, n_m1e, n_m1lt0, n_m1ge0, n_m1gt0, n_m1eq0, n_m1lt, bI_eq0, bI_ne0, tb_eq0, tb_eq1, Nat.le_refl]
          refine ih h1 (hS.trans q4) q3 hfp (fun y' hy' e => ?_)
          by_cases e1 : y' = y
          · exact q2 (by omega)
          · exact hno y' (by omega) e
  exact key 0 (by omega) h (Sm.rf _ h) hA rfl (fun y' hy' => by omega)
theorem x_fit {d n : Nat} {C : Nat → Nat → Int32} {h : j_H} {Q : Option Value → j_H → Prop} (hT : xT h n C) (hM : xM h) (hn : 1 ≤ n ∧ n ≤ 20)
    (k : ∀ h1 c r, CR n c r → (∀ j, j < n → r j ≤ n) → (∀ i, i < n → c i = md n (Eb C) i) → (mdS n (Eb C) n).2 = nu n (Eb C) 0 0 → xMs h1 n c r (nu n (Eb C) 0 0) → Sm (fun b => 27 ≤ b ∧ b < 32) h h1 → Q none h1) : WP (d + 4) mX5_fit 0 [some (.ref 27), some (.ref 2), none, none] [] h Q := by
  obtain ⟨⟨v, e27⟩, -⟩ := id hM
  have x2 := hT.1
  simp (disch := first | omega | assumption) only [r_X5_fit_0, r_X5_fit_1, r_X5_fit_2, r_X5_fit_5, r_X5_fit_6, r_X5_fit_7, r_X5_fit_8, r_X5_fit_10, r_X5_fit_11, r_X5_fit_14, r_X5_fit_17, r_X5_fit_18, r_X5_fit_19, r_X5_fit_20, r_X5_fit_21, r_X5_fit_22, r_X5_fit_25, r_X5_fit_26, r_X5_fit_27, r_X5_fit_30, r_X5_fit_33, gF_0, gF_1, gF_2, gF_3, gF_4, gF_5, gF_6, gF_7, gF_8, gF_9, gF_10, gF_11, gF_12, gF_13, gF_14, gF_15, gF_16, gF_17, pF_0, pF_1, pF_2, pF_3, pF_4, pF_5, pF_6, pF_7, pF_8, pF_9, pF_10, pF_11, pF_12, pF_13, pF_14, pF_15, pF_16, pF_17, gI_of, gL_of, gR_of, sI_of, sL_of, gN_of, gO_of, cl_i, cl_r, cl_l, cl_n, pu_s, pu_n, rV_s, hg_same, hg_ne, if_true, if_false, true_and, and_true, ne_eq, not_false_eq_true, not_true_eq_false, eq_self, reduceCtorEq, Nat.reduceAdd, nI_add, n_mul, n_sub, n_div, n_dec, n_dif, n_shl1, n_bit, n_eq0, n_0eq, n_eq, n_lt, n_le, n_lt0, n_ge0, n_gt0, n_le0, n_em1, n_m1e, n_m1lt0, n_m1ge0, n_m1gt0, n_m1eq0, n_m1lt, bI_eq0, bI_ne0, tb_eq0, tb_eq1, e27]
  refine x_makeMost hT hM hn (fun h1 c r H1 A1 S1 => ?_)
  simp (disch := first | omega | assumption) only [r_X5_fit_0, r_X5_fit_1, r_X5_fit_2, r_X5_fit_5, r_X5_fit_6, r_X5_fit_7, r_X5_fit_8, r_X5_fit_10, r_X5_fit_11, r_X5_fit_14, r_X5_fit_17, r_X5_fit_18, r_X5_fit_19, r_X5_fit_20, r_X5_fit_21, r_X5_fit_22, r_X5_fit_25, r_X5_fit_26, r_X5_fit_27, r_X5_fit_30, r_X5_fit_33, gF_0, gF_1, gF_2, gF_3, gF_4, gF_5, gF_6, gF_7, gF_8, gF_9, gF_10, gF_11, gF_12, gF_13, gF_14, gF_15, gF_16, gF_17, pF_0, pF_1, pF_2, pF_3, pF_4, pF_5, pF_6, pF_7, pF_8, pF_9, pF_10, pF_11, pF_12, pF_13, pF_14, pF_15, pF_16, pF_17, gI_of, gL_of, gR_of, sI_of, sL_of, gN_of, gO_of, cl_i, cl_r, cl_l, cl_n, pu_s, pu_n, rV_s, hg_same, hg_ne, if_true, if_false, true_and, and_true, ne_eq, not_false_eq_true, not_true_eq_false, eq_self, reduceCtorEq, Nat.reduceAdd, nI_add, n_mul, n_sub, n_div, n_dec, n_dif, n_shl1, n_bit, n_eq0, n_0eq, n_eq, n_lt, n_le, n_lt0, n_ge0, n_gt0, n_le0, n_em1, n_m1e, n_m1lt0, n_m1ge0, n_m1gt0, n_m1eq0, n_m1lt, bI_eq0, bI_ne0, tb_eq0, tb_eq1, e27]
  have key : ∀ i, i ≤ n → ∀ h' c r, Sm (fun b => 27 ≤ b ∧ b < 32) h h' → Stt n C i (mdS n (Eb C) i).1 c r (nu n (Eb C) 0 0) → many n i c = (mdS n (Eb C) i).2 → (∀ k, k < i → c k = md n (Eb C) k) → xMs h' n c r (nu n (Eb C) 0 0) → WP (d + 4) mX5_fit 9 [some (.ref 27), some (.ref 2), some (.int (nI (mdS n (Eb C) i).1)), some (.int (nI i))] [] h' Q := by
    refine lup (P := fun i => ∀ h' c r, Sm (fun b => 27 ≤ b ∧ b < 32) h h' → Stt n C i (mdS n (Eb C) i).1 c r (nu n (Eb C) 0 0) → many n i c = (mdS n (Eb C) i).2 → (∀ k, k < i → c k = md n (Eb C) k) → xMs h' n c r (nu n (Eb C) 0 0) → WP (d + 4) mX5_fit 9 [some (.ref 27), some (.ref 2), some (.int (nI (mdS n (Eb C) i).1)), some (.int (nI i))] [] h' Q) ?_ ?_
    · intro h' c r hS H hm hk A
      have y2 := (hS.at (b := 2) (by omega)).trans x2
      rw [r_X5_fit_9]
      simp (disch := first | omega | assumption) only [r_X5_fit_0, r_X5_fit_1, r_X5_fit_2, r_X5_fit_5, r_X5_fit_6, r_X5_fit_7, r_X5_fit_8, r_X5_fit_10, r_X5_fit_11, r_X5_fit_14, r_X5_fit_17, r_X5_fit_18, r_X5_fit_19, r_X5_fit_20, r_X5_fit_21, r_X5_fit_22, r_X5_fit_25, r_X5_fit_26, r_X5_fit_27, r_X5_fit_30, r_X5_fit_33, gF_0, gF_1, gF_2, gF_3, gF_4, gF_5, gF_6, gF_7, gF_8, gF_9, gF_10, gF_11, gF_12, gF_13, gF_14, gF_15, gF_16, gF_17, pF_0, pF_1, pF_2, pF_3, pF_4, pF_5, pF_6, pF_7, pF_8, pF_9, pF_10, pF_11, pF_12, pF_13, pF_14, pF_15, pF_16, pF_17, gI_of, gL_of, gR_of, sI_of, sL_of, gN_of, gO_of, cl_i, cl_r, cl_l, cl_n, pu_s, pu_n, rV_s, hg_same, hg_ne, if_true, if_false, true_and, and_true, ne_eq, not_false_eq_true, not_true_eq_false, eq_self, reduceCtorEq, Nat.reduceAdd, nI_add, n_mul, n_sub, n_div, n_dec, n_dif, n_shl1, n_bit, n_eq0, n_0eq, n_eq, n_lt, n_le, n_lt0, n_ge0, n_gt0, n_le0, n_em1, n_m1e, n_m1lt0, n_m1ge0, n_m1gt0, n_m1eq0, n_m1lt, bI_eq0, bI_ne0, tb_eq0, tb_eq1, Nat.le_refl, y2]
      refine k h' c r H.2.1 (fun j hj => (H.1.1 j hj).1) hk ?_ A hS
      have h1 := st_cnt H
      have h2 : OC n (mdS n (Eb C) n).1 r = 0 := sm_0 n (fun y hy => bn_0 (fun q => by
        have := ((H.1.1 y hy).2 q.2).2.mp q.1
        omega))
      omega
    · intro i hi ih h' c r hS H hm hk A
      have y2 := (hS.at (b := 2) (by omega)).trans x2
      have y27 := A.1
      have T' := hT.keep hS (fun b q => by omega)
      rw [mdS] at ih
      have emd : mj n (Eb C) (nu n (Eb C) 0 0) i (mdS n (Eb C) i).1 (mdS n (Eb C) i).2 = md n (Eb C) i := rfl
      rw [emd] at ih
      rw [r_X5_fit_9]
      simp (disch := first | omega | assumption) only [r_X5_fit_0, r_X5_fit_1, r_X5_fit_2, r_X5_fit_5, r_X5_fit_6, r_X5_fit_7, r_X5_fit_8, r_X5_fit_10, r_X5_fit_11, r_X5_fit_14, r_X5_fit_17, r_X5_fit_18, r_X5_fit_19, r_X5_fit_20, r_X5_fit_21, r_X5_fit_22, r_X5_fit_25, r_X5_fit_26, r_X5_fit_27, r_X5_fit_30, r_X5_fit_33, gF_0, gF_1, gF_2, gF_3, gF_4, gF_5, gF_6, gF_7, gF_8, gF_9, gF_10, gF_11, gF_12, gF_13, gF_14, gF_15, gF_16, gF_17, pF_0, pF_1, pF_2, pF_3, pF_4, pF_5, pF_6, pF_7, pF_8, pF_9, pF_10, pF_11, pF_12, pF_13, pF_14, pF_15, pF_16, pF_17, gI_of, gL_of, gR_of, sI_of, sL_of, gN_of, gO_of, cl_i, cl_r, cl_l, cl_n, pu_s, pu_n, rV_s, hg_same, hg_ne, if_true, if_false, true_and, and_true, ne_eq, not_false_eq_true, not_true_eq_false, eq_self, reduceCtorEq, Nat.reduceAdd, nI_add, n_mul, n_sub, n_div, n_dec, n_dif, n_shl1, n_bit, n_eq0, n_0eq, n_eq, n_lt, n_le, n_lt0, n_ge0, n_gt0, n_le0, n_em1, n_m1e, n_m1lt0, n_m1ge0, n_m1gt0, n_m1eq0, n_m1lt, bI_eq0, bI_ne0, tb_eq0, tb_eq1, show ¬ n ≤ i by omega, y2, y27]
      refine x_settle T' A H hn hi (fun h1 c' r' q1 q2 q3 q4 q5 q6 => ?_) (fun h1 q1 q2 q3 q4 => ?_)
      · rw [hm, emd] at q1 q2 q3 ⊢
        rw [if_pos q1] at ih
        simp (disch := first | omega | assumption) only [r_X5_fit_0, r_X5_fit_1, r_X5_fit_2, r_X5_fit_5, r_X5_fit_6, r_X5_fit_7, r_X5_fit_8, r_X5_fit_10, r_X5_fit_11, r_X5_fit_14, r_X5_fit_17, r_X5_fit_18, r_X5_fit_19, r_X5_fit_20, r_X5_fit_21, r_X5_fit_22, r_X5_fit_25, r_X5_fit_26, r_X5_fit_27, r_X5_fit_30, r_X5_fit_33, gF_0, gF_1, gF_2, gF_3, gF_4, gF_5, gF_6, gF_7, gF_8, gF_9, gF_10, gF_11, gF_12, gF_13, gF_14, gF_15, gF_16, gF_17, pF_0, pF_1, pF_2, pF_3, pF_4, pF_5, pF_6, pF_7, pF_8, pF_9, pF_10, pF_11, pF_12, pF_13, pF_14, pF_15, pF_16, pF_17, gI_of, gL_of, gR_of, sI_of, sL_of, gN_of, gO_of, cl_i, cl_r, cl_l, cl_n, pu_s, pu_n, rV_s, hg_same, hg_ne, if_true, if_false, true_and, and_true, ne_eq, not_false_eq_true, not_true_eq_false, eq_self, reduceCtorEq, Nat.reduceAdd, nI_add, n_mul, n_sub, n_div, n_dec, n_dif, n_shl1, n_bit, n_eq0, n_0eq, n_eq, n_lt, n_le, n_lt0, n_ge0, n_gt0, n_le0, n_em1, n_m1e, n_m1lt0, n_m1ge0, n_m1gt0, n_m1eq0, n_m1lt, bI_eq0, bI_ne0, tb_eq0, tb_eq1, n_or]
        refine ih h1 c' r' (hS.trans (q6.mono (fun x q => by omega))) q2 ?_ (fun k hk' => ?_) q5
        · rw [many_s hi q4, hm, q3, bn_1 q1]
        · by_cases e : k = i
          · rw [e, q3]
          · rw [q4 k (by omega)]; exact hk k (by omega)
      · rw [hm, emd] at q1
        rw [if_neg (by omega)] at ih
        simp (disch := first | omega | assumption) only [r_X5_fit_0, r_X5_fit_1, r_X5_fit_2, r_X5_fit_5, r_X5_fit_6, r_X5_fit_7, r_X5_fit_8, r_X5_fit_10, r_X5_fit_11, r_X5_fit_14, r_X5_fit_17, r_X5_fit_18, r_X5_fit_19, r_X5_fit_20, r_X5_fit_21, r_X5_fit_22, r_X5_fit_25, r_X5_fit_26, r_X5_fit_27, r_X5_fit_30, r_X5_fit_33, gF_0, gF_1, gF_2, gF_3, gF_4, gF_5, gF_6, gF_7, gF_8, gF_9, gF_10, gF_11, gF_12, gF_13, gF_14, gF_15, gF_16, gF_17, pF_0, pF_1, pF_2, pF_3, pF_4, pF_5, pF_6, pF_7, pF_8, pF_9, pF_10, pF_11, pF_12, pF_13, pF_14, pF_15, pF_16, pF_17, gI_of, gL_of, gR_of, sI_of, sL_of, gN_of, gO_of, cl_i, cl_r, cl_l, cl_n, pu_s, pu_n, rV_s, hg_same, hg_ne, if_true, if_false, true_and, and_true, ne_eq, not_false_eq_true, not_true_eq_false, eq_self, reduceCtorEq, Nat.reduceAdd, nI_add, n_mul, n_sub, n_div, n_dec, n_dif, n_shl1, n_bit, n_eq0, n_0eq, n_eq, n_lt, n_le, n_lt0, n_ge0, n_gt0, n_le0, n_em1, n_m1e, n_m1lt0, n_m1ge0, n_m1gt0, n_m1eq0, n_m1lt, bI_eq0, bI_ne0, tb_eq0, tb_eq1, n_or, Nat.or_zero]
        refine ih h1 c r (hS.trans (q4.mono (fun x q => by omega))) (st_none H hi q2) ?_ (fun k hk' => ?_) q3
        · rw [many_s hi (fun _ _ => rfl), hm, q2, bn_0 (Nat.lt_irrefl n), Nat.add_zero]
        · by_cases e : k = i
          · rw [e, q2, q1]
          · exact hk k (by omega)
  refine key 0 (by omega) h1 c r S1 H1 ?_ (fun k hk => by omega) A1
  show many n 0 c = 0
  exact sm_0 n (fun k _ => bn_0 (fun q => by omega))
