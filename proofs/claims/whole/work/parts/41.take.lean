theorem lI_mulN (a b : Nat) : lI a * lI b = lI ((a * b : Nat) : Int) := by rw [lI_mul, Int.natCast_mul]
theorem rs_nat {p : Nat} (m : Nat) : rs p (m : Int) = m % p := by
  unfold rs
  rw [← Int.natCast_emod, Int.toNat_natCast]
theorem rs_self {p a : Nat} (ha : a < p) : rs p ((a : Int) - ((0 : Nat) : Int)) = a := by
  rw [show (a : Int) - ((0 : Nat) : Int) = (a : Int) by omega, rs_nat, Nat.mod_eq_of_lt ha]
/-- the work table: rows by their numbers -/
def rW (h : j_H) (R : Nat → Option Nat) (q : Nat → Nat) (n w : Nat) (A : Nat → Nat → Nat) : Prop := hg h 64 = some (aR 20 R) ∧ (∀ i, i < 20 → R i = some (65 + q i) ∧ q i < 20) ∧ (∀ i j, i < 20 → j < 20 → q i = q j → i = j) ∧ (∀ i, i < 20 → isI h (65 + i) 21) ∧ ∀ i, i < n → ∃ f, hg h (65 + q i) = some (aI 21 f) ∧ ∀ j, j < w → f j = nI (A i j)
theorem rW.row {h : j_H} {R : Nat → Option Nat} {q : Nat → Nat} {n w i : Nat} {A B : Nat → Nat → Nat} {f : Nat → Int32} (H : rW h R q n w A) (hn : n ≤ 20) (hi : i < n) (hf : ∀ j, j < w → f j = nI (B i j)) (ho : ∀ a, a < n → a ≠ i → ∀ j, j < w → B a j = A a j) : rW (hs h (65 + q i) (aI 21 f)) R q n w B := by
  obtain ⟨h1, h2, h3, h4, h5⟩ := H
  have hq := (h2 i (by omega)).2
  refine ⟨by rw [hg_ne (by omega)]; exact h1, h2, h3, fun a ha => ?_, fun a ha => ?_⟩
  · by_cases e : a = q i
    · subst e; exact ⟨f, hg_same _ _ _⟩
    · exact (h4 a ha).keep (hg_ne (by omega))
  · by_cases e : a = i
    · subst e; exact ⟨f, hg_same _ _ _, hf⟩
    · obtain ⟨g, g1, g2⟩ := h5 a ha
      have hne : q a ≠ q i := fun z => e (h3 a i (by omega) (by omega) z)
      exact ⟨g, by rw [hg_ne (by omega)]; exact g1, fun j hj => by rw [ho a ha e j hj]; exact g2 j hj⟩
theorem rW.ext {h : j_H} {R : Nat → Option Nat} {q : Nat → Nat} {n w : Nat} {A B : Nat → Nat → Nat} (H : rW h R q n w A) (ho : ∀ a, a < n → ∀ j, j < w → A a j = B a j) : rW h R q n w B := by
  obtain ⟨h1, h2, h3, h4, h5⟩ := H
  refine ⟨h1, h2, h3, h4, fun a ha => ?_⟩
  obtain ⟨g, g1, g2⟩ := h5 a ha
  exact ⟨g, g1, fun j hj => by rw [← ho a ha j hj]; exact g2 j hj⟩
/-- a pivot's row is taken from those below it -/
def tms (p r c : Nat) (A : Nat → Nat → Nat) (i : Nat) : Nat := A i c * rcp p (A r c) % p
def stp (p r c n w : Nat) (A : Nat → Nat → Nat) : Nat → Nat → Nat := fun i j => if r < i ∧ i < n then (if j = c then tms p r c A i else if c < j ∧ j < w then rs p ((A i j : Int) - ((tms p r c A i * A r j : Nat) : Int)) else A i j) else A i j
theorem x_takeIn {d p n w r c i : Nat} {v : Int32} {h : j_H} {Q : Option Value → j_H → Prop} {R : Nat → Option Nat} {q : Nat → Nat} {A B : Nat → Nat → Nat} {y : Int32} (h63 : hg h 63 = some (oB 7 [.int (nI p), .int v, .ref 64, .ref 85])) (hp : 2 ≤ p) (hp2 : p ≤ 46337) (hn : n ≤ 20) (hw : w ≤ 21) (hc : c < w) (hr : r < n) (hi : i < n) (hri : r ≠ i) (hA : ∀ a b, a < n → b < w → A a b < p) (t : Nat) (ht : t < p)
    (hB : ∀ a b, a < n → b < w → B a b < p)
    (k : ∀ h1 x, rW h1 R q n w (fun a b => if a = i then (if c < b ∧ b < w then rs p ((B i b : Int) - ((t * B r b : Nat) : Int)) else B a b) else B a b) → Sm (fun b => 65 ≤ b ∧ b < 85) h h1 → hg h1 63 = some (oB 7 [.int (nI p), .int v, .ref 64, .ref 85]) → WP (d + 1) mX7_takeAway 121 [some (.ref 63), some (.int (nI r)), some (.int (nI c)), some (.int (nI n)), some (.int (nI w)), some (.ref (65 + q r)), some (.int y), some (.int (nI i)), some (.ref (65 + q i)), some (.int (nI t)), x] [] h1 Q)
    (H : rW h R q n w B) : WP (d + 1) mX7_takeAway 74 [some (.ref 63), some (.int (nI r)), some (.int (nI c)), some (.int (nI n)), some (.int (nI w)), some (.ref (65 + q r)), some (.int y), some (.int (nI i)), some (.ref (65 + q i)), some (.int (nI t)), some (.int (nI (c + 1)))] [] h Q := by
  have key : ∀ j, j ≤ w → c < j → ∀ h', rW h' R q n w (fun a b => if a = i then (if c < b ∧ b < j then rs p ((B i b : Int) - ((t * B r b : Nat) : Int)) else B a b) else B a b) → Sm (fun b => 65 ≤ b ∧ b < 85) h h' → WP (d + 1) mX7_takeAway 74 [some (.ref 63), some (.int (nI r)), some (.int (nI c)), some (.int (nI n)), some (.int (nI w)), some (.ref (65 + q r)), some (.int y), some (.int (nI i)), some (.ref (65 + q i)), some (.int (nI t)), some (.int (nI j))] [] h' Q := by
    refine lup (P := fun j => c < j → ∀ h', rW h' R q n w (fun a b => if a = i then (if c < b ∧ b < j then rs p ((B i b : Int) - ((t * B r b : Nat) : Int)) else B a b) else B a b) → Sm (fun b => 65 ≤ b ∧ b < 85) h h' → WP (d + 1) mX7_takeAway 74 [some (.ref 63), some (.int (nI r)), some (.int (nI c)), some (.int (nI n)), some (.int (nI w)), some (.ref (65 + q r)), some (.int y), some (.int (nI i)), some (.ref (65 + q i)), some (.int (nI t)), some (.int (nI j))] [] h' Q) ?_ ?_
    · intro _ h' H' hS
      have e63 := (hS.at (b := 63) (by omega)).trans h63
      rw [r_X7_takeAway_74]
      simp (disch := first | omega | assumption) only [r_X7_takeAway_0, r_X7_takeAway_1, r_X7_takeAway_4, r_X7_takeAway_5, r_X7_takeAway_6, r_X7_takeAway_8, r_X7_takeAway_9, r_X7_takeAway_11, r_X7_takeAway_12, r_X7_takeAway_13, r_X7_takeAway_16, r_X7_takeAway_18, r_X7_takeAway_19, r_X7_takeAway_20, r_X7_takeAway_21, r_X7_takeAway_25, r_X7_takeAway_26, r_X7_takeAway_29, r_X7_takeAway_30, r_X7_takeAway_33, r_X7_takeAway_35, r_X7_takeAway_36, r_X7_takeAway_38, r_X7_takeAway_40, r_X7_takeAway_41, r_X7_takeAway_42, r_X7_takeAway_45, r_X7_takeAway_48, r_X7_takeAway_49, r_X7_takeAway_51, r_X7_takeAway_52, r_X7_takeAway_53, r_X7_takeAway_54, r_X7_takeAway_56, r_X7_takeAway_57, r_X7_takeAway_58, r_X7_takeAway_61, r_X7_takeAway_63, r_X7_takeAway_65, r_X7_takeAway_66, r_X7_takeAway_68, r_X7_takeAway_69, r_X7_takeAway_70, r_X7_takeAway_71, r_X7_takeAway_72, r_X7_takeAway_76, r_X7_takeAway_78, r_X7_takeAway_81, r_X7_takeAway_83, r_X7_takeAway_85, r_X7_takeAway_86, r_X7_takeAway_89, r_X7_takeAway_91, r_X7_takeAway_93, r_X7_takeAway_94, r_X7_takeAway_96, r_X7_takeAway_98, r_X7_takeAway_99, r_X7_takeAway_100, r_X7_takeAway_102, r_X7_takeAway_103, r_X7_takeAway_105, r_X7_takeAway_107, r_X7_takeAway_108, r_X7_takeAway_109, r_X7_takeAway_110, r_X7_takeAway_111, r_X7_takeAway_114, r_X7_takeAway_115, r_X7_takeAway_118, r_X7_takeAway_124, r_X7_takeAway_127, gF_0, gF_1, gF_2, gF_3, gF_4, gF_5, gF_6, gF_7, gF_8, gF_9, gF_10, gF_11, gF_12, gF_13, gF_14, gF_15, gF_16, gF_17, pF_0, pF_1, pF_2, pF_3, pF_4, pF_5, pF_6, pF_7, pF_8, pF_9, pF_10, pF_11, pF_12, pF_13, pF_14, pF_15, pF_16, pF_17, gI_of, gL_of, gR_of, sI_of, sL_of, gN_of, gO_of, cl_i, cl_r, cl_l, cl_n, pu_s, pu_n, rV_s, hg_same, hg_ne, if_true, if_false, true_and, and_true, ne_eq, not_false_eq_true, not_true_eq_false, eq_self, reduceCtorEq, Nat.reduceAdd, nI_add, n_mul, n_sub, n_div, n_dec, n_dif, n_shl1, n_bit, n_eq0, n_0eq, n_eq, n_lt, n_le, n_lt0, n_ge0, n_gt0, n_le0, n_em1, n_m1e, n_m1lt0, n_m1ge0, n_m1gt0, n_m1eq0, n_m1lt, bI_eq0, bI_ne0, tb_eq0, tb_eq1, Nat.le_refl]
      exact k h' _ H' hS e63
    · intro j hj ih hcj h' H' hS
      have e63 := (hS.at (b := 63) (by omega)).trans h63
      obtain ⟨fr, r1, r2⟩ := H'.2.2.2.2 r hr
      obtain ⟨fi, i1, i2⟩ := H'.2.2.2.2 i hi
      have qr := (H'.2.1 r (by omega)).2
      have qi := (H'.2.1 i (by omega)).2
      have er : fr j = nI (B r j) := by have := r2 j hj; rw [this]; simp only [if_neg hri]
      have ei : fi j = nI (B i j) := by have := i2 j hj; rw [this]; simp only [if_true, show ¬ (c < j ∧ j < j) by omega, if_false]
      have br := hB r j hr hj
      have bi := hB i j hi hj
      have hm := mul_lt ht br hp2
      rw [r_X7_takeAway_74]
      by_cases hz : B r j = 0
      · simp (disch := first | omega | assumption) only [r_X7_takeAway_0, r_X7_takeAway_1, r_X7_takeAway_4, r_X7_takeAway_5, r_X7_takeAway_6, r_X7_takeAway_8, r_X7_takeAway_9, r_X7_takeAway_11, r_X7_takeAway_12, r_X7_takeAway_13, r_X7_takeAway_16, r_X7_takeAway_18, r_X7_takeAway_19, r_X7_takeAway_20, r_X7_takeAway_21, r_X7_takeAway_25, r_X7_takeAway_26, r_X7_takeAway_29, r_X7_takeAway_30, r_X7_takeAway_33, r_X7_takeAway_35, r_X7_takeAway_36, r_X7_takeAway_38, r_X7_takeAway_40, r_X7_takeAway_41, r_X7_takeAway_42, r_X7_takeAway_45, r_X7_takeAway_48, r_X7_takeAway_49, r_X7_takeAway_51, r_X7_takeAway_52, r_X7_takeAway_53, r_X7_takeAway_54, r_X7_takeAway_56, r_X7_takeAway_57, r_X7_takeAway_58, r_X7_takeAway_61, r_X7_takeAway_63, r_X7_takeAway_65, r_X7_takeAway_66, r_X7_takeAway_68, r_X7_takeAway_69, r_X7_takeAway_70, r_X7_takeAway_71, r_X7_takeAway_72, r_X7_takeAway_76, r_X7_takeAway_78, r_X7_takeAway_81, r_X7_takeAway_83, r_X7_takeAway_85, r_X7_takeAway_86, r_X7_takeAway_89, r_X7_takeAway_91, r_X7_takeAway_93, r_X7_takeAway_94, r_X7_takeAway_96, r_X7_takeAway_98, r_X7_takeAway_99, r_X7_takeAway_100, r_X7_takeAway_102, r_X7_takeAway_103, r_X7_takeAway_105, r_X7_takeAway_107, r_X7_takeAway_108, r_X7_takeAway_109, r_X7_takeAway_110, r_X7_takeAway_111, r_X7_takeAway_114, r_X7_takeAway_115, r_X7_takeAway_118, r_X7_takeAway_124, r_X7_takeAway_127, gF_0, gF_1, gF_2, gF_3, gF_4, gF_5, gF_6, gF_7, gF_8, gF_9, gF_10, gF_11, gF_12, gF_13, gF_14, gF_15, gF_16, gF_17, pF_0, pF_1, pF_2, pF_3, pF_4, pF_5, pF_6, pF_7, pF_8, pF_9, pF_10, pF_11, pF_12, pF_13, pF_14, pF_15, pF_16, pF_17, gI_of, gL_of, gR_of, sI_of, sL_of, gN_of, gO_of, cl_i, cl_r, cl_l, cl_n, pu_s, pu_n, rV_s, hg_same, hg_ne, if_true, if_false, true_and, and_true, ne_eq, not_false_eq_true, not_true_eq_false, eq_self, reduceCtorEq, Nat.reduceAdd, nI_add, n_mul, n_sub, n_div, n_dec, n_dif, n_shl1, n_bit, n_eq0, n_0eq, n_eq, n_lt, n_le, n_lt0, n_ge0, n_gt0, n_le0, n_em1, n_m1e, n_m1lt0, n_m1ge0, n_m1gt0, n_m1eq0, n_m1lt, bI_eq0, bI_ne0, tb_eq0, tb_eq1, show ¬ w ≤ j by omega, r1, er, hz]
        refine ih (by omega) h' (H'.ext (fun a ha b hb => ?_)) hS
        by_cases ea : a = i
        · subst ea
          simp only [if_true]
          by_cases eb : b = j
          · subst eb
            rw [if_neg (by omega), if_pos (by omega), hz, Nat.mul_zero, rs_self bi]
          · by_cases ec : c < b ∧ b < j
            · rw [if_pos ec, if_pos (by omega)]
            · rw [if_neg ec, if_neg (by omega)]
        · simp only [if_neg ea]
      · simp (disch := first | omega | assumption) only [r_X7_takeAway_0, r_X7_takeAway_1, r_X7_takeAway_4, r_X7_takeAway_5, r_X7_takeAway_6, r_X7_takeAway_8, r_X7_takeAway_9, r_X7_takeAway_11, r_X7_takeAway_12, r_X7_takeAway_13, r_X7_takeAway_16, r_X7_takeAway_18, r_X7_takeAway_19, r_X7_takeAway_20, r_X7_takeAway_21, r_X7_takeAway_25, r_X7_takeAway_26, r_X7_takeAway_29, r_X7_takeAway_30, r_X7_takeAway_33, r_X7_takeAway_35, r_X7_takeAway_36, r_X7_takeAway_38, r_X7_takeAway_40, r_X7_takeAway_41, r_X7_takeAway_42, r_X7_takeAway_45, r_X7_takeAway_48, r_X7_takeAway_49, r_X7_takeAway_51, r_X7_takeAway_52, r_X7_takeAway_53, r_X7_takeAway_54, r_X7_takeAway_56, r_X7_takeAway_57, r_X7_takeAway_58, r_X7_takeAway_61, r_X7_takeAway_63, r_X7_takeAway_65, r_X7_takeAway_66, r_X7_takeAway_68, r_X7_takeAway_69, r_X7_takeAway_70, r_X7_takeAway_71, r_X7_takeAway_72, r_X7_takeAway_76, r_X7_takeAway_78, r_X7_takeAway_81, r_X7_takeAway_83, r_X7_takeAway_85, r_X7_takeAway_86, r_X7_takeAway_89, r_X7_takeAway_91, r_X7_takeAway_93, r_X7_takeAway_94, r_X7_takeAway_96, r_X7_takeAway_98, r_X7_takeAway_99, r_X7_takeAway_100, r_X7_takeAway_102, r_X7_takeAway_103, r_X7_takeAway_105, r_X7_takeAway_107, r_X7_takeAway_108, r_X7_takeAway_109, r_X7_takeAway_110, r_X7_takeAway_111, r_X7_takeAway_114, r_X7_takeAway_115, r_X7_takeAway_118, r_X7_takeAway_124, r_X7_takeAway_127, gF_0, gF_1, gF_2, gF_3, gF_4, gF_5, gF_6, gF_7, gF_8, gF_9, gF_10, gF_11, gF_12, gF_13, gF_14, gF_15, gF_16, gF_17, pF_0, pF_1, pF_2, pF_3, pF_4, pF_5, pF_6, pF_7, pF_8, pF_9, pF_10, pF_11, pF_12, pF_13, pF_14, pF_15, pF_16, pF_17, gI_of, gL_of, gR_of, sI_of, sL_of, gN_of, gO_of, cl_i, cl_r, cl_l, cl_n, pu_s, pu_n, rV_s, hg_same, hg_ne, if_true, if_false, true_and, and_true, ne_eq, not_false_eq_true, not_true_eq_false, eq_self, reduceCtorEq, Nat.reduceAdd, nI_add, n_mul, n_sub, n_div, n_dec, n_dif, n_shl1, n_bit, n_eq0, n_0eq, n_eq, n_lt, n_le, n_lt0, n_ge0, n_gt0, n_le0, n_em1, n_m1e, n_m1lt0, n_m1ge0, n_m1gt0, n_m1eq0, n_m1lt, bI_eq0, bI_ne0, tb_eq0, tb_eq1, show ¬ w ≤ j by omega, r1, er, hz, i1, ei, nI_lI, lI_mulN, lI_sub, x_restOf e63, e63]
        refine ih (by omega) _ (H'.row hn hi (fun b hb => ?_) (fun a ha hne b hb => ?_)) (hS.set (by omega))
        · simp only [if_true]
          by_cases eb : b = j
          · subst eb
            rw [up_same, if_pos (by omega)]
          · rw [up_ne eb, i2 b hb]
            simp only [if_true]
            by_cases ec : c < b ∧ b < j
            · rw [if_pos ec, if_pos (by omega)]
            · rw [if_neg ec, if_neg (by omega)]
        · simp only [if_neg hne]
  refine key (c + 1) (by omega) (by omega) h (H.ext (fun a ha b hb => ?_)) (Sm.rf _ h)
  by_cases ea : a = i
  · simp only [if_pos ea, if_neg (show ¬ (c < b ∧ b < c + 1) by omega)]
  · simp only [if_neg ea]
theorem tms_lt {p r c : Nat} (hp : 0 < p) (A : Nat → Nat → Nat) (i : Nat) : tms p r c A i < p := Nat.mod_lt _ hp
theorem stp_lt {p r c n w : Nat} {A : Nat → Nat → Nat} (hp : 0 < p) (hA : ∀ a b, a < n → b < w → A a b < p) : ∀ a b, a < n → b < w → stp p r c n w A a b < p := by
  intro a b ha hb
  unfold stp
  split
  · split
    · exact tms_lt hp A a
    · split
      · exact rs_lt hp _
      · exact hA a b ha hb
  · exact hA a b ha hb
theorem stp_up {p r c n w : Nat} {A : Nat → Nat → Nat} {a : Nat} (h : a ≤ r) (b : Nat) : stp p r c n w A a b = A a b := by
  unfold stp
  rw [if_neg (by omega)]
theorem x_takeAway {d p n w r c : Nat} {v : Int32} {h : j_H} {Q : Option Value → j_H → Prop} {R : Nat → Option Nat} {q : Nat → Nat} {A : Nat → Nat → Nat} (h63 : hg h 63 = some (oB 7 [.int (nI p), .int v, .ref 64, .ref 85])) (hp : 2 ≤ p) (hp2 : p ≤ 46337) (hn : n ≤ 20) (hw : w ≤ 21) (hc : c < w) (hr : r < n) (hA : ∀ a b, a < n → b < w → A a b < p) (H : rW h R q n w A)
    (k : ∀ h1, rW h1 R q n w (stp p r c n w A) → Sm (fun b => 65 ≤ b ∧ b < 85) h h1 → Q none h1) : WP (d + 1) mX7_takeAway 0 [some (.ref 63), some (.int (nI r)), some (.int (nI c)), some (.int (nI n)), some (.int (nI w)), none, none, none, none, none, none] [] h Q := by
  obtain ⟨fr, r1, r2⟩ := H.2.2.2.2 r hr
  have h64 := H.1
  have qr := H.2.1 r (by omega)
  have eR := qr.1
  have ec : fr c = nI (A r c) := r2 c hc
  have hAc := hA r c hr hc
  simp (disch := first | omega | assumption) only [r_X7_takeAway_0, r_X7_takeAway_1, r_X7_takeAway_4, r_X7_takeAway_5, r_X7_takeAway_6, r_X7_takeAway_8, r_X7_takeAway_9, r_X7_takeAway_11, r_X7_takeAway_12, r_X7_takeAway_13, r_X7_takeAway_16, r_X7_takeAway_18, r_X7_takeAway_19, r_X7_takeAway_20, r_X7_takeAway_21, r_X7_takeAway_25, r_X7_takeAway_26, r_X7_takeAway_29, r_X7_takeAway_30, r_X7_takeAway_33, r_X7_takeAway_35, r_X7_takeAway_36, r_X7_takeAway_38, r_X7_takeAway_40, r_X7_takeAway_41, r_X7_takeAway_42, r_X7_takeAway_45, r_X7_takeAway_48, r_X7_takeAway_49, r_X7_takeAway_51, r_X7_takeAway_52, r_X7_takeAway_53, r_X7_takeAway_54, r_X7_takeAway_56, r_X7_takeAway_57, r_X7_takeAway_58, r_X7_takeAway_61, r_X7_takeAway_63, r_X7_takeAway_65, r_X7_takeAway_66, r_X7_takeAway_68, r_X7_takeAway_69, r_X7_takeAway_70, r_X7_takeAway_71, r_X7_takeAway_72, r_X7_takeAway_76, r_X7_takeAway_78, r_X7_takeAway_81, r_X7_takeAway_83, r_X7_takeAway_85, r_X7_takeAway_86, r_X7_takeAway_89, r_X7_takeAway_91, r_X7_takeAway_93, r_X7_takeAway_94, r_X7_takeAway_96, r_X7_takeAway_98, r_X7_takeAway_99, r_X7_takeAway_100, r_X7_takeAway_102, r_X7_takeAway_103, r_X7_takeAway_105, r_X7_takeAway_107, r_X7_takeAway_108, r_X7_takeAway_109, r_X7_takeAway_110, r_X7_takeAway_111, r_X7_takeAway_114, r_X7_takeAway_115, r_X7_takeAway_118, r_X7_takeAway_124, r_X7_takeAway_127, gF_0, gF_1, gF_2, gF_3, gF_4, gF_5, gF_6, gF_7, gF_8, gF_9, gF_10, gF_11, gF_12, gF_13, gF_14, gF_15, gF_16, gF_17, pF_0, pF_1, pF_2, pF_3, pF_4, pF_5, pF_6, pF_7, pF_8, pF_9, pF_10, pF_11, pF_12, pF_13, pF_14, pF_15, pF_16, pF_17, gI_of, gL_of, gR_of, sI_of, sL_of, gN_of, gO_of, cl_i, cl_r, cl_l, cl_n, pu_s, pu_n, rV_s, hg_same, hg_ne, if_true, if_false, true_and, and_true, ne_eq, not_false_eq_true, not_true_eq_false, eq_self, reduceCtorEq, Nat.reduceAdd, nI_add, n_mul, n_sub, n_div, n_dec, n_dif, n_shl1, n_bit, n_eq0, n_0eq, n_eq, n_lt, n_le, n_lt0, n_ge0, n_gt0, n_le0, n_em1, n_m1e, n_m1lt0, n_m1ge0, n_m1gt0, n_m1eq0, n_m1lt, bI_eq0, bI_ne0, tb_eq0, tb_eq1, h63, h64, eR, r1, ec, x_reciprocal h63]
  have key : ∀ i, i ≤ n → r < i → ∀ h' x8 x9 x10, rW h' R q n w (fun a b => if a < i then stp p r c n w A a b else A a b) → Sm (fun b => 65 ≤ b ∧ b < 85) h h' → WP (d + 1) mX7_takeAway 23 [some (.ref 63), some (.int (nI r)), some (.int (nI c)), some (.int (nI n)), some (.int (nI w)), some (.ref (65 + q r)), some (.int (nI (rcp p (A r c)))), some (.int (nI i)), x8, x9, x10] [] h' Q := by
    refine lup (P := fun i => r < i → ∀ h' x8 x9 x10, rW h' R q n w (fun a b => if a < i then stp p r c n w A a b else A a b) → Sm (fun b => 65 ≤ b ∧ b < 85) h h' → WP (d + 1) mX7_takeAway 23 [some (.ref 63), some (.int (nI r)), some (.int (nI c)), some (.int (nI n)), some (.int (nI w)), some (.ref (65 + q r)), some (.int (nI (rcp p (A r c)))), some (.int (nI i)), x8, x9, x10] [] h' Q) ?_ ?_
    · intro _ h' x8 x9 x10 H' hS
      rw [r_X7_takeAway_23]
      simp (disch := first | omega | assumption) only [r_X7_takeAway_0, r_X7_takeAway_1, r_X7_takeAway_4, r_X7_takeAway_5, r_X7_takeAway_6, r_X7_takeAway_8, r_X7_takeAway_9, r_X7_takeAway_11, r_X7_takeAway_12, r_X7_takeAway_13, r_X7_takeAway_16, r_X7_takeAway_18, r_X7_takeAway_19, r_X7_takeAway_20, r_X7_takeAway_21, r_X7_takeAway_25, r_X7_takeAway_26, r_X7_takeAway_29, r_X7_takeAway_30, r_X7_takeAway_33, r_X7_takeAway_35, r_X7_takeAway_36, r_X7_takeAway_38, r_X7_takeAway_40, r_X7_takeAway_41, r_X7_takeAway_42, r_X7_takeAway_45, r_X7_takeAway_48, r_X7_takeAway_49, r_X7_takeAway_51, r_X7_takeAway_52, r_X7_takeAway_53, r_X7_takeAway_54, r_X7_takeAway_56, r_X7_takeAway_57, r_X7_takeAway_58, r_X7_takeAway_61, r_X7_takeAway_63, r_X7_takeAway_65, r_X7_takeAway_66, r_X7_takeAway_68, r_X7_takeAway_69, r_X7_takeAway_70, r_X7_takeAway_71, r_X7_takeAway_72, r_X7_takeAway_76, r_X7_takeAway_78, r_X7_takeAway_81, r_X7_takeAway_83, r_X7_takeAway_85, r_X7_takeAway_86, r_X7_takeAway_89, r_X7_takeAway_91, r_X7_takeAway_93, r_X7_takeAway_94, r_X7_takeAway_96, r_X7_takeAway_98, r_X7_takeAway_99, r_X7_takeAway_100, r_X7_takeAway_102, r_X7_takeAway_103, r_X7_takeAway_105, r_X7_takeAway_107, r_X7_takeAway_108, r_X7_takeAway_109, r_X7_takeAway_110, r_X7_takeAway_111, r_X7_takeAway_114, r_X7_takeAway_115, r_X7_takeAway_118, r_X7_takeAway_121, r_X7_takeAway_124, r_X7_takeAway_127, gF_0, gF_1, gF_2, gF_3, gF_4, gF_5, gF_6, gF_7, gF_8, gF_9, gF_10, gF_11, gF_12, gF_13, gF_14, gF_15, gF_16, gF_17, pF_0, pF_1, pF_2, pF_3, pF_4, pF_5, pF_6, pF_7, pF_8, pF_9, pF_10, pF_11, pF_12, pF_13, pF_14, pF_15, pF_16, pF_17, gI_of, gL_of, gR_of, sI_of, sL_of, gN_of, gO_of, cl_i, cl_r, cl_l, cl_n, pu_s, pu_n, rV_s, hg_same, hg_ne, if_true, if_false, true_and, and_true, ne_eq, not_false_eq_true, not_true_eq_false, eq_self, reduceCtorEq, Nat.reduceAdd, nI_add, n_mul, n_sub, n_div, n_dec, n_dif, n_shl1, n_bit, n_eq0, n_0eq, n_eq, n_lt, n_le, n_lt0, n_ge0, n_gt0, n_le0, n_em1, n_m1e, n_m1lt0, n_m1ge0, n_m1gt0, n_m1eq0, n_m1lt, bI_eq0, bI_ne0, tb_eq0, tb_eq1, Nat.le_refl]
      exact k h' (H'.ext (fun a ha b hb => by simp only [if_pos ha])) hS
    · intro i hi ih hri h' x8 x9 x10 H' hS
      have e63 := (hS.at (b := 63) (by omega)).trans h63
      have e64 := H'.1
      have qi := H'.2.1 i (by omega)
      have eRi := qi.1
      obtain ⟨fi, i1, i2⟩ := H'.2.2.2.2 i hi
      have ei : fi c = nI (A i c) := by have := i2 c hc; rw [this]; simp only [if_neg (Nat.lt_irrefl i)]
      have hAi := hA i c hi hc
      have hrc := rcp_lt hp (A r c)
      have hm := mul_lt hAi hrc hp2
      rw [r_X7_takeAway_23]
      by_cases hz : A i c = 0
      · simp (disch := first | omega | assumption) only [r_X7_takeAway_0, r_X7_takeAway_1, r_X7_takeAway_4, r_X7_takeAway_5, r_X7_takeAway_6, r_X7_takeAway_8, r_X7_takeAway_9, r_X7_takeAway_11, r_X7_takeAway_12, r_X7_takeAway_13, r_X7_takeAway_16, r_X7_takeAway_18, r_X7_takeAway_19, r_X7_takeAway_20, r_X7_takeAway_21, r_X7_takeAway_25, r_X7_takeAway_26, r_X7_takeAway_29, r_X7_takeAway_30, r_X7_takeAway_33, r_X7_takeAway_35, r_X7_takeAway_36, r_X7_takeAway_38, r_X7_takeAway_40, r_X7_takeAway_41, r_X7_takeAway_42, r_X7_takeAway_45, r_X7_takeAway_48, r_X7_takeAway_49, r_X7_takeAway_51, r_X7_takeAway_52, r_X7_takeAway_53, r_X7_takeAway_54, r_X7_takeAway_56, r_X7_takeAway_57, r_X7_takeAway_58, r_X7_takeAway_61, r_X7_takeAway_63, r_X7_takeAway_65, r_X7_takeAway_66, r_X7_takeAway_68, r_X7_takeAway_69, r_X7_takeAway_70, r_X7_takeAway_71, r_X7_takeAway_72, r_X7_takeAway_76, r_X7_takeAway_78, r_X7_takeAway_81, r_X7_takeAway_83, r_X7_takeAway_85, r_X7_takeAway_86, r_X7_takeAway_89, r_X7_takeAway_91, r_X7_takeAway_93, r_X7_takeAway_94, r_X7_takeAway_96, r_X7_takeAway_98, r_X7_takeAway_99, r_X7_takeAway_100, r_X7_takeAway_102, r_X7_takeAway_103, r_X7_takeAway_105, r_X7_takeAway_107, r_X7_takeAway_108, r_X7_takeAway_109, r_X7_takeAway_110, r_X7_takeAway_111, r_X7_takeAway_114, r_X7_takeAway_115, r_X7_takeAway_118, r_X7_takeAway_121, r_X7_takeAway_124, r_X7_takeAway_127, gF_0, gF_1, gF_2, gF_3, gF_4, gF_5, gF_6, gF_7, gF_8, gF_9, gF_10, gF_11, gF_12, gF_13, gF_14, gF_15, gF_16, gF_17, pF_0, pF_1, pF_2, pF_3, pF_4, pF_5, pF_6, pF_7, pF_8, pF_9, pF_10, pF_11, pF_12, pF_13, pF_14, pF_15, pF_16, pF_17, gI_of, gL_of, gR_of, sI_of, sL_of, gN_of, gO_of, cl_i, cl_r, cl_l, cl_n, pu_s, pu_n, rV_s, hg_same, hg_ne, if_true, if_false, true_and, and_true, ne_eq, not_false_eq_true, not_true_eq_false, eq_self, reduceCtorEq, Nat.reduceAdd, nI_add, n_mul, n_sub, n_div, n_dec, n_dif, n_shl1, n_bit, n_eq0, n_0eq, n_eq, n_lt, n_le, n_lt0, n_ge0, n_gt0, n_le0, n_em1, n_m1e, n_m1lt0, n_m1ge0, n_m1gt0, n_m1eq0, n_m1lt, bI_eq0, bI_ne0, tb_eq0, tb_eq1, show ¬ n ≤ i by omega, e63, e64, eRi, i1, ei, hz, eq_self]
        refine ih (by omega) h' _ _ _ (H'.ext (fun a ha b hb => ?_)) hS
        by_cases ea : a = i
        · subst ea
          simp only [if_neg (Nat.lt_irrefl a), if_pos (Nat.lt_succ_self a)]
          have hab := hA a b ha hb
          have t0 : tms p r c A a = 0 := by unfold tms; rw [hz, Nat.zero_mul, Nat.zero_mod]
          unfold stp
          rw [if_pos ⟨hri, ha⟩]
          by_cases eb : b = c
          · rw [if_pos eb, eb, t0, hz]
          · rw [if_neg eb, t0, Nat.zero_mul]
            split
            · rw [rs_self hab]
            · rfl
        · by_cases e2 : a < i
          · simp only [if_pos e2, if_pos (Nat.lt_succ_of_lt e2)]
          · simp only [if_neg e2, if_neg (show ¬ a < i + 1 by omega)]
      · simp (disch := first | omega | assumption) only [r_X7_takeAway_0, r_X7_takeAway_1, r_X7_takeAway_4, r_X7_takeAway_5, r_X7_takeAway_6, r_X7_takeAway_8, r_X7_takeAway_9, r_X7_takeAway_11, r_X7_takeAway_12, r_X7_takeAway_13, r_X7_takeAway_16, r_X7_takeAway_18, r_X7_takeAway_19, r_X7_takeAway_20, r_X7_takeAway_21, r_X7_takeAway_25, r_X7_takeAway_26, r_X7_takeAway_29, r_X7_takeAway_30, r_X7_takeAway_33, r_X7_takeAway_35, r_X7_takeAway_36, r_X7_takeAway_38, r_X7_takeAway_40, r_X7_takeAway_41, r_X7_takeAway_42, r_X7_takeAway_45, r_X7_takeAway_48, r_X7_takeAway_49, r_X7_takeAway_51, r_X7_takeAway_52, r_X7_takeAway_53, r_X7_takeAway_54, r_X7_takeAway_56, r_X7_takeAway_57, r_X7_takeAway_58, r_X7_takeAway_61, r_X7_takeAway_63, r_X7_takeAway_65, r_X7_takeAway_66, r_X7_takeAway_68, r_X7_takeAway_69, r_X7_takeAway_70, r_X7_takeAway_71, r_X7_takeAway_72, r_X7_takeAway_76, r_X7_takeAway_78, r_X7_takeAway_81, r_X7_takeAway_83, r_X7_takeAway_85, r_X7_takeAway_86, r_X7_takeAway_89, r_X7_takeAway_91, r_X7_takeAway_93, r_X7_takeAway_94, r_X7_takeAway_96, r_X7_takeAway_98, r_X7_takeAway_99, r_X7_takeAway_100, r_X7_takeAway_102, r_X7_takeAway_103, r_X7_takeAway_105, r_X7_takeAway_107, r_X7_takeAway_108, r_X7_takeAway_109, r_X7_takeAway_110, r_X7_takeAway_111, r_X7_takeAway_114, r_X7_takeAway_115, r_X7_takeAway_118, r_X7_takeAway_124, r_X7_takeAway_127, gF_0, gF_1, gF_2, gF_3, gF_4, gF_5, gF_6, gF_7, gF_8, gF_9, gF_10, gF_11, gF_12, gF_13, gF_14, gF_15, gF_16, gF_17, pF_0, pF_1, pF_2, pF_3, pF_4, pF_5, pF_6, pF_7, pF_8, pF_9, pF_10, pF_11, pF_12, pF_13, pF_14, pF_15, pF_16, pF_17, gI_of, gL_of, gR_of, sI_of, sL_of, gN_of, gO_of, cl_i, cl_r, cl_l, cl_n, pu_s, pu_n, rV_s, hg_same, hg_ne, if_true, if_false, true_and, and_true, ne_eq, not_false_eq_true, not_true_eq_false, eq_self, reduceCtorEq, Nat.reduceAdd, nI_add, n_mul, n_sub, n_div, n_dec, n_dif, n_shl1, n_bit, n_eq0, n_0eq, n_eq, n_lt, n_le, n_lt0, n_ge0, n_gt0, n_le0, n_em1, n_m1e, n_m1lt0, n_m1ge0, n_m1gt0, n_m1eq0, n_m1lt, bI_eq0, bI_ne0, tb_eq0, tb_eq1, show ¬ n ≤ i by omega, e63, e64, eRi, i1, ei, hz, eq_self, nI_lI, lI_mulN, x_restOf e63, rs_nat]
        have ht : tms p r c A i < p := tms_lt (by omega) A i
        have HB : rW (hs h' (65 + q i) (aI 21 (up fi c (nI (tms p r c A i))))) R q n w (fun a b => if a = i ∧ b = c then tms p r c A i else if a < i then stp p r c n w A a b else A a b) := by
          refine H'.row hn hi (fun b hb => ?_) (fun a ha hne b hb => ?_)
          · by_cases eb : b = c
            · subst eb; rw [up_same]; simp
            · rw [up_ne eb, i2 b hb]; simp only [eb, and_false, if_false]
          · simp only [hne, false_and, if_false]
        have hBlt : ∀ a b, a < n → b < w → (if a = i ∧ b = c then tms p r c A i else if a < i then stp p r c n w A a b else A a b) < p := by
          intro a b ha hb
          split
          · exact ht
          · split
            · exact stp_lt (by omega) hA a b ha hb
            · exact hA a b ha hb
        refine x_takeIn (A := A) (B := fun a b => if a = i ∧ b = c then tms p r c A i else if a < i then stp p r c n w A a b else A a b) (h := hs h' (65 + q i) (aI 21 (up fi c (nI (tms p r c A i))))) (by rw [hg_ne (by omega)]; exact e63) hp hp2 hn hw hc hr hi (by omega) hA (tms p r c A i) ht hBlt (fun h1 x H1 hS1 e1 => ?_) HB
        simp (disch := first | omega | assumption) only [r_X7_takeAway_0, r_X7_takeAway_1, r_X7_takeAway_4, r_X7_takeAway_5, r_X7_takeAway_6, r_X7_takeAway_8, r_X7_takeAway_9, r_X7_takeAway_11, r_X7_takeAway_12, r_X7_takeAway_13, r_X7_takeAway_16, r_X7_takeAway_18, r_X7_takeAway_19, r_X7_takeAway_20, r_X7_takeAway_21, r_X7_takeAway_25, r_X7_takeAway_26, r_X7_takeAway_29, r_X7_takeAway_30, r_X7_takeAway_33, r_X7_takeAway_35, r_X7_takeAway_36, r_X7_takeAway_38, r_X7_takeAway_40, r_X7_takeAway_41, r_X7_takeAway_42, r_X7_takeAway_45, r_X7_takeAway_48, r_X7_takeAway_49, r_X7_takeAway_51, r_X7_takeAway_52, r_X7_takeAway_53, r_X7_takeAway_54, r_X7_takeAway_56, r_X7_takeAway_57, r_X7_takeAway_58, r_X7_takeAway_61, r_X7_takeAway_63, r_X7_takeAway_65, r_X7_takeAway_66, r_X7_takeAway_68, r_X7_takeAway_69, r_X7_takeAway_70, r_X7_takeAway_71, r_X7_takeAway_72, r_X7_takeAway_76, r_X7_takeAway_78, r_X7_takeAway_81, r_X7_takeAway_83, r_X7_takeAway_85, r_X7_takeAway_86, r_X7_takeAway_89, r_X7_takeAway_91, r_X7_takeAway_93, r_X7_takeAway_94, r_X7_takeAway_96, r_X7_takeAway_98, r_X7_takeAway_99, r_X7_takeAway_100, r_X7_takeAway_102, r_X7_takeAway_103, r_X7_takeAway_105, r_X7_takeAway_107, r_X7_takeAway_108, r_X7_takeAway_109, r_X7_takeAway_110, r_X7_takeAway_111, r_X7_takeAway_114, r_X7_takeAway_115, r_X7_takeAway_118, r_X7_takeAway_121, r_X7_takeAway_124, r_X7_takeAway_127, gF_0, gF_1, gF_2, gF_3, gF_4, gF_5, gF_6, gF_7, gF_8, gF_9, gF_10, gF_11, gF_12, gF_13, gF_14, gF_15, gF_16, gF_17, pF_0, pF_1, pF_2, pF_3, pF_4, pF_5, pF_6, pF_7, pF_8, pF_9, pF_10, pF_11, pF_12, pF_13, pF_14, pF_15, pF_16, pF_17, gI_of, gL_of, gR_of, sI_of, sL_of, gN_of, gO_of, cl_i, cl_r, cl_l, cl_n, pu_s, pu_n, rV_s, hg_same, hg_ne, if_true, if_false, true_and, and_true, ne_eq, not_false_eq_true, not_true_eq_false, eq_self, reduceCtorEq, Nat.reduceAdd, nI_add, n_mul, n_sub, n_div, n_dec, n_dif, n_shl1, n_bit, n_eq0, n_0eq, n_eq, n_lt, n_le, n_lt0, n_ge0, n_gt0, n_le0, n_em1, n_m1e, n_m1lt0, n_m1ge0, n_m1gt0, n_m1eq0, n_m1lt, bI_eq0, bI_ne0, tb_eq0, tb_eq1]
        refine ih (by omega) h1 _ _ _ (H1.ext (fun a ha b hb => ?_)) ((hS.set (by omega)).trans hS1)
        by_cases ea : a = i
        · subst ea
          have hstp : stp p r c n w A a b = if b = c then tms p r c A a else if c < b ∧ b < w then rs p ((A a b : Int) - ((tms p r c A a * A r b : Nat) : Int)) else A a b := by
            unfold stp
            rw [if_pos ⟨hri, ha⟩]
          have hrr : ¬ r = a := by omega
          simp only [if_pos (Nat.lt_succ_self a), if_true, true_and, if_neg (Nat.lt_irrefl a), hstp]
          by_cases eb : b = c
          · subst eb
            simp only [if_neg (show ¬ (b < b ∧ b < w) by omega), if_true]
          · by_cases ec : c < b ∧ b < w
            · simp only [if_pos ec, eb, if_false, hrr, false_and, if_pos hri, stp_up (Nat.le_refl r)]
            · simp only [if_neg ec, eb, if_false]
        · by_cases e2 : a < i
          · simp only [ea, if_false, false_and, if_pos e2, if_pos (Nat.lt_succ_of_lt e2)]
          · simp only [ea, if_false, false_and, if_neg e2, if_neg (show ¬ a < i + 1 by omega)]
  exact key (r + 1) (by omega) (by omega) h _ _ _ (H.ext (fun a ha b hb => by
    by_cases e : a < r + 1
    · simp only [if_pos e]; rw [stp_up (by omega)]
    · simp only [if_neg e])) (Sm.rf _ h)
