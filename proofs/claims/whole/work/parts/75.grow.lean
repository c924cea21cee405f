/-- columns of rows that go with rows of columns -/
def CR (n : Nat) (c r : Nat → Nat) : Prop := (∀ i, i < n → c i ≤ n) ∧ ∀ i j, i < n → j < n → (c i = j ↔ r j = i)
theorem BQ.congr {n : Nat} {W : Nat → Nat → Prop} {rt : Nat → Prop} {r cam Qu : Nat → Nat} {e : Nat} {sn sn' : Nat → Prop} (H : BQ n W rt r cam Qu e sn) (h : ∀ y, y < n → (sn y ↔ sn' y)) : BQ n W rt r cam Qu e sn' := by
  obtain ⟨b1, b2, b3, b4, b5⟩ := H
  refine ⟨b1, fun y hy hs => b2 y hy ((h y hy).mpr hs), fun q hq => ?_, fun y hy hs => b4 y hy ((h y hy).mpr hs), b5⟩
  cases b3 q hq with
  | inl h => exact Or.inl h
  | inr g => obtain ⟨y, h1, h2, h3⟩ := g; exact Or.inr ⟨y, h1, (h y h1).mp h2, h3⟩
theorem BQ.cam {n : Nat} {W : Nat → Nat → Prop} {rt : Nat → Prop} {r cam cam' Qu : Nat → Nat} {e : Nat} {sn : Nat → Prop} (H : BQ n W rt r cam Qu e sn) (h : ∀ y, y < n → sn y → cam' y = cam y) : BQ n W rt r cam' Qu e sn := by
  obtain ⟨b1, b2, b3, b4, b5⟩ := H
  refine ⟨b1, fun y hy hs => ?_, fun q hq => ?_, b4, b5⟩
  · rw [h y hy hs]; exact b2 y hy hs
  · cases b3 q hq with
    | inl h => exact Or.inl h
    | inr g =>
      obtain ⟨y, h1, h2, h3, q', h4, h5⟩ := g
      exact Or.inr ⟨y, h1, h2, h3, q', h4, by rw [h y h1 h2]; exact h5⟩
/-- the class's arrays of a matching -/
def xMa (h : j_H) (n : Nat) (c r : Nat → Nat) : Prop := hI h 28 20 n (fun i => vf n (c i)) ∧ hI h 29 20 n (fun j => vf n (r j))
theorem vf_m1 {n x : Nat} (hn : n ≤ 20) : (vf n x = -1) = ¬ (x < n) := by
  unfold vf
  by_cases h : x < n
  · rw [if_pos h, n_em1 (by omega)]; exact (eq_false (fun q => q h)).symm
  · rw [if_neg h]; exact (eq_true rfl).trans (eq_true h).symm
theorem x_turnWay {d n e p0 x0 : Nat} {W : Nat → Nat → Prop} {rt : Nat → Prop} {r c cam Qu : Nat → Nat} {sn V R : Nat → Prop} {v : Int32} {f30 : Nat → Int32} {h : j_H} {Q : Option Value → j_H → Prop} (h27 : hg h 27 = some (oB 5 [.int v, .ref 28, .ref 29, .ref 30, .ref 31])) (hA : xMa h n c r) (h30 : hg h 30 = some (aI 20 f30)) (hn : n ≤ 20) (hM : Mr n W r) (hC : CR n c r) (hR : Cl n W r R) (H : BQ n W rt r cam Qu e sn) (hx0 : x0 < n) (hr0 : r x0 = n) (hp0 : p0 < e) (hc0 : cam x0 = Qu p0) (hW0 : W (Qu p0) x0) (hV : ∀ y, y < n → sn y → V y) (hV0 : V x0) (hf : ∀ y, y < n → (sn y ∨ y = x0) → f30 y = nI (cam y))
    (k : ∀ h1 c' r' i, i < n → rt i → Aug n W r R x0 r' i → CR n c' r' → (∀ y, y < n → ¬ V y → r' y = r y) → xMa h1 n c' r' → Sm (fun b => b = 28 ∨ b = 29) h h1 → Q none h1) : WP d mX5_turnWay 0 [some (.ref 27), some (.int (nI x0)), some (.int (nI n)), none, none, none, none] [] h Q := by
  have hok := H.1
  have hle := hok.le
  simp (disch := first | omega | assumption) only [r_X5_turnWay_0, r_X5_turnWay_1, r_X5_turnWay_2, r_X5_turnWay_3, r_X5_turnWay_7, r_X5_turnWay_8, r_X5_turnWay_11, r_X5_turnWay_12, r_X5_turnWay_13, r_X5_turnWay_16, r_X5_turnWay_17, r_X5_turnWay_20, r_X5_turnWay_21, r_X5_turnWay_22, r_X5_turnWay_24, r_X5_turnWay_25, r_X5_turnWay_28, r_X5_turnWay_30, r_X5_turnWay_31, r_X5_turnWay_33, r_X5_turnWay_34, r_X5_turnWay_37, r_X5_turnWay_39, r_X5_turnWay_40, r_X5_turnWay_41, r_X5_turnWay_42, r_X5_turnWay_45, r_X5_turnWay_46, r_X5_turnWay_48, r_X5_turnWay_49, r_X5_turnWay_51, r_X5_turnWay_52, r_X5_turnWay_55, r_X5_turnWay_58, gF_0, gF_1, gF_2, gF_3, gF_4, gF_5, gF_6, gF_7, gF_8, gF_9, gF_10, gF_11, gF_12, gF_13, gF_14, gF_15, gF_16, gF_17, pF_0, pF_1, pF_2, pF_3, pF_4, pF_5, pF_6, pF_7, pF_8, pF_9, pF_10, pF_11, pF_12, pF_13, pF_14, pF_15, pF_16, pF_17, gI_of, gL_of, gR_of, sI_of, sL_of, gN_of, gO_of, cl_i, cl_r, cl_l, cl_n, pu_s, pu_n, rV_s, hg_same, hg_ne, if_true, if_false, true_and, and_true, ne_eq, not_false_eq_true, not_true_eq_false, eq_self, reduceCtorEq, Nat.reduceAdd, nI_add, n_mul, n_sub, n_div, n_dec, n_dif, n_shl1, n_bit, n_eq0, n_0eq, n_eq, n_lt, n_le, n_lt0, n_ge0, n_gt0, n_le0, n_em1, n_m1e, n_m1lt0, n_m1ge0, n_m1gt0, n_m1eq0, n_m1lt, bI_eq0, bI_ne0, tb_eq0, tb_eq1, h27]
  have key : ∀ p, ∀ st rs_ c_ x h' x5 x6, Pth n W r Qu R x0 rs_ x p → p < e → (sn x ∨ x = x0) → cam x = Qu p → V x → CR n c_ (up rs_ x n) → st + p < n → (∀ y, y < n → ¬ V y → rs_ y = r y) → xMa h' n c_ rs_ → Sm (fun b => b = 28 ∨ b = 29) h h' → WP d mX5_turnWay 5 [some (.ref 27), some (.int (nI x0)), some (.int (nI n)), some (.int (nI x)), some (.int (nI st)), x5, x6] [] h' Q := by
    intro p
    induction p using Nat.strongRecOn with
    | _ p ih =>
      intro st rs_ c_ x h' x5 x6 P hpe hsx hcx hVx CRx hst hkeep A' hS
      have hx := P.1
      have hQp := (hok.1 p hpe).1
      obtain ⟨⟨f28, g28, w28⟩, ⟨f29, g29, w29⟩⟩ := A'
      have e27 := (hS.at (b := 27) (by omega)).trans h27
      have e30 := (hS.at (b := 30) (by omega)).trans h30
      have fx : f30 x = nI (Qu p) := by rw [hf x hx hsx, hcx]
      have fc : f28 (Qu p) = vf n (c_ (Qu p)) := w28 (Qu p) hQp
      have w28' : ∀ i, i < n → up f28 (Qu p) (nI x) i = vf n (up c_ (Qu p) x i) := fun i hi => by
        by_cases e1 : i = Qu p
        · rw [e1, up_same, up_same, vf_of hx]
        · rw [up_ne e1, up_ne e1]; exact w28 i hi
      have w29' : ∀ j, j < n → up f29 x (nI (Qu p)) j = vf n (up rs_ x (Qu p) j) := fun j hj => by
        by_cases e1 : j = x
        · rw [e1, up_same, up_same, vf_of hQp]
        · rw [up_ne e1, up_ne e1]; exact w29 j hj
      have keep' : ∀ y, y < n → ¬ V y → up rs_ x (Qu p) y = r y := fun y hy hv => by
        have : y ≠ x := fun e1 => by subst e1; exact hv hVx
        rw [up_ne this]; exact hkeep y hy hv
      rw [r_X5_turnWay_5]
      simp (disch := first | omega | assumption) only [r_X5_turnWay_0, r_X5_turnWay_1, r_X5_turnWay_2, r_X5_turnWay_3, r_X5_turnWay_7, r_X5_turnWay_8, r_X5_turnWay_11, r_X5_turnWay_12, r_X5_turnWay_13, r_X5_turnWay_16, r_X5_turnWay_17, r_X5_turnWay_20, r_X5_turnWay_21, r_X5_turnWay_22, r_X5_turnWay_24, r_X5_turnWay_25, r_X5_turnWay_28, r_X5_turnWay_30, r_X5_turnWay_31, r_X5_turnWay_33, r_X5_turnWay_34, r_X5_turnWay_37, r_X5_turnWay_39, r_X5_turnWay_40, r_X5_turnWay_41, r_X5_turnWay_42, r_X5_turnWay_45, r_X5_turnWay_46, r_X5_turnWay_48, r_X5_turnWay_49, r_X5_turnWay_51, r_X5_turnWay_52, r_X5_turnWay_55, r_X5_turnWay_58, gF_0, gF_1, gF_2, gF_3, gF_4, gF_5, gF_6, gF_7, gF_8, gF_9, gF_10, gF_11, gF_12, gF_13, gF_14, gF_15, gF_16, gF_17, pF_0, pF_1, pF_2, pF_3, pF_4, pF_5, pF_6, pF_7, pF_8, pF_9, pF_10, pF_11, pF_12, pF_13, pF_14, pF_15, pF_16, pF_17, gI_of, gL_of, gR_of, sI_of, sL_of, gN_of, gO_of, cl_i, cl_r, cl_l, cl_n, pu_s, pu_n, rV_s, hg_same, hg_ne, if_true, if_false, true_and, and_true, ne_eq, not_false_eq_true, not_true_eq_false, eq_self, reduceCtorEq, Nat.reduceAdd, nI_add, n_mul, n_sub, n_div, n_dec, n_dif, n_shl1, n_bit, n_eq0, n_0eq, n_eq, n_lt, n_le, n_lt0, n_ge0, n_gt0, n_le0, n_em1, n_m1e, n_m1lt0, n_m1ge0, n_m1gt0, n_m1eq0, n_m1lt, bI_eq0, bI_ne0, tb_eq0, tb_eq1, show ¬ n ≤ st by omega, e27, e30, fx, g28, fc, g29]
      cases H.2.2.1 p hpe with
      | inl hrt =>
        have hno : ∀ j, j < n → j ≠ x → rs_ j ≠ Qu p := fun j hj hjx he => H.2.2.2.2 _ hrt j hj (P.2.2.2.2.2.2.2.2 p (Nat.le_refl p) j hj hjx he)
        have hcn : c_ (Qu p) = n := by
          have h1 := CRx.1 (Qu p) hQp
          by_cases h2 : c_ (Qu p) < n
          · have h3 := (CRx.2 (Qu p) _ hQp h2).mp rfl
            by_cases e1 : c_ (Qu p) = x
            · rw [e1, up_same] at h3; omega
            · rw [up_ne e1] at h3; exact absurd h3 (hno _ h2 e1)
          · omega
        have CRf : CR n (up c_ (Qu p) x) (up rs_ x (Qu p)) := by
          refine ⟨fun i hi => ?_, fun i j hi hj => ?_⟩
          · by_cases e1 : i = Qu p
            · rw [e1, up_same]; omega
            · rw [up_ne e1]; exact CRx.1 i hi
          · have h1 := CRx.2 i j hi hj
            by_cases e1 : i = Qu p
            · subst e1
              rw [up_same]
              by_cases e2 : j = x
              · subst e2; rw [up_same]; exact ⟨fun _ => rfl, fun _ => rfl⟩
              · rw [up_ne e2]; exact ⟨fun q => absurd q.symm e2, fun q => absurd q (hno j hj e2)⟩
            · rw [up_ne e1]
              by_cases e2 : j = x
              · subst e2
                rw [up_same] at h1 ⊢
                exact ⟨fun q => by have := h1.mp q; omega, fun q => absurd q.symm e1⟩
              · rw [up_ne e2] at h1 ⊢; exact h1
        have fin : Q none (hs (hs h' 28 (aI 20 (up f28 (Qu p) (nI x)))) 29 (aI 20 (up f29 x (nI (Qu p))))) := k _ _ _ (Qu p) hQp hrt (Pth_end P hQp hno) CRf keep' ⟨⟨_, (hg_ne (by omega)).trans (hg_same _ _ _), w28'⟩, ⟨_, hg_same _ _ _, w29'⟩⟩ ((hS.set (Or.inl rfl)).set (Or.inr rfl))
        rw [hcn, vf_no (Nat.lt_irrefl n), r_X5_turnWay_5]
        by_cases h1 : n ≤ st + 1
        · simp (disch := first | omega | assumption) only [r_X5_turnWay_0, r_X5_turnWay_1, r_X5_turnWay_2, r_X5_turnWay_3, r_X5_turnWay_7, r_X5_turnWay_8, r_X5_turnWay_11, r_X5_turnWay_12, r_X5_turnWay_13, r_X5_turnWay_16, r_X5_turnWay_17, r_X5_turnWay_20, r_X5_turnWay_21, r_X5_turnWay_22, r_X5_turnWay_24, r_X5_turnWay_25, r_X5_turnWay_28, r_X5_turnWay_30, r_X5_turnWay_31, r_X5_turnWay_33, r_X5_turnWay_34, r_X5_turnWay_37, r_X5_turnWay_39, r_X5_turnWay_40, r_X5_turnWay_41, r_X5_turnWay_42, r_X5_turnWay_45, r_X5_turnWay_46, r_X5_turnWay_48, r_X5_turnWay_49, r_X5_turnWay_51, r_X5_turnWay_52, r_X5_turnWay_55, r_X5_turnWay_58, gF_0, gF_1, gF_2, gF_3, gF_4, gF_5, gF_6, gF_7, gF_8, gF_9, gF_10, gF_11, gF_12, gF_13, gF_14, gF_15, gF_16, gF_17, pF_0, pF_1, pF_2, pF_3, pF_4, pF_5, pF_6, pF_7, pF_8, pF_9, pF_10, pF_11, pF_12, pF_13, pF_14, pF_15, pF_16, pF_17, gI_of, gL_of, gR_of, sI_of, sL_of, gN_of, gO_of, cl_i, cl_r, cl_l, cl_n, pu_s, pu_n, rV_s, hg_same, hg_ne, if_true, if_false, true_and, and_true, ne_eq, not_false_eq_true, not_true_eq_false, eq_self, reduceCtorEq, Nat.reduceAdd, nI_add, n_mul, n_sub, n_div, n_dec, n_dif, n_shl1, n_bit, n_eq0, n_0eq, n_eq, n_lt, n_le, n_lt0, n_ge0, n_gt0, n_le0, n_em1, n_m1e, n_m1lt0, n_m1ge0, n_m1gt0, n_m1eq0, n_m1lt, bI_eq0, bI_ne0, tb_eq0, tb_eq1, h1]
          exact fin
        · simp (disch := first | omega | assumption) only [r_X5_turnWay_0, r_X5_turnWay_1, r_X5_turnWay_2, r_X5_turnWay_3, r_X5_turnWay_7, r_X5_turnWay_8, r_X5_turnWay_11, r_X5_turnWay_12, r_X5_turnWay_13, r_X5_turnWay_16, r_X5_turnWay_17, r_X5_turnWay_20, r_X5_turnWay_21, r_X5_turnWay_22, r_X5_turnWay_24, r_X5_turnWay_25, r_X5_turnWay_28, r_X5_turnWay_30, r_X5_turnWay_31, r_X5_turnWay_33, r_X5_turnWay_34, r_X5_turnWay_37, r_X5_turnWay_39, r_X5_turnWay_40, r_X5_turnWay_41, r_X5_turnWay_42, r_X5_turnWay_45, r_X5_turnWay_46, r_X5_turnWay_48, r_X5_turnWay_49, r_X5_turnWay_51, r_X5_turnWay_52, r_X5_turnWay_55, r_X5_turnWay_58, gF_0, gF_1, gF_2, gF_3, gF_4, gF_5, gF_6, gF_7, gF_8, gF_9, gF_10, gF_11, gF_12, gF_13, gF_14, gF_15, gF_16, gF_17, pF_0, pF_1, pF_2, pF_3, pF_4, pF_5, pF_6, pF_7, pF_8, pF_9, pF_10, pF_11, pF_12, pF_13, pF_14, pF_15, pF_16, pF_17, gI_of, gL_of, gR_of, sI_of, sL_of, gN_of, gO_of, cl_i, cl_r, cl_l, cl_n, pu_s, pu_n, rV_s, hg_same, hg_ne, if_true, if_false, true_and, and_true, ne_eq, not_false_eq_true, not_true_eq_false, eq_self, reduceCtorEq, Nat.reduceAdd, nI_add, n_mul, n_sub, n_div, n_dec, n_dif, n_shl1, n_bit, n_eq0, n_0eq, n_eq, n_lt, n_le, n_lt0, n_ge0, n_gt0, n_le0, n_em1, n_m1e, n_m1lt0, n_m1ge0, n_m1gt0, n_m1eq0, n_m1lt, bI_eq0, bI_ne0, tb_eq0, tb_eq1, h1]
          exact fin
      | inr hy =>
        obtain ⟨y, y1, y2, y3, p', y4, y5⟩ := hy
        obtain ⟨q, q1, q2, q3⟩ := H.2.1 y y1 y2
        have hWy : W (Qu p') y := by rw [← y5, q2]; exact q3
        obtain ⟨P', s1, s2⟩ := Pth_step P hR hok hpe y4 y1 y3 hWy
        have hcy : c_ (Qu p) = y := (CRx.2 (Qu p) y hQp y1).mpr (by rw [up_ne s2]; exact s1)
        have CRy : CR n (up c_ (Qu p) x) (up (up rs_ x (Qu p)) y n) := by
          refine ⟨fun i hi => ?_, fun i j hi hj => ?_⟩
          · by_cases e1 : i = Qu p
            · rw [e1, up_same]; omega
            · rw [up_ne e1]; exact CRx.1 i hi
          · have h1 := CRx.2 i j hi hj
            by_cases e1 : i = Qu p
            · subst e1
              rw [up_same]
              by_cases e2 : j = y
              · subst e2; rw [up_same]; exact ⟨fun q => absurd q.symm s2, fun q => by omega⟩
              · rw [up_ne e2]
                by_cases e3 : j = x
                · subst e3; rw [up_same]; exact ⟨fun _ => rfl, fun _ => rfl⟩
                · rw [up_ne e3] at h1 ⊢
                  exact ⟨fun q => absurd q.symm e3, fun q => absurd (h1.mpr q) (by omega)⟩
            · rw [up_ne e1]
              by_cases e2 : j = y
              · subst e2
                rw [up_same]
                rw [up_ne s2] at h1
                exact ⟨fun q => by have := h1.mp q; omega, fun q => by omega⟩
              · rw [up_ne e2]
                by_cases e3 : j = x
                · subst e3
                  rw [up_same] at h1 ⊢
                  exact ⟨fun q => by have := h1.mp q; omega, fun q => absurd q.symm e1⟩
                · rw [up_ne e3] at h1 ⊢; exact h1
        rw [hcy, vf_of y1]
        exact ih p' y4 (st + 1) _ _ y _ _ _ P' (by omega) (Or.inl y2) y5 (hV y y1 y2) CRy (by omega) keep' ⟨⟨_, (hg_ne (by omega)).trans (hg_same _ _ _), w28'⟩, ⟨_, hg_same _ _ _, w29'⟩⟩ ((hS.set (Or.inl rfl)).set (Or.inr rfl))
  have e0 : up r x0 n = r := by
    funext j
    by_cases e1 : j = x0
    · rw [e1, up_same, hr0]
    · rw [up_ne e1]
  exact key p0 0 r c x0 h _ _ (Pth_start hM hR hx0 hr0 (fun q hq => (hok.1 q (by omega)).1) hW0) hp0 (Or.inr rfl) hc0 hV0 (by rw [e0]; exact hC) (by omega) (fun _ _ _ => rfl) hA (Sm.rf _ h)
/-- which pairs may be: rows from a on have the columns that are not barred -/
def Wc (C : Nat → Nat → Int32) (a U : Nat) (i y : Nat) : Prop := (C i y != 0) = true ∧ (U.testBit y = false ↔ a ≤ i)
theorem x_grow {d n a U : Nat} {C : Nat → Nat → Int32} {c r : Nat → Nat} {v : Int32} {h : j_H} {Q : Option Value → j_H → Prop} (h27 : hg h 27 = some (oB 5 [.int v, .ref 28, .ref 29, .ref 30, .ref 31])) (hT : xT h n C) (hA : xMa h n c r) (h30 : isI h 30 20) (h31 : isI h 31 20) (hn : n ≤ 20) (hU : U < 2 ^ 20) (ha : a ≤ n) (hM : Mr n (Wc C a U) r) (hC : CR n c r)
    (kt : ∀ h1 c' r' i x0, i < n → a ≤ i → x0 < n → r x0 = n → U.testBit x0 = false → Aug n (Wc C a U) r (fun _ => False) x0 r' i → CR n c' r' → (∀ y, y < n → U.testBit y = true → r' y = r y) → xMa h1 n c' r' → isI h1 30 20 → isI h1 31 20 → Sm (fun b => 28 ≤ b ∧ b < 32) h h1 → Q (some (.int (nI 1))) h1)
    (kf : ∀ h1, isMax n (fun i j => C i j != 0) a U (sm (fun j => bn (U.testBit j = false ∧ r j < n)) n) → isI h1 30 20 → isI h1 31 20 → Sm (fun b => b = 30 ∨ b = 31) h h1 → Q (some (.int (nI 0))) h1) : WP (d + 1) mX5_grow 0 [some (.ref 27), some (.ref 2), some (.int (nI a)), some (.int (nI U)), none, none, none, none, none, none] [] h Q := by
  have x2 := hT.1
  obtain ⟨-, -, -, ⟨f25, h25, w25⟩, -⟩ := id hT
  obtain ⟨⟨f28, g28, w28⟩, ⟨f29, g29, w29⟩⟩ := id hA
  obtain ⟨f30, g30⟩ := h30
  obtain ⟨f31, g31⟩ := h31
  have hCn : ∀ x j, x < n → j < n → c x = n → r j ≠ x := fun x j hx hj h1 h2 => by have := (hC.2 x j hx hj).mpr h2; omega
  simp (disch := first | omega | assumption) only [r_X5_grow_0, r_X5_grow_1, r_X5_grow_3, r_X5_grow_4, r_X5_grow_6, r_X5_grow_7, r_X5_grow_11, r_X5_grow_12, r_X5_grow_15, r_X5_grow_18, r_X5_grow_19, r_X5_grow_22, r_X5_grow_24, r_X5_grow_25, r_X5_grow_26, r_X5_grow_29, r_X5_grow_30, r_X5_grow_33, r_X5_grow_35, r_X5_grow_38, r_X5_grow_40, r_X5_grow_41, r_X5_grow_44, r_X5_grow_47, r_X5_grow_48, r_X5_grow_52, r_X5_grow_54, r_X5_grow_57, r_X5_grow_58, r_X5_grow_61, r_X5_grow_63, r_X5_grow_64, r_X5_grow_66, r_X5_grow_67, r_X5_grow_70, r_X5_grow_72, r_X5_grow_73, r_X5_grow_75, r_X5_grow_76, r_X5_grow_77, r_X5_grow_78, r_X5_grow_80, r_X5_grow_82, r_X5_grow_84, r_X5_grow_85, r_X5_grow_87, r_X5_grow_88, r_X5_grow_92, r_X5_grow_93, r_X5_grow_96, r_X5_grow_99, r_X5_grow_101, r_X5_grow_104, r_X5_grow_106, r_X5_grow_108, r_X5_grow_111, r_X5_grow_114, r_X5_grow_117, r_X5_grow_118, r_X5_grow_121, r_X5_grow_123, r_X5_grow_125, r_X5_grow_126, r_X5_grow_127, r_X5_grow_130, r_X5_grow_132, r_X5_grow_133, r_X5_grow_134, r_X5_grow_137, r_X5_grow_138, r_X5_grow_140, r_X5_grow_141, r_X5_grow_144, r_X5_grow_147, r_X5_grow_148, r_X5_grow_148_0, r_X5_grow_148_1, r_X5_grow_149, r_X5_grow_151, r_X5_grow_153, r_X5_grow_156, r_X5_grow_157, r_X5_grow_160, r_X5_grow_162, r_X5_grow_165, r_X5_grow_166, r_X5_grow_169, r_X5_grow_171, r_X5_grow_172, r_X5_grow_173, r_X5_grow_176, r_X5_grow_179, r_X5_grow_182, r_X5_grow_185, r_X5_grow_186, r_X5_grow_186_0, r_X5_grow_186_1, gF_0, gF_1, gF_2, gF_3, gF_4, gF_5, gF_6, gF_7, gF_8, gF_9, gF_10, gF_11, gF_12, gF_13, gF_14, gF_15, gF_16, gF_17, pF_0, pF_1, pF_2, pF_3, pF_4, pF_5, pF_6, pF_7, pF_8, pF_9, pF_10, pF_11, pF_12, pF_13, pF_14, pF_15, pF_16, pF_17, gI_of, gL_of, gR_of, sI_of, sL_of, gN_of, gO_of, cl_i, cl_r, cl_l, cl_n, pu_s, pu_n, rV_s, hg_same, hg_ne, if_true, if_false, true_and, and_true, ne_eq, not_false_eq_true, not_true_eq_false, eq_self, reduceCtorEq, Nat.reduceAdd, nI_add, n_mul, n_sub, n_div, n_dec, n_dif, n_shl1, n_bit, n_eq0, n_0eq, n_eq, n_lt, n_le, n_lt0, n_ge0, n_gt0, n_le0, n_em1, n_m1e, n_m1lt0, n_m1ge0, n_m1gt0, n_m1eq0, n_m1lt, bI_eq0, bI_ne0, tb_eq0, tb_eq1, x2, h27]
  -- the search itself
  have main : ∀ hd, hd ≤ n → ∀ h' x7 x8 x9 cam Qu e Sn f30 f31, Sm (fun b => b = 30 ∨ b = 31) h h' → hg h' 30 = some (aI 20 f30) → hg h' 31 = some (aI 20 f31) → BQ n (Wc C a U) (fun x => a ≤ x ∧ x < n ∧ c x = n) r cam Qu e (fun y => Sn.testBit y = true ∧ U.testBit y = false) → (∀ y, U.testBit y = true → Sn.testBit y = true) → Sn < 2 ^ 20 → (∀ q, q < hd → q < e → ∀ y, y < n → (C (Qu q) y != 0) = true → Sn.testBit y = true) → (∀ x, a ≤ x → x < n → c x = n → ∃ q, q < e ∧ Qu q = x) → (∀ q, q < e → a ≤ Qu q) → (∀ y, y < n → Sn.testBit y = true → U.testBit y = false → f30 y = nI (cam y)) → (∀ q, q < e → f31 q = nI (Qu q)) → WP (d + 1) mX5_grow 50 [some (.ref 27), some (.ref 2), some (.int (nI a)), some (.int (nI U)), some (.int (nI Sn)), some (.int (nI e)), some (.int (nI hd)), x7, x8, x9] [] h' Q := by
    have out : ∀ hd h' x7 x8 x9 cam Qu e Sn f30 f31, e ≤ hd → hd ≤ n → Sm (fun b => b = 30 ∨ b = 31) h h' → hg h' 30 = some (aI 20 f30) → hg h' 31 = some (aI 20 f31) → BQ n (Wc C a U) (fun x => a ≤ x ∧ x < n ∧ c x = n) r cam Qu e (fun y => Sn.testBit y = true ∧ U.testBit y = false) → (∀ q, q < hd → q < e → ∀ y, y < n → (C (Qu q) y != 0) = true → Sn.testBit y = true) → (∀ x, a ≤ x → x < n → c x = n → ∃ q, q < e ∧ Qu q = x) → WP (d + 1) mX5_grow 50 [some (.ref 27), some (.ref 2), some (.int (nI a)), some (.int (nI U)), some (.int (nI Sn)), some (.int (nI e)), some (.int (nI hd)), x7, x8, x9] [] h' Q := by
      intro hd h' x7 x8 x9 cam Qu e Sn f30 f31 heh hdn hS q30 q31 B b6 b7
      rw [r_X5_grow_50]
      simp (disch := first | omega | assumption) only [r_X5_grow_0, r_X5_grow_1, r_X5_grow_3, r_X5_grow_4, r_X5_grow_6, r_X5_grow_7, r_X5_grow_11, r_X5_grow_12, r_X5_grow_15, r_X5_grow_18, r_X5_grow_19, r_X5_grow_22, r_X5_grow_24, r_X5_grow_25, r_X5_grow_26, r_X5_grow_29, r_X5_grow_30, r_X5_grow_33, r_X5_grow_35, r_X5_grow_38, r_X5_grow_40, r_X5_grow_41, r_X5_grow_44, r_X5_grow_47, r_X5_grow_48, r_X5_grow_52, r_X5_grow_54, r_X5_grow_57, r_X5_grow_58, r_X5_grow_61, r_X5_grow_63, r_X5_grow_64, r_X5_grow_66, r_X5_grow_67, r_X5_grow_70, r_X5_grow_72, r_X5_grow_73, r_X5_grow_75, r_X5_grow_76, r_X5_grow_77, r_X5_grow_78, r_X5_grow_80, r_X5_grow_82, r_X5_grow_84, r_X5_grow_85, r_X5_grow_87, r_X5_grow_88, r_X5_grow_92, r_X5_grow_93, r_X5_grow_96, r_X5_grow_99, r_X5_grow_101, r_X5_grow_104, r_X5_grow_106, r_X5_grow_108, r_X5_grow_111, r_X5_grow_114, r_X5_grow_117, r_X5_grow_118, r_X5_grow_121, r_X5_grow_123, r_X5_grow_125, r_X5_grow_126, r_X5_grow_127, r_X5_grow_130, r_X5_grow_132, r_X5_grow_133, r_X5_grow_134, r_X5_grow_137, r_X5_grow_138, r_X5_grow_140, r_X5_grow_141, r_X5_grow_144, r_X5_grow_147, r_X5_grow_148, r_X5_grow_148_0, r_X5_grow_148_1, r_X5_grow_149, r_X5_grow_151, r_X5_grow_153, r_X5_grow_156, r_X5_grow_157, r_X5_grow_160, r_X5_grow_162, r_X5_grow_165, r_X5_grow_166, r_X5_grow_169, r_X5_grow_171, r_X5_grow_172, r_X5_grow_173, r_X5_grow_176, r_X5_grow_179, r_X5_grow_182, r_X5_grow_185, r_X5_grow_186, r_X5_grow_186_0, r_X5_grow_186_1, gF_0, gF_1, gF_2, gF_3, gF_4, gF_5, gF_6, gF_7, gF_8, gF_9, gF_10, gF_11, gF_12, gF_13, gF_14, gF_15, gF_16, gF_17, pF_0, pF_1, pF_2, pF_3, pF_4, pF_5, pF_6, pF_7, pF_8, pF_9, pF_10, pF_11, pF_12, pF_13, pF_14, pF_15, pF_16, pF_17, gI_of, gL_of, gR_of, sI_of, sL_of, gN_of, gO_of, cl_i, cl_r, cl_l, cl_n, pu_s, pu_n, rV_s, hg_same, hg_ne, if_true, if_false, true_and, and_true, ne_eq, not_false_eq_true, not_true_eq_false, eq_self, reduceCtorEq, Nat.reduceAdd, nI_add, n_mul, n_sub, n_div, n_dec, n_dif, n_shl1, n_bit, n_eq0, n_0eq, n_eq, n_lt, n_le, n_lt0, n_ge0, n_gt0, n_le0, n_em1, n_m1e, n_m1lt0, n_m1ge0, n_m1gt0, n_m1eq0, n_m1lt, bI_eq0, bI_ne0, tb_eq0, tb_eq1, heh]
      refine kf h' (max_cert (R := fun u => ∃ q, q < e ∧ Qu q = u) (fun j hj h1 h2 => ?_) hM.2 (fun u hu1 hu2 hu3 y hy hE hUy => ?_) (fun u hu1 hu2 hu3 => ?_)) ⟨f30, q30⟩ ⟨f31, q31⟩ hS
      · have := (hM.1 j hj).2 h1
        exact ⟨this.2.mp h2, this.1⟩
      · obtain ⟨q, q1, q2⟩ := hu3
        have hs := b6 q (by omega) q1 y hy (by rw [q2]; exact hE)
        exact B.2.2.2.1 y hy ⟨hs, hUy⟩
      · refine b7 u hu1 hu2 ?_
        have h1 := hC.1 u hu2
        by_cases h2 : c u < n
        · have h3 := (hC.2 u _ hu2 h2).mp rfl
          have h4 := (hM.1 _ h2).2 (by omega)
          rw [h3] at h4
          exact absurd h3 (hu3 _ h2 (h4.2.mpr hu1))
        · omega
    refine lup (P := fun hd => ∀ h' x7 x8 x9 cam Qu e Sn f30 f31, Sm (fun b => b = 30 ∨ b = 31) h h' → hg h' 30 = some (aI 20 f30) → hg h' 31 = some (aI 20 f31) → BQ n (Wc C a U) (fun x => a ≤ x ∧ x < n ∧ c x = n) r cam Qu e (fun y => Sn.testBit y = true ∧ U.testBit y = false) → (∀ y, U.testBit y = true → Sn.testBit y = true) → Sn < 2 ^ 20 → (∀ q, q < hd → q < e → ∀ y, y < n → (C (Qu q) y != 0) = true → Sn.testBit y = true) → (∀ x, a ≤ x → x < n → c x = n → ∃ q, q < e ∧ Qu q = x) → (∀ q, q < e → a ≤ Qu q) → (∀ y, y < n → Sn.testBit y = true → U.testBit y = false → f30 y = nI (cam y)) → (∀ q, q < e → f31 q = nI (Qu q)) → WP (d + 1) mX5_grow 50 [some (.ref 27), some (.ref 2), some (.int (nI a)), some (.int (nI U)), some (.int (nI Sn)), some (.int (nI e)), some (.int (nI hd)), x7, x8, x9] [] h' Q) ?_ ?_
    · intro h' x7 x8 x9 cam Qu e Sn f30 f31 hS q30 q31 B b0 b00 b6 b7 b8 w30 w31
      exact out n h' x7 x8 x9 cam Qu e Sn f30 f31 B.1.le (Nat.le_refl n) hS q30 q31 B b6 b7
    · intro hd hdn ih h' x7 x8 x9 cam Qu e Sn f30 f31 hS q30 q31 B b0 b00 b6 b7 b8 w30 w31
      by_cases heh : e ≤ hd
      · exact out hd h' x7 x8 x9 cam Qu e Sn f30 f31 heh (by omega) hS q30 q31 B b6 b7
      · have hen := B.1.le
        have y27 := (hS.at (b := 27) (by omega)).trans h27
        have y2 := (hS.at (b := 2) (by omega)).trans x2
        have y25 := (hS.at (b := 25) (by omega)).trans h25
        have eQ : f31 hd = nI (Qu hd) := w31 hd (by omega)
        have hQn := (B.1.1 hd (by omega)).1
        have eac : f25 (Qu hd) = nI (ac C (Qu hd)) := w25 _ (by omega)
        have hal := ac_lt C (Qu hd)
        have hfl : df (ac C (Qu hd)) Sn < 2 ^ 20 := Nat.lt_of_le_of_lt (df_le _ _) hal
        have hsl : Sn ||| df (ac C (Qu hd)) Sn < 2 ^ 20 := or_lt b00 hfl
        have hft : ∀ y, (df (ac C (Qu hd)) Sn).testBit y = true ↔ y < 20 ∧ (C (Qu hd) y != 0) = true ∧ Sn.testBit y = false := fun y => by
          rw [df_tb hal, ac_tb, Bool.and_eq_true, decide_eq_true_iff]
          exact ⟨fun q => ⟨q.1.1, q.1.2, q.2⟩, fun q => ⟨⟨q.1, q.2.1⟩, q.2.2⟩⟩
        rw [r_X5_grow_50]
        simp (disch := first | omega | assumption) only [r_X5_grow_0, r_X5_grow_1, r_X5_grow_3, r_X5_grow_4, r_X5_grow_6, r_X5_grow_7, r_X5_grow_11, r_X5_grow_12, r_X5_grow_15, r_X5_grow_18, r_X5_grow_19, r_X5_grow_22, r_X5_grow_24, r_X5_grow_25, r_X5_grow_26, r_X5_grow_29, r_X5_grow_30, r_X5_grow_33, r_X5_grow_35, r_X5_grow_38, r_X5_grow_40, r_X5_grow_41, r_X5_grow_44, r_X5_grow_47, r_X5_grow_48, r_X5_grow_52, r_X5_grow_54, r_X5_grow_57, r_X5_grow_58, r_X5_grow_61, r_X5_grow_63, r_X5_grow_64, r_X5_grow_66, r_X5_grow_67, r_X5_grow_70, r_X5_grow_72, r_X5_grow_73, r_X5_grow_75, r_X5_grow_76, r_X5_grow_77, r_X5_grow_78, r_X5_grow_80, r_X5_grow_82, r_X5_grow_84, r_X5_grow_85, r_X5_grow_87, r_X5_grow_88, r_X5_grow_92, r_X5_grow_93, r_X5_grow_96, r_X5_grow_99, r_X5_grow_101, r_X5_grow_104, r_X5_grow_106, r_X5_grow_108, r_X5_grow_111, r_X5_grow_114, r_X5_grow_117, r_X5_grow_118, r_X5_grow_121, r_X5_grow_123, r_X5_grow_125, r_X5_grow_126, r_X5_grow_127, r_X5_grow_130, r_X5_grow_132, r_X5_grow_133, r_X5_grow_134, r_X5_grow_137, r_X5_grow_138, r_X5_grow_140, r_X5_grow_141, r_X5_grow_144, r_X5_grow_147, r_X5_grow_148, r_X5_grow_148_0, r_X5_grow_148_1, r_X5_grow_149, r_X5_grow_151, r_X5_grow_153, r_X5_grow_156, r_X5_grow_157, r_X5_grow_160, r_X5_grow_162, r_X5_grow_165, r_X5_grow_166, r_X5_grow_169, r_X5_grow_171, r_X5_grow_172, r_X5_grow_173, r_X5_grow_176, r_X5_grow_179, r_X5_grow_182, r_X5_grow_185, r_X5_grow_186, r_X5_grow_186_0, r_X5_grow_186_1, gF_0, gF_1, gF_2, gF_3, gF_4, gF_5, gF_6, gF_7, gF_8, gF_9, gF_10, gF_11, gF_12, gF_13, gF_14, gF_15, gF_16, gF_17, pF_0, pF_1, pF_2, pF_3, pF_4, pF_5, pF_6, pF_7, pF_8, pF_9, pF_10, pF_11, pF_12, pF_13, pF_14, pF_15, pF_16, pF_17, gI_of, gL_of, gR_of, sI_of, sL_of, gN_of, gO_of, cl_i, cl_r, cl_l, cl_n, pu_s, pu_n, rV_s, hg_same, hg_ne, if_true, if_false, true_and, and_true, ne_eq, not_false_eq_true, not_true_eq_false, eq_self, reduceCtorEq, Nat.reduceAdd, nI_add, n_mul, n_sub, n_div, n_dec, n_dif, n_shl1, n_bit, n_eq0, n_0eq, n_eq, n_lt, n_le, n_lt0, n_ge0, n_gt0, n_le0, n_em1, n_m1e, n_m1lt0, n_m1ge0, n_m1gt0, n_m1eq0, n_m1lt, bI_eq0, bI_ne0, tb_eq0, tb_eq1, heh, y27, q31, eQ, y2, y25, eac, n_or]
        generalize hF : df (ac C (Qu hd)) Sn = F at *
        have key : ∀ kc, kc ≤ n → ∀ h2 cam Qu' e' f30 f31, Sm (fun b => b = 30 ∨ b = 31) h h2 → hg h2 30 = some (aI 20 f30) → hg h2 31 = some (aI 20 f31) → BQ n (Wc C a U) (fun x => a ≤ x ∧ x < n ∧ c x = n) r cam Qu' e' (fun y => (Sn.testBit y = true ∧ U.testBit y = false) ∨ (F.testBit y = true ∧ y < kc)) → e ≤ e' → (∀ q, q < e → Qu' q = Qu q) → (∀ q, q < e' → a ≤ Qu' q) → (∀ y, y < n → ((Sn.testBit y = true ∧ U.testBit y = false) ∨ (F.testBit y = true ∧ y < kc)) → f30 y = nI (cam y)) → (∀ q, q < e' → f31 q = nI (Qu' q)) → WP (d + 1) mX5_grow 90 [some (.ref 27), some (.ref 2), some (.int (nI a)), some (.int (nI U)), some (.int (nI (Sn ||| F))), some (.int (nI e')), some (.int (nI hd)), some (.int (nI (Qu hd))), some (.int (nI F)), some (.int (nI kc))] [] h2 Q := by
          have done : ∀ kc h2 cam Qu' e' f30 f31, (n ≤ kc ∨ F = 0) → Sm (fun b => b = 30 ∨ b = 31) h h2 → hg h2 30 = some (aI 20 f30) → hg h2 31 = some (aI 20 f31) → BQ n (Wc C a U) (fun x => a ≤ x ∧ x < n ∧ c x = n) r cam Qu' e' (fun y => (Sn.testBit y = true ∧ U.testBit y = false) ∨ (F.testBit y = true ∧ y < kc)) → e ≤ e' → (∀ q, q < e → Qu' q = Qu q) → (∀ q, q < e' → a ≤ Qu' q) → (∀ y, y < n → ((Sn.testBit y = true ∧ U.testBit y = false) ∨ (F.testBit y = true ∧ y < kc)) → f30 y = nI (cam y)) → (∀ q, q < e' → f31 q = nI (Qu' q)) → WP (d + 1) mX5_grow 179 [some (.ref 27), some (.ref 2), some (.int (nI a)), some (.int (nI U)), some (.int (nI (Sn ||| F))), some (.int (nI e')), some (.int (nI hd)), some (.int (nI (Qu hd))), some (.int (nI F)), some (.int (nI kc))] [] h2 Q := by
            intro kc h2 cam Qu' e' f30 f31 hk S2 p30 p31 B2 c1 c2 c3 v30 v31
            have iff' : ∀ y, y < n → (((Sn.testBit y = true ∧ U.testBit y = false) ∨ (F.testBit y = true ∧ y < kc)) ↔ ((Sn ||| F).testBit y = true ∧ U.testBit y = false)) := fun y hy => by
              rw [Nat.testBit_or, Bool.or_eq_true]
              constructor
              · rintro (q | q)
                · exact ⟨Or.inl q.1, q.2⟩
                · refine ⟨Or.inr q.1, ?_⟩
                  have := ((hft y).mp q.1).2.2
                  cases hu : U.testBit y with
                  | false => rfl
                  | true => rw [b0 y hu] at this; cases this
              · rintro ⟨q | q, q2⟩
                · exact Or.inl ⟨q, q2⟩
                · refine Or.inr ⟨q, ?_⟩
                  cases hk with
                  | inl hk => omega
                  | inr hk => rw [hk, Nat.zero_testBit] at q; cases q
            simp (disch := first | omega | assumption) only [r_X5_grow_0, r_X5_grow_1, r_X5_grow_3, r_X5_grow_4, r_X5_grow_6, r_X5_grow_7, r_X5_grow_11, r_X5_grow_12, r_X5_grow_15, r_X5_grow_18, r_X5_grow_19, r_X5_grow_22, r_X5_grow_24, r_X5_grow_25, r_X5_grow_26, r_X5_grow_29, r_X5_grow_30, r_X5_grow_33, r_X5_grow_35, r_X5_grow_38, r_X5_grow_40, r_X5_grow_41, r_X5_grow_44, r_X5_grow_47, r_X5_grow_48, r_X5_grow_52, r_X5_grow_54, r_X5_grow_57, r_X5_grow_58, r_X5_grow_61, r_X5_grow_63, r_X5_grow_64, r_X5_grow_66, r_X5_grow_67, r_X5_grow_70, r_X5_grow_72, r_X5_grow_73, r_X5_grow_75, r_X5_grow_76, r_X5_grow_77, r_X5_grow_78, r_X5_grow_80, r_X5_grow_82, r_X5_grow_84, r_X5_grow_85, r_X5_grow_87, r_X5_grow_88, r_X5_grow_92, r_X5_grow_93, r_X5_grow_96, r_X5_grow_99, r_X5_grow_101, r_X5_grow_104, r_X5_grow_106, r_X5_grow_108, r_X5_grow_111, r_X5_grow_114, r_X5_grow_117, r_X5_grow_118, r_X5_grow_121, r_X5_grow_123, r_X5_grow_125, r_X5_grow_126, r_X5_grow_127, r_X5_grow_130, r_X5_grow_132, r_X5_grow_133, r_X5_grow_134, r_X5_grow_137, r_X5_grow_138, r_X5_grow_140, r_X5_grow_141, r_X5_grow_144, r_X5_grow_147, r_X5_grow_148, r_X5_grow_148_0, r_X5_grow_148_1, r_X5_grow_149, r_X5_grow_151, r_X5_grow_153, r_X5_grow_156, r_X5_grow_157, r_X5_grow_160, r_X5_grow_162, r_X5_grow_165, r_X5_grow_166, r_X5_grow_169, r_X5_grow_171, r_X5_grow_172, r_X5_grow_173, r_X5_grow_176, r_X5_grow_179, r_X5_grow_182, r_X5_grow_185, r_X5_grow_186, r_X5_grow_186_0, r_X5_grow_186_1, gF_0, gF_1, gF_2, gF_3, gF_4, gF_5, gF_6, gF_7, gF_8, gF_9, gF_10, gF_11, gF_12, gF_13, gF_14, gF_15, gF_16, gF_17, pF_0, pF_1, pF_2, pF_3, pF_4, pF_5, pF_6, pF_7, pF_8, pF_9, pF_10, pF_11, pF_12, pF_13, pF_14, pF_15, pF_16, pF_17, gI_of, gL_of, gR_of, sI_of, sL_of, gN_of, gO_of, cl_i, cl_r, cl_l, cl_n, pu_s, pu_n, rV_s, hg_same, hg_ne, if_true, if_false, true_and, and_true, ne_eq, not_false_eq_true, not_true_eq_false, eq_self, reduceCtorEq, Nat.reduceAdd, nI_add, n_mul, n_sub, n_div, n_dec, n_dif, n_shl1, n_bit, n_eq0, n_0eq, n_eq, n_lt, n_le, n_lt0, n_ge0, n_gt0, n_le0, n_em1, n_m1e, n_m1lt0, n_m1ge0, n_m1gt0, n_m1eq0, n_m1lt, bI_eq0, bI_ne0, tb_eq0, tb_eq1, Nat.le_refl]
            refine ih h2 _ _ _ cam Qu' e' (Sn ||| F) f30 f31 S2 p30 p31 (B2.congr iff') (fun y hy => by rw [Nat.testBit_or, b0 y hy, Bool.true_or]) hsl (fun q h1 h3 y hy hE => ?_) (fun x h1 h3 h4 => ?_) c3 (fun y hy h1 h3 => v30 y hy ((iff' y hy).mpr ⟨h1, h3⟩)) v31
            · rw [Nat.testBit_or, Bool.or_eq_true]
              by_cases hq : q = hd
              · subst hq
                rw [c2 q (by omega)] at hE
                cases hs : Sn.testBit y with
                | true => exact Or.inl rfl
                | false => exact Or.inr ((hft y).mpr ⟨by omega, hE, hs⟩)
              · rw [c2 q (by omega)] at hE
                exact Or.inl (b6 q (by omega) (by omega) y hy hE)
            · obtain ⟨q, q1, q2⟩ := b7 x h1 h3 h4
              exact ⟨q, by omega, by rw [c2 q q1]; exact q2⟩
          refine lup (P := fun kc => ∀ h2 cam Qu' e' f30 f31, Sm (fun b => b = 30 ∨ b = 31) h h2 → hg h2 30 = some (aI 20 f30) → hg h2 31 = some (aI 20 f31) → BQ n (Wc C a U) (fun x => a ≤ x ∧ x < n ∧ c x = n) r cam Qu' e' (fun y => (Sn.testBit y = true ∧ U.testBit y = false) ∨ (F.testBit y = true ∧ y < kc)) → e ≤ e' → (∀ q, q < e → Qu' q = Qu q) → (∀ q, q < e' → a ≤ Qu' q) → (∀ y, y < n → ((Sn.testBit y = true ∧ U.testBit y = false) ∨ (F.testBit y = true ∧ y < kc)) → f30 y = nI (cam y)) → (∀ q, q < e' → f31 q = nI (Qu' q)) → WP (d + 1) mX5_grow 90 [some (.ref 27), some (.ref 2), some (.int (nI a)), some (.int (nI U)), some (.int (nI (Sn ||| F))), some (.int (nI e')), some (.int (nI hd)), some (.int (nI (Qu hd))), some (.int (nI F)), some (.int (nI kc))] [] h2 Q) ?_ ?_
          · intro h2 cam Qu' e' f30 f31 S2 p30 p31 B2 c1 c2 c3 v30 v31
            have z2 := (S2.at (b := 2) (by omega)).trans x2
            rw [r_X5_grow_90]
            simp (disch := first | omega | assumption) only [r_X5_grow_0, r_X5_grow_1, r_X5_grow_3, r_X5_grow_4, r_X5_grow_6, r_X5_grow_7, r_X5_grow_11, r_X5_grow_12, r_X5_grow_15, r_X5_grow_18, r_X5_grow_19, r_X5_grow_22, r_X5_grow_24, r_X5_grow_25, r_X5_grow_26, r_X5_grow_29, r_X5_grow_30, r_X5_grow_33, r_X5_grow_35, r_X5_grow_38, r_X5_grow_40, r_X5_grow_41, r_X5_grow_44, r_X5_grow_47, r_X5_grow_48, r_X5_grow_52, r_X5_grow_54, r_X5_grow_57, r_X5_grow_58, r_X5_grow_61, r_X5_grow_63, r_X5_grow_64, r_X5_grow_66, r_X5_grow_67, r_X5_grow_70, r_X5_grow_72, r_X5_grow_73, r_X5_grow_75, r_X5_grow_76, r_X5_grow_77, r_X5_grow_78, r_X5_grow_80, r_X5_grow_82, r_X5_grow_84, r_X5_grow_85, r_X5_grow_87, r_X5_grow_88, r_X5_grow_92, r_X5_grow_93, r_X5_grow_96, r_X5_grow_99, r_X5_grow_101, r_X5_grow_104, r_X5_grow_106, r_X5_grow_108, r_X5_grow_111, r_X5_grow_114, r_X5_grow_117, r_X5_grow_118, r_X5_grow_121, r_X5_grow_123, r_X5_grow_125, r_X5_grow_126, r_X5_grow_127, r_X5_grow_130, r_X5_grow_132, r_X5_grow_133, r_X5_grow_134, r_X5_grow_137, r_X5_grow_138, r_X5_grow_140, r_X5_grow_141, r_X5_grow_144, r_X5_grow_147, r_X5_grow_148, r_X5_grow_148_0, r_X5_grow_148_1, r_X5_grow_149, r_X5_grow_151, r_X5_grow_153, r_X5_grow_156, r_X5_grow_157, r_X5_grow_160, r_X5_grow_162, r_X5_grow_165, r_X5_grow_166, r_X5_grow_169, r_X5_grow_171, r_X5_grow_172, r_X5_grow_173, r_X5_grow_176, r_X5_grow_182, r_X5_grow_185, r_X5_grow_186, r_X5_grow_186_0, r_X5_grow_186_1, gF_0, gF_1, gF_2, gF_3, gF_4, gF_5, gF_6, gF_7, gF_8, gF_9, gF_10, gF_11, gF_12, gF_13, gF_14, gF_15, gF_16, gF_17, pF_0, pF_1, pF_2, pF_3, pF_4, pF_5, pF_6, pF_7, pF_8, pF_9, pF_10, pF_11, pF_12, pF_13, pF_14, pF_15, pF_16, pF_17, gI_of, gL_of, gR_of, sI_of, sL_of, gN_of, gO_of, cl_i, cl_r, cl_l, cl_n, pu_s, pu_n, rV_s, hg_same, hg_ne, if_true, if_false, true_and, and_true, ne_eq, not_false_eq_true, not_true_eq_false, eq_self, reduceCtorEq, Nat.reduceAdd, nI_add, n_mul, n_sub, n_div, n_dec, n_dif, n_shl1, n_bit, n_eq0, n_0eq, n_eq, n_lt, n_le, n_lt0, n_ge0, n_gt0, n_le0, n_em1, n_m1e, n_m1lt0, n_m1ge0, n_m1gt0, n_m1eq0, n_m1lt, bI_eq0, bI_ne0, tb_eq0, tb_eq1, Nat.le_refl, z2]
            exact done n h2 cam Qu' e' f30 f31 (Or.inl (Nat.le_refl n)) S2 p30 p31 B2 c1 c2 c3 v30 v31
          · intro kc hkc ih2 h2 cam Qu' e' f30 f31 S2 p30 p31 B2 c1 c2 c3 v30 v31
            have z2 := (S2.at (b := 2) (by omega)).trans x2
            have z27 := (S2.at (b := 27) (by omega)).trans h27
            have z29 := (S2.at (b := 29) (by omega)).trans g29
            have er : f29 kc = vf n (r kc) := w29 kc hkc
            rw [r_X5_grow_90]
            by_cases hF0 : F = 0
            · simp (disch := first | omega | assumption) only [r_X5_grow_0, r_X5_grow_1, r_X5_grow_3, r_X5_grow_4, r_X5_grow_6, r_X5_grow_7, r_X5_grow_11, r_X5_grow_12, r_X5_grow_15, r_X5_grow_18, r_X5_grow_19, r_X5_grow_22, r_X5_grow_24, r_X5_grow_25, r_X5_grow_26, r_X5_grow_29, r_X5_grow_30, r_X5_grow_33, r_X5_grow_35, r_X5_grow_38, r_X5_grow_40, r_X5_grow_41, r_X5_grow_44, r_X5_grow_47, r_X5_grow_48, r_X5_grow_52, r_X5_grow_54, r_X5_grow_57, r_X5_grow_58, r_X5_grow_61, r_X5_grow_63, r_X5_grow_64, r_X5_grow_66, r_X5_grow_67, r_X5_grow_70, r_X5_grow_72, r_X5_grow_73, r_X5_grow_75, r_X5_grow_76, r_X5_grow_77, r_X5_grow_78, r_X5_grow_80, r_X5_grow_82, r_X5_grow_84, r_X5_grow_85, r_X5_grow_87, r_X5_grow_88, r_X5_grow_92, r_X5_grow_93, r_X5_grow_96, r_X5_grow_99, r_X5_grow_101, r_X5_grow_104, r_X5_grow_106, r_X5_grow_108, r_X5_grow_111, r_X5_grow_114, r_X5_grow_117, r_X5_grow_118, r_X5_grow_121, r_X5_grow_123, r_X5_grow_125, r_X5_grow_126, r_X5_grow_127, r_X5_grow_130, r_X5_grow_132, r_X5_grow_133, r_X5_grow_134, r_X5_grow_137, r_X5_grow_138, r_X5_grow_140, r_X5_grow_141, r_X5_grow_144, r_X5_grow_147, r_X5_grow_148, r_X5_grow_148_0, r_X5_grow_148_1, r_X5_grow_149, r_X5_grow_151, r_X5_grow_153, r_X5_grow_156, r_X5_grow_157, r_X5_grow_160, r_X5_grow_162, r_X5_grow_165, r_X5_grow_166, r_X5_grow_169, r_X5_grow_171, r_X5_grow_172, r_X5_grow_173, r_X5_grow_176, r_X5_grow_182, r_X5_grow_185, r_X5_grow_186, r_X5_grow_186_0, r_X5_grow_186_1, gF_0, gF_1, gF_2, gF_3, gF_4, gF_5, gF_6, gF_7, gF_8, gF_9, gF_10, gF_11, gF_12, gF_13, gF_14, gF_15, gF_16, gF_17, pF_0, pF_1, pF_2, pF_3, pF_4, pF_5, pF_6, pF_7, pF_8, pF_9, pF_10, pF_11, pF_12, pF_13, pF_14, pF_15, pF_16, pF_17, gI_of, gL_of, gR_of, sI_of, sL_of, gN_of, gO_of, cl_i, cl_r, cl_l, cl_n, pu_s, pu_n, rV_s, hg_same, hg_ne, if_true, if_false, true_and, and_true, ne_eq, not_false_eq_true, not_true_eq_false, eq_self, reduceCtorEq, Nat.reduceAdd, nI_add, n_mul, n_sub, n_div, n_dec, n_dif, n_shl1, n_bit, n_eq0, n_0eq, n_eq, n_lt, n_le, n_lt0, n_ge0, n_gt0, n_le0, n_em1, n_m1e, n_m1lt0, n_m1ge0, n_m1gt0, n_m1eq0, n_m1lt, bI_eq0, bI_ne0, tb_eq0, tb_eq1, show ¬ n ≤ kc by omega, z2, hF0]
              have := done kc h2 cam Qu' e' f30 f31 (Or.inr hF0) S2 p30 p31 B2 c1 c2 c3 v30 v31
              rw [hF0] at this
              exact this
            · cases hb : F.testBit kc with
              | false =>
                simp (disch := first | omega | assumption) only [r_X5_grow_0, r_X5_grow_1, r_X5_grow_3, r_X5_grow_4, r_X5_grow_6, r_X5_grow_7, r_X5_grow_11, r_X5_grow_12, r_X5_grow_15, r_X5_grow_18, r_X5_grow_19, r_X5_grow_22, r_X5_grow_24, r_X5_grow_25, r_X5_grow_26, r_X5_grow_29, r_X5_grow_30, r_X5_grow_33, r_X5_grow_35, r_X5_grow_38, r_X5_grow_40, r_X5_grow_41, r_X5_grow_44, r_X5_grow_47, r_X5_grow_48, r_X5_grow_52, r_X5_grow_54, r_X5_grow_57, r_X5_grow_58, r_X5_grow_61, r_X5_grow_63, r_X5_grow_64, r_X5_grow_66, r_X5_grow_67, r_X5_grow_70, r_X5_grow_72, r_X5_grow_73, r_X5_grow_75, r_X5_grow_76, r_X5_grow_77, r_X5_grow_78, r_X5_grow_80, r_X5_grow_82, r_X5_grow_84, r_X5_grow_85, r_X5_grow_87, r_X5_grow_88, r_X5_grow_92, r_X5_grow_93, r_X5_grow_96, r_X5_grow_99, r_X5_grow_101, r_X5_grow_104, r_X5_grow_106, r_X5_grow_108, r_X5_grow_111, r_X5_grow_114, r_X5_grow_117, r_X5_grow_118, r_X5_grow_121, r_X5_grow_123, r_X5_grow_125, r_X5_grow_126, r_X5_grow_127, r_X5_grow_130, r_X5_grow_132, r_X5_grow_133, r_X5_grow_134, r_X5_grow_137, r_X5_grow_138, r_X5_grow_140, r_X5_grow_141, r_X5_grow_144, r_X5_grow_147, r_X5_grow_148, r_X5_grow_148_0, r_X5_grow_148_1, r_X5_grow_149, r_X5_grow_151, r_X5_grow_153, r_X5_grow_156, r_X5_grow_157, r_X5_grow_160, r_X5_grow_162, r_X5_grow_165, r_X5_grow_166, r_X5_grow_169, r_X5_grow_171, r_X5_grow_172, r_X5_grow_173, r_X5_grow_176, r_X5_grow_182, r_X5_grow_185, r_X5_grow_186, r_X5_grow_186_0, r_X5_grow_186_1, gF_0, gF_1, gF_2, gF_3, gF_4, gF_5, gF_6, gF_7, gF_8, gF_9, gF_10, gF_11, gF_12, gF_13, gF_14, gF_15, gF_16, gF_17, pF_0, pF_1, pF_2, pF_3, pF_4, pF_5, pF_6, pF_7, pF_8, pF_9, pF_10, pF_11, pF_12, pF_13, pF_14, pF_15, pF_16, pF_17, gI_of, gL_of, gR_of, sI_of, sL_of, gN_of, gO_of, cl_i, cl_r, cl_l, cl_n, pu_s, pu_n, rV_s, hg_same, hg_ne, if_true, if_false, true_and, and_true, ne_eq, not_false_eq_true, not_true_eq_false, eq_self, reduceCtorEq, Nat.reduceAdd, nI_add, n_mul, n_sub, n_div, n_dec, n_dif, n_shl1, n_bit, n_eq0, n_0eq, n_eq, n_lt, n_le, n_lt0, n_ge0, n_gt0, n_le0, n_em1, n_m1e, n_m1lt0, n_m1ge0, n_m1gt0, n_m1eq0, n_m1lt, bI_eq0, bI_ne0, tb_eq0, tb_eq1, show ¬ n ≤ kc by omega, z2, hF0, x_has, hb, Bool.false_eq_true]
                have iff2 : ∀ y, y < n → (((Sn.testBit y = true ∧ U.testBit y = false) ∨ (F.testBit y = true ∧ y < kc)) ↔ ((Sn.testBit y = true ∧ U.testBit y = false) ∨ (F.testBit y = true ∧ y < kc + 1))) := fun y hy => by
                  constructor
                  · rintro (q | q)
                    · exact Or.inl q
                    · exact Or.inr ⟨q.1, by omega⟩
                  · rintro (q | q)
                    · exact Or.inl q
                    · by_cases e1 : y = kc
                      · rw [e1, hb] at q; cases q.1
                      · exact Or.inr ⟨q.1, by omega⟩
                exact ih2 h2 cam Qu' e' f30 f31 S2 p30 p31 (B2.congr iff2) c1 c2 c3 (fun y hy q => v30 y hy ((iff2 y hy).mpr q)) v31
              | true =>
                obtain ⟨t1, t2, t3⟩ := (hft kc).mp hb
                have hUk : U.testBit kc = false := by
                  cases hu : U.testBit kc with
                  | false => rfl
                  | true => rw [b0 kc hu] at t3; cases t3
                have hns : ¬ ((Sn.testBit kc = true ∧ U.testBit kc = false) ∨ (F.testBit kc = true ∧ kc < kc)) := by
                  rintro (q | q)
                  · rw [t3] at q; cases q.1
                  · omega
                have hQh : Qu' hd = Qu hd := c2 hd (by omega)
                have hWk : Wc C a U (Qu' hd) kc := by
                  rw [hQh]; exact ⟨t2, ⟨fun _ => b8 hd (by omega), fun _ => hUk⟩⟩
                have he2 := B2.1.le
                have hrle := (hM.1 kc hkc).1
                by_cases hfree : r kc < n
                · have hne := (B2.push (h := hd) hM hkc hns hfree (by omega) hWk)
                  have hle2 := hne.1.le
                  have er2 : f29 kc = nI (r kc) := by rw [er, vf_of hfree]
                  have iff3 : ∀ y, y < n → ((((Sn.testBit y = true ∧ U.testBit y = false) ∨ (F.testBit y = true ∧ y < kc)) ∨ y = kc) ↔ ((Sn.testBit y = true ∧ U.testBit y = false) ∨ (F.testBit y = true ∧ y < kc + 1))) := fun y hy => by
                    constructor
                    · rintro ((q | q) | q)
                      · exact Or.inl q
                      · exact Or.inr ⟨q.1, by omega⟩
                      · subst q; exact Or.inr ⟨hb, by omega⟩
                    · rintro (q | q)
                      · exact Or.inl (Or.inl q)
                      · by_cases e1 : y = kc
                        · exact Or.inr e1
                        · exact Or.inl (Or.inr ⟨q.1, by omega⟩)
                  simp (disch := first | omega | assumption) only [r_X5_grow_0, r_X5_grow_1, r_X5_grow_3, r_X5_grow_4, r_X5_grow_6, r_X5_grow_7, r_X5_grow_11, r_X5_grow_12, r_X5_grow_15, r_X5_grow_18, r_X5_grow_19, r_X5_grow_22, r_X5_grow_24, r_X5_grow_25, r_X5_grow_26, r_X5_grow_29, r_X5_grow_30, r_X5_grow_33, r_X5_grow_35, r_X5_grow_38, r_X5_grow_40, r_X5_grow_41, r_X5_grow_44, r_X5_grow_47, r_X5_grow_48, r_X5_grow_52, r_X5_grow_54, r_X5_grow_57, r_X5_grow_58, r_X5_grow_61, r_X5_grow_63, r_X5_grow_64, r_X5_grow_66, r_X5_grow_67, r_X5_grow_70, r_X5_grow_72, r_X5_grow_73, r_X5_grow_75, r_X5_grow_76, r_X5_grow_77, r_X5_grow_78, r_X5_grow_80, r_X5_grow_82, r_X5_grow_84, r_X5_grow_85, r_X5_grow_87, r_X5_grow_88, r_X5_grow_92, r_X5_grow_93, r_X5_grow_96, r_X5_grow_99, r_X5_grow_101, r_X5_grow_104, r_X5_grow_106, r_X5_grow_108, r_X5_grow_111, r_X5_grow_114, r_X5_grow_117, r_X5_grow_118, r_X5_grow_121, r_X5_grow_123, r_X5_grow_125, r_X5_grow_126, r_X5_grow_127, r_X5_grow_130, r_X5_grow_132, r_X5_grow_133, r_X5_grow_134, r_X5_grow_137, r_X5_grow_138, r_X5_grow_140, r_X5_grow_141, r_X5_grow_144, r_X5_grow_147, r_X5_grow_148, r_X5_grow_148_0, r_X5_grow_148_1, r_X5_grow_149, r_X5_grow_151, r_X5_grow_153, r_X5_grow_156, r_X5_grow_157, r_X5_grow_160, r_X5_grow_162, r_X5_grow_165, r_X5_grow_166, r_X5_grow_169, r_X5_grow_171, r_X5_grow_172, r_X5_grow_173, r_X5_grow_176, r_X5_grow_182, r_X5_grow_185, r_X5_grow_186, r_X5_grow_186_0, r_X5_grow_186_1, gF_0, gF_1, gF_2, gF_3, gF_4, gF_5, gF_6, gF_7, gF_8, gF_9, gF_10, gF_11, gF_12, gF_13, gF_14, gF_15, gF_16, gF_17, pF_0, pF_1, pF_2, pF_3, pF_4, pF_5, pF_6, pF_7, pF_8, pF_9, pF_10, pF_11, pF_12, pF_13, pF_14, pF_15, pF_16, pF_17, gI_of, gL_of, gR_of, sI_of, sL_of, gN_of, gO_of, cl_i, cl_r, cl_l, cl_n, pu_s, pu_n, rV_s, hg_same, hg_ne, if_true, if_false, true_and, and_true, ne_eq, not_false_eq_true, not_true_eq_false, eq_self, reduceCtorEq, Nat.reduceAdd, nI_add, n_mul, n_sub, n_div, n_dec, n_dif, n_shl1, n_bit, n_eq0, n_0eq, n_eq, n_lt, n_le, n_lt0, n_ge0, n_gt0, n_le0, n_em1, n_m1e, n_m1lt0, n_m1ge0, n_m1gt0, n_m1eq0, n_m1lt, bI_eq0, bI_ne0, tb_eq0, tb_eq1, show ¬ n ≤ kc by omega, z2, hF0, x_has, hb, z27, p30, z29, er2, show ¬ 20 ≤ e' by omega, p31]
                  refine ih2 _ (up cam kc (Qu' hd)) (up Qu' e' (r kc)) (e' + 1) (up f30 kc (nI (Qu hd))) (up f31 e' (nI (r kc))) ((S2.set (Or.inl rfl)).set (Or.inr rfl)) (by simp (disch := omega) only [hg_ne, hg_same]) (hg_same _ _ _) (hne.congr iff3) (by omega) (fun q hq => by rw [up_ne (by omega)]; exact c2 q hq) (fun q hq => ?_) (fun y hy q => ?_) (fun q hq => ?_)
                  · by_cases e1 : q = e'
                    · rw [e1, up_same]
                      exact ((hM.1 kc hkc).2 hfree).2.mp hUk
                    · rw [up_ne e1]; exact c3 q (by omega)
                  · by_cases e1 : y = kc
                    · rw [e1, up_same, up_same, hQh]
                    · rw [up_ne e1, up_ne e1]
                      exact v30 y hy (((iff3 y hy).mpr q).resolve_right e1)
                  · by_cases e1 : q = e'
                    · rw [e1, up_same, up_same]
                    · rw [up_ne e1, up_ne e1]; exact v31 q (by omega)
                · have hrn : r kc = n := by omega
                  have er2 : f29 kc = -1 := by rw [er, vf_no hfree]
                  have B3 := B2.cam (cam' := up cam kc (Qu' hd)) (fun y hy q => up_ne (fun e1 => hns (e1 ▸ q)))
                  have z28 := (S2.at (b := 28) (by omega)).trans g28
                  simp (disch := first | omega | assumption) only [r_X5_grow_0, r_X5_grow_1, r_X5_grow_3, r_X5_grow_4, r_X5_grow_6, r_X5_grow_7, r_X5_grow_11, r_X5_grow_12, r_X5_grow_15, r_X5_grow_18, r_X5_grow_19, r_X5_grow_22, r_X5_grow_24, r_X5_grow_25, r_X5_grow_26, r_X5_grow_29, r_X5_grow_30, r_X5_grow_33, r_X5_grow_35, r_X5_grow_38, r_X5_grow_40, r_X5_grow_41, r_X5_grow_44, r_X5_grow_47, r_X5_grow_48, r_X5_grow_52, r_X5_grow_54, r_X5_grow_57, r_X5_grow_58, r_X5_grow_61, r_X5_grow_63, r_X5_grow_64, r_X5_grow_66, r_X5_grow_67, r_X5_grow_70, r_X5_grow_72, r_X5_grow_73, r_X5_grow_75, r_X5_grow_76, r_X5_grow_77, r_X5_grow_78, r_X5_grow_80, r_X5_grow_82, r_X5_grow_84, r_X5_grow_85, r_X5_grow_87, r_X5_grow_88, r_X5_grow_92, r_X5_grow_93, r_X5_grow_96, r_X5_grow_99, r_X5_grow_101, r_X5_grow_104, r_X5_grow_106, r_X5_grow_108, r_X5_grow_111, r_X5_grow_114, r_X5_grow_117, r_X5_grow_118, r_X5_grow_121, r_X5_grow_123, r_X5_grow_125, r_X5_grow_126, r_X5_grow_127, r_X5_grow_130, r_X5_grow_132, r_X5_grow_133, r_X5_grow_134, r_X5_grow_137, r_X5_grow_138, r_X5_grow_140, r_X5_grow_141, r_X5_grow_144, r_X5_grow_147, r_X5_grow_148, r_X5_grow_148_0, r_X5_grow_148_1, r_X5_grow_149, r_X5_grow_151, r_X5_grow_153, r_X5_grow_156, r_X5_grow_157, r_X5_grow_160, r_X5_grow_162, r_X5_grow_165, r_X5_grow_166, r_X5_grow_169, r_X5_grow_171, r_X5_grow_172, r_X5_grow_173, r_X5_grow_176, r_X5_grow_182, r_X5_grow_185, r_X5_grow_186, r_X5_grow_186_0, r_X5_grow_186_1, gF_0, gF_1, gF_2, gF_3, gF_4, gF_5, gF_6, gF_7, gF_8, gF_9, gF_10, gF_11, gF_12, gF_13, gF_14, gF_15, gF_16, gF_17, pF_0, pF_1, pF_2, pF_3, pF_4, pF_5, pF_6, pF_7, pF_8, pF_9, pF_10, pF_11, pF_12, pF_13, pF_14, pF_15, pF_16, pF_17, gI_of, gL_of, gR_of, sI_of, sL_of, gN_of, gO_of, cl_i, cl_r, cl_l, cl_n, pu_s, pu_n, rV_s, hg_same, hg_ne, if_true, if_false, true_and, and_true, ne_eq, not_false_eq_true, not_true_eq_false, eq_self, reduceCtorEq, Nat.reduceAdd, nI_add, n_mul, n_sub, n_div, n_dec, n_dif, n_shl1, n_bit, n_eq0, n_0eq, n_eq, n_lt, n_le, n_lt0, n_ge0, n_gt0, n_le0, n_em1, n_m1e, n_m1lt0, n_m1ge0, n_m1gt0, n_m1eq0, n_m1lt, bI_eq0, bI_ne0, tb_eq0, tb_eq1, show ¬ n ≤ kc by omega, z2, hF0, x_has, hb, z27, p30, z29, er2]
                  refine x_turnWay (p0 := hd) (cam := up cam kc (Qu' hd)) (V := fun y => U.testBit y = false) (R := fun _ => False) (f30 := up f30 kc (nI (Qu hd))) (by rw [hg_ne (by omega)]; exact z27) ⟨⟨f28, (hg_ne (by omega)).trans z28, w28⟩, ⟨f29, (hg_ne (by omega)).trans z29, w29⟩⟩ (hg_same _ _ _) hn hM hC (fun u hu => hu.elim) B3 hkc hrn (by omega) (up_same _ _ _) hWk (fun y hy q => ?_) hUk (fun y hy q => ?_) (fun h3 c' r' i i1 i2 A3 C3 K3 M3 S3 => ?_)
                  · rcases q with q | q
                    · exact q.2
                    · have := ((hft y).mp q.1).2.2
                      cases hu : U.testBit y with
                      | false => rfl
                      | true => rw [b0 y hu] at this; cases this
                  · by_cases e1 : y = kc
                    · rw [e1, up_same, up_same, hQh]
                    · rw [up_ne e1, up_ne e1]; exact v30 y hy (q.resolve_right e1)
                  · simp (disch := first | omega | assumption) only [r_X5_grow_0, r_X5_grow_1, r_X5_grow_3, r_X5_grow_4, r_X5_grow_6, r_X5_grow_7, r_X5_grow_11, r_X5_grow_12, r_X5_grow_15, r_X5_grow_18, r_X5_grow_19, r_X5_grow_22, r_X5_grow_24, r_X5_grow_25, r_X5_grow_26, r_X5_grow_29, r_X5_grow_30, r_X5_grow_33, r_X5_grow_35, r_X5_grow_38, r_X5_grow_40, r_X5_grow_41, r_X5_grow_44, r_X5_grow_47, r_X5_grow_48, r_X5_grow_52, r_X5_grow_54, r_X5_grow_57, r_X5_grow_58, r_X5_grow_61, r_X5_grow_63, r_X5_grow_64, r_X5_grow_66, r_X5_grow_67, r_X5_grow_70, r_X5_grow_72, r_X5_grow_73, r_X5_grow_75, r_X5_grow_76, r_X5_grow_77, r_X5_grow_78, r_X5_grow_80, r_X5_grow_82, r_X5_grow_84, r_X5_grow_85, r_X5_grow_87, r_X5_grow_88, r_X5_grow_92, r_X5_grow_93, r_X5_grow_96, r_X5_grow_99, r_X5_grow_101, r_X5_grow_104, r_X5_grow_106, r_X5_grow_108, r_X5_grow_111, r_X5_grow_114, r_X5_grow_117, r_X5_grow_118, r_X5_grow_121, r_X5_grow_123, r_X5_grow_125, r_X5_grow_126, r_X5_grow_127, r_X5_grow_130, r_X5_grow_132, r_X5_grow_133, r_X5_grow_134, r_X5_grow_137, r_X5_grow_138, r_X5_grow_140, r_X5_grow_141, r_X5_grow_144, r_X5_grow_147, r_X5_grow_148, r_X5_grow_148_0, r_X5_grow_148_1, r_X5_grow_149, r_X5_grow_151, r_X5_grow_153, r_X5_grow_156, r_X5_grow_157, r_X5_grow_160, r_X5_grow_162, r_X5_grow_165, r_X5_grow_166, r_X5_grow_169, r_X5_grow_171, r_X5_grow_172, r_X5_grow_173, r_X5_grow_176, r_X5_grow_182, r_X5_grow_185, r_X5_grow_186, r_X5_grow_186_0, r_X5_grow_186_1, gF_0, gF_1, gF_2, gF_3, gF_4, gF_5, gF_6, gF_7, gF_8, gF_9, gF_10, gF_11, gF_12, gF_13, gF_14, gF_15, gF_16, gF_17, pF_0, pF_1, pF_2, pF_3, pF_4, pF_5, pF_6, pF_7, pF_8, pF_9, pF_10, pF_11, pF_12, pF_13, pF_14, pF_15, pF_16, pF_17, gI_of, gL_of, gR_of, sI_of, sL_of, gN_of, gO_of, cl_i, cl_r, cl_l, cl_n, pu_s, pu_n, rV_s, hg_same, hg_ne, if_true, if_false, true_and, and_true, ne_eq, not_false_eq_true, not_true_eq_false, eq_self, reduceCtorEq, Nat.reduceAdd, nI_add, n_mul, n_sub, n_div, n_dec, n_dif, n_shl1, n_bit, n_eq0, n_0eq, n_eq, n_lt, n_le, n_lt0, n_ge0, n_gt0, n_le0, n_em1, n_m1e, n_m1lt0, n_m1ge0, n_m1gt0, n_m1eq0, n_m1lt, bI_eq0, bI_ne0, tb_eq0, tb_eq1, Nat.le_refl]
                    refine kt h3 c' r' i kc i1 i2.1 hkc hrn hUk A3 C3 (fun y hy hu => K3 y hy (by rw [hu]; decide)) M3 ⟨_, (S3.at (by omega)).trans (hg_same _ _ _)⟩ ⟨_, (S3.at (by omega)).trans ((hg_ne (by omega)).trans p31)⟩ (((S2.mono (fun x q => by omega)).set (by omega)).trans (S3.mono (fun x q => by omega)))
        exact key 0 (by omega) h' cam Qu e f30 f31 hS q30 q31 (B.congr (fun y hy => ⟨fun q => Or.inl q, fun q => q.resolve_right (fun q => by omega)⟩)) (Nat.le_refl e) (fun q _ => rfl) b8 (fun y hy q => by
          have q := q.resolve_right (fun q => by omega)
          exact w30 y hy q.1 q.2) w31
  -- the free rows come first
  have pre : ∀ i, i ≤ n → a ≤ i → ∀ h' Qu e f31, Sm (fun b => b = 30 ∨ b = 31) h h' → hg h' 30 = some (aI 20 f30) → hg h' 31 = some (aI 20 f31) → okO n e Qu → (∀ q, q < e → a ≤ Qu q ∧ Qu q < i ∧ c (Qu q) = n) → (∀ x, a ≤ x → x < i → c x = n → ∃ q, q < e ∧ Qu q = x) → (∀ q, q < e → f31 q = nI (Qu q)) → WP (d + 1) mX5_grow 9 [some (.ref 27), some (.ref 2), some (.int (nI a)), some (.int (nI U)), some (.int (nI U)), some (.int (nI e)), some (.int (nI i)), none, none, none] [] h' Q := by
    refine lup (P := fun i => a ≤ i → ∀ h' Qu e f31, Sm (fun b => b = 30 ∨ b = 31) h h' → hg h' 30 = some (aI 20 f30) → hg h' 31 = some (aI 20 f31) → okO n e Qu → (∀ q, q < e → a ≤ Qu q ∧ Qu q < i ∧ c (Qu q) = n) → (∀ x, a ≤ x → x < i → c x = n → ∃ q, q < e ∧ Qu q = x) → (∀ q, q < e → f31 q = nI (Qu q)) → WP (d + 1) mX5_grow 9 [some (.ref 27), some (.ref 2), some (.int (nI a)), some (.int (nI U)), some (.int (nI U)), some (.int (nI e)), some (.int (nI i)), none, none, none] [] h' Q) ?_ ?_
    · intro _ h' Qu e f31 hS q30 q31 hO p1 p2 w31
      have y2 := (hS.at (b := 2) (by omega)).trans x2
      rw [r_X5_grow_9]
      simp (disch := first | omega | assumption) only [r_X5_grow_0, r_X5_grow_1, r_X5_grow_3, r_X5_grow_4, r_X5_grow_6, r_X5_grow_7, r_X5_grow_11, r_X5_grow_12, r_X5_grow_15, r_X5_grow_18, r_X5_grow_19, r_X5_grow_22, r_X5_grow_24, r_X5_grow_25, r_X5_grow_26, r_X5_grow_29, r_X5_grow_30, r_X5_grow_33, r_X5_grow_35, r_X5_grow_38, r_X5_grow_40, r_X5_grow_41, r_X5_grow_44, r_X5_grow_47, r_X5_grow_48, r_X5_grow_52, r_X5_grow_54, r_X5_grow_57, r_X5_grow_58, r_X5_grow_61, r_X5_grow_63, r_X5_grow_64, r_X5_grow_66, r_X5_grow_67, r_X5_grow_70, r_X5_grow_72, r_X5_grow_73, r_X5_grow_75, r_X5_grow_76, r_X5_grow_77, r_X5_grow_78, r_X5_grow_80, r_X5_grow_82, r_X5_grow_84, r_X5_grow_85, r_X5_grow_87, r_X5_grow_88, r_X5_grow_92, r_X5_grow_93, r_X5_grow_96, r_X5_grow_99, r_X5_grow_101, r_X5_grow_104, r_X5_grow_106, r_X5_grow_108, r_X5_grow_111, r_X5_grow_114, r_X5_grow_117, r_X5_grow_118, r_X5_grow_121, r_X5_grow_123, r_X5_grow_125, r_X5_grow_126, r_X5_grow_127, r_X5_grow_130, r_X5_grow_132, r_X5_grow_133, r_X5_grow_134, r_X5_grow_137, r_X5_grow_138, r_X5_grow_140, r_X5_grow_141, r_X5_grow_144, r_X5_grow_147, r_X5_grow_148, r_X5_grow_148_0, r_X5_grow_148_1, r_X5_grow_149, r_X5_grow_151, r_X5_grow_153, r_X5_grow_156, r_X5_grow_157, r_X5_grow_160, r_X5_grow_162, r_X5_grow_165, r_X5_grow_166, r_X5_grow_169, r_X5_grow_171, r_X5_grow_172, r_X5_grow_173, r_X5_grow_176, r_X5_grow_179, r_X5_grow_182, r_X5_grow_185, r_X5_grow_186, r_X5_grow_186_0, r_X5_grow_186_1, gF_0, gF_1, gF_2, gF_3, gF_4, gF_5, gF_6, gF_7, gF_8, gF_9, gF_10, gF_11, gF_12, gF_13, gF_14, gF_15, gF_16, gF_17, pF_0, pF_1, pF_2, pF_3, pF_4, pF_5, pF_6, pF_7, pF_8, pF_9, pF_10, pF_11, pF_12, pF_13, pF_14, pF_15, pF_16, pF_17, gI_of, gL_of, gR_of, sI_of, sL_of, gN_of, gO_of, cl_i, cl_r, cl_l, cl_n, pu_s, pu_n, rV_s, hg_same, hg_ne, if_true, if_false, true_and, and_true, ne_eq, not_false_eq_true, not_true_eq_false, eq_self, reduceCtorEq, Nat.reduceAdd, nI_add, n_mul, n_sub, n_div, n_dec, n_dif, n_shl1, n_bit, n_eq0, n_0eq, n_eq, n_lt, n_le, n_lt0, n_ge0, n_gt0, n_le0, n_em1, n_m1e, n_m1lt0, n_m1ge0, n_m1gt0, n_m1eq0, n_m1lt, bI_eq0, bI_ne0, tb_eq0, tb_eq1, Nat.le_refl, y2]
      have no : ∀ y, ¬ (U.testBit y = true ∧ U.testBit y = false) := fun y q => by rw [q.1] at q; exact Bool.noConfusion q.2
      refine main 0 (by omega) h' _ _ _ (fun _ => 0) Qu e U f30 f31 hS q30 q31 ⟨hO, fun y hy q => absurd q (no y), fun q hq => Or.inl ⟨(p1 q hq).1, (p1 q hq).2.1, (p1 q hq).2.2⟩, fun y hy q => absurd q (no y), fun x hx j hj => hCn x j hx.2.1 hj hx.2.2⟩ (fun y hy => hy) hU (fun q hq => by omega) p2 (fun q hq => (p1 q hq).1) (fun y hy q1 q2 => absurd ⟨q1, q2⟩ (no y)) w31
    · intro i hi ih hai h' Qu e f31 hS q30 q31 hO p1 p2 w31
      have y2 := (hS.at (b := 2) (by omega)).trans x2
      have y27 := (hS.at (b := 27) (by omega)).trans h27
      have y28 := (hS.at (b := 28) (by omega)).trans g28
      have ei : f28 i = vf n (c i) := w28 i hi
      have hle := hO.le
      have hci := hC.1 i hi
      rw [r_X5_grow_9]
      by_cases hfree : c i < n
      · have ei2 : f28 i = nI (c i) := by rw [ei, vf_of hfree]
        simp (disch := first | omega | assumption) only [r_X5_grow_0, r_X5_grow_1, r_X5_grow_3, r_X5_grow_4, r_X5_grow_6, r_X5_grow_7, r_X5_grow_11, r_X5_grow_12, r_X5_grow_15, r_X5_grow_18, r_X5_grow_19, r_X5_grow_22, r_X5_grow_24, r_X5_grow_25, r_X5_grow_26, r_X5_grow_29, r_X5_grow_30, r_X5_grow_33, r_X5_grow_35, r_X5_grow_38, r_X5_grow_40, r_X5_grow_41, r_X5_grow_44, r_X5_grow_47, r_X5_grow_48, r_X5_grow_52, r_X5_grow_54, r_X5_grow_57, r_X5_grow_58, r_X5_grow_61, r_X5_grow_63, r_X5_grow_64, r_X5_grow_66, r_X5_grow_67, r_X5_grow_70, r_X5_grow_72, r_X5_grow_73, r_X5_grow_75, r_X5_grow_76, r_X5_grow_77, r_X5_grow_78, r_X5_grow_80, r_X5_grow_82, r_X5_grow_84, r_X5_grow_85, r_X5_grow_87, r_X5_grow_88, r_X5_grow_92, r_X5_grow_93, r_X5_grow_96, r_X5_grow_99, r_X5_grow_101, r_X5_grow_104, r_X5_grow_106, r_X5_grow_108, r_X5_grow_111, r_X5_grow_114, r_X5_grow_117, r_X5_grow_118, r_X5_grow_121, r_X5_grow_123, r_X5_grow_125, r_X5_grow_126, r_X5_grow_127, r_X5_grow_130, r_X5_grow_132, r_X5_grow_133, r_X5_grow_134, r_X5_grow_137, r_X5_grow_138, r_X5_grow_140, r_X5_grow_141, r_X5_grow_144, r_X5_grow_147, r_X5_grow_148, r_X5_grow_148_0, r_X5_grow_148_1, r_X5_grow_149, r_X5_grow_151, r_X5_grow_153, r_X5_grow_156, r_X5_grow_157, r_X5_grow_160, r_X5_grow_162, r_X5_grow_165, r_X5_grow_166, r_X5_grow_169, r_X5_grow_171, r_X5_grow_172, r_X5_grow_173, r_X5_grow_176, r_X5_grow_179, r_X5_grow_182, r_X5_grow_185, r_X5_grow_186, r_X5_grow_186_0, r_X5_grow_186_1, gF_0, gF_1, gF_2, gF_3, gF_4, gF_5, gF_6, gF_7, gF_8, gF_9, gF_10, gF_11, gF_12, gF_13, gF_14, gF_15, gF_16, gF_17, pF_0, pF_1, pF_2, pF_3, pF_4, pF_5, pF_6, pF_7, pF_8, pF_9, pF_10, pF_11, pF_12, pF_13, pF_14, pF_15, pF_16, pF_17, gI_of, gL_of, gR_of, sI_of, sL_of, gN_of, gO_of, cl_i, cl_r, cl_l, cl_n, pu_s, pu_n, rV_s, hg_same, hg_ne, if_true, if_false, true_and, and_true, ne_eq, not_false_eq_true, not_true_eq_false, eq_self, reduceCtorEq, Nat.reduceAdd, nI_add, n_mul, n_sub, n_div, n_dec, n_dif, n_shl1, n_bit, n_eq0, n_0eq, n_eq, n_lt, n_le, n_lt0, n_ge0, n_gt0, n_le0, n_em1, n_m1e, n_m1lt0, n_m1ge0, n_m1gt0, n_m1eq0, n_m1lt, bI_eq0, bI_ne0, tb_eq0, tb_eq1, show ¬ n ≤ i by omega, y2, y27, y28, ei2]
        refine ih (by omega) h' Qu e f31 hS q30 q31 hO (fun q hq => ?_) (fun x h1 h3 h4 => ?_) w31
        · have := p1 q hq; exact ⟨this.1, by omega, this.2.2⟩
        · by_cases e1 : x = i
          · subst e1; omega
          · exact p2 x h1 (by omega) h4
      · have hcn : c i = n := by omega
        have ei2 : f28 i = -1 := by rw [ei, vf_no hfree]
        have hnew : (gb Qu e).testBit i = false := by
          cases hb : (gb Qu e).testBit i with
          | false => rfl
          | true =>
            obtain ⟨q, h1, h2⟩ := (gb_tb Qu e i).mp hb
            have := (p1 q h1).2.1
            omega
        have hO2 := hO.new hi hnew
        have hle2 := hO2.le
        simp (disch := first | omega | assumption) only [r_X5_grow_0, r_X5_grow_1, r_X5_grow_3, r_X5_grow_4, r_X5_grow_6, r_X5_grow_7, r_X5_grow_11, r_X5_grow_12, r_X5_grow_15, r_X5_grow_18, r_X5_grow_19, r_X5_grow_22, r_X5_grow_24, r_X5_grow_25, r_X5_grow_26, r_X5_grow_29, r_X5_grow_30, r_X5_grow_33, r_X5_grow_35, r_X5_grow_38, r_X5_grow_40, r_X5_grow_41, r_X5_grow_44, r_X5_grow_47, r_X5_grow_48, r_X5_grow_52, r_X5_grow_54, r_X5_grow_57, r_X5_grow_58, r_X5_grow_61, r_X5_grow_63, r_X5_grow_64, r_X5_grow_66, r_X5_grow_67, r_X5_grow_70, r_X5_grow_72, r_X5_grow_73, r_X5_grow_75, r_X5_grow_76, r_X5_grow_77, r_X5_grow_78, r_X5_grow_80, r_X5_grow_82, r_X5_grow_84, r_X5_grow_85, r_X5_grow_87, r_X5_grow_88, r_X5_grow_92, r_X5_grow_93, r_X5_grow_96, r_X5_grow_99, r_X5_grow_101, r_X5_grow_104, r_X5_grow_106, r_X5_grow_108, r_X5_grow_111, r_X5_grow_114, r_X5_grow_117, r_X5_grow_118, r_X5_grow_121, r_X5_grow_123, r_X5_grow_125, r_X5_grow_126, r_X5_grow_127, r_X5_grow_130, r_X5_grow_132, r_X5_grow_133, r_X5_grow_134, r_X5_grow_137, r_X5_grow_138, r_X5_grow_140, r_X5_grow_141, r_X5_grow_144, r_X5_grow_147, r_X5_grow_148, r_X5_grow_148_0, r_X5_grow_148_1, r_X5_grow_149, r_X5_grow_151, r_X5_grow_153, r_X5_grow_156, r_X5_grow_157, r_X5_grow_160, r_X5_grow_162, r_X5_grow_165, r_X5_grow_166, r_X5_grow_169, r_X5_grow_171, r_X5_grow_172, r_X5_grow_173, r_X5_grow_176, r_X5_grow_179, r_X5_grow_182, r_X5_grow_185, r_X5_grow_186, r_X5_grow_186_0, r_X5_grow_186_1, gF_0, gF_1, gF_2, gF_3, gF_4, gF_5, gF_6, gF_7, gF_8, gF_9, gF_10, gF_11, gF_12, gF_13, gF_14, gF_15, gF_16, gF_17, pF_0, pF_1, pF_2, pF_3, pF_4, pF_5, pF_6, pF_7, pF_8, pF_9, pF_10, pF_11, pF_12, pF_13, pF_14, pF_15, pF_16, pF_17, gI_of, gL_of, gR_of, sI_of, sL_of, gN_of, gO_of, cl_i, cl_r, cl_l, cl_n, pu_s, pu_n, rV_s, hg_same, hg_ne, if_true, if_false, true_and, and_true, ne_eq, not_false_eq_true, not_true_eq_false, eq_self, reduceCtorEq, Nat.reduceAdd, nI_add, n_mul, n_sub, n_div, n_dec, n_dif, n_shl1, n_bit, n_eq0, n_0eq, n_eq, n_lt, n_le, n_lt0, n_ge0, n_gt0, n_le0, n_em1, n_m1e, n_m1lt0, n_m1ge0, n_m1gt0, n_m1eq0, n_m1lt, bI_eq0, bI_ne0, tb_eq0, tb_eq1, show ¬ n ≤ i by omega, y2, y27, y28, ei2, q31]
        refine ih (by omega) _ (up Qu e i) (e + 1) (up f31 e (nI i)) (hS.set (Or.inr rfl)) (by rw [hg_ne (by omega)]; exact q30) (hg_same _ _ _) hO2 (fun q hq => ?_) (fun x h1 h3 h4 => ?_) (fun q hq => ?_)
        · by_cases e1 : q = e
          · rw [e1, up_same]; exact ⟨hai, by omega, hcn⟩
          · rw [up_ne e1]; have := p1 q (by omega); exact ⟨this.1, by omega, this.2.2⟩
        · by_cases e1 : x = i
          · exact ⟨e, by omega, by rw [up_same]; exact e1.symm⟩
          · obtain ⟨q, q1, q2⟩ := p2 x h1 (by omega) h4
            exact ⟨q, by omega, by rw [up_ne (by omega)]; exact q2⟩
        · by_cases e1 : q = e
          · rw [e1, up_same, up_same]
          · rw [up_ne e1, up_ne e1]; exact w31 q (by omega)
  refine pre a ha (Nat.le_refl a) h (fun _ => 0) 0 f31 (Sm.rf _ h) g30 g31 ⟨fun i hi => by omega, ?_⟩ (fun q hq => by omega) (fun x h1 h3 => by omega) (fun q hq => by omega)
  show pc 0 n = 0
  rw [pc_sm, sm_0 n (fun i _ => tb_0 (Nat.zero_testBit i))]
