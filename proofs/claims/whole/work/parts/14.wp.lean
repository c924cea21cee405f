theorem j_fuel : ∀ (k d f : Nat) (s : j_S) (r : Option Value × j_H), j_ex k d f s = some r → j_ex (k + 1) d f s = some r := by
  intro k
  induction k with
  | zero => intro d f s r h; simp [j_ex] at h
  | succ k ih =>
    intro d f s r h
    rw [j_ex] at h ⊢
    cases hst : j_st f s with
    | none => rw [hst] at h; cases h
    | some x =>
      rw [hst] at h
      match x, h with
      | .inl s', h => exact ih d f s' r h
      | .inr (.inl q), h => exact h
      | .inr (.inr (g, as, s')), h =>
        cases d with
        | zero => cases h
        | succ d =>
          have h : (match j_ex k d g (0, j_en g as, [], s'.2.2.2) with | none => none | some (v, h') => j_ex k (d + 1) f (s'.1, s'.2.1, pu v s'.2.2.1, h')) = some r := h
          show (match j_ex (k + 1) d g (0, j_en g as, [], s'.2.2.2) with | none => none | some (v, h') => j_ex (k + 1) (d + 1) f (s'.1, s'.2.1, pu v s'.2.2.1, h')) = some r
          cases hc : j_ex k d g (0, j_en g as, [], s'.2.2.2) with
          | none => rw [hc] at h; cases h
          | some q =>
            obtain ⟨v, h1⟩ := q
            rw [hc] at h
            rw [ih d g _ _ hc]
            exact ih (d + 1) f _ r h
theorem j_fuel_le {k k' d f : Nat} {s : j_S} {r : Option Value × j_H} (hk : k ≤ k') (h : j_ex k d f s = some r) : j_ex k' d f s = some r := by
  induction hk with
  | refl => exact h
  | step _ ih => exact j_fuel _ d f s r ih
theorem j_deep : ∀ (k d f : Nat) (s : j_S) (r : Option Value × j_H), j_ex k d f s = some r → j_ex k (d + 1) f s = some r := by
  intro k
  induction k with
  | zero => intro d f s r h; simp [j_ex] at h
  | succ k ih =>
    intro d f s r h
    rw [j_ex] at h ⊢
    cases hst : j_st f s with
    | none => rw [hst] at h; cases h
    | some x =>
      rw [hst] at h
      match x, h with
      | .inl s', h => exact ih d f s' r h
      | .inr (.inl q), h => exact h
      | .inr (.inr (g, as, s')), h =>
        cases d with
        | zero => cases h
        | succ d =>
          have h : (match j_ex k d g (0, j_en g as, [], s'.2.2.2) with | none => none | some (v, h') => j_ex k (d + 1) f (s'.1, s'.2.1, pu v s'.2.2.1, h')) = some r := h
          show (match j_ex k (d + 1) g (0, j_en g as, [], s'.2.2.2) with | none => none | some (v, h') => j_ex k (d + 1 + 1) f (s'.1, s'.2.1, pu v s'.2.2.1, h')) = some r
          cases hc : j_ex k d g (0, j_en g as, [], s'.2.2.2) with
          | none => rw [hc] at h; cases h
          | some q =>
            obtain ⟨v, h1⟩ := q
            rw [hc] at h
            rw [ih d g _ _ hc]
            exact ih (d + 1) f _ r h
theorem WP.mono {d f pc : Nat} {ls : List (Option Value)} {st : List Value} {h : j_H} {P Q : Option Value → j_H → Prop} (hw : WP d f pc ls st h P) (hq : ∀ r h', P r h' → Q r h') : WP d f pc ls st h Q := by
  obtain ⟨k, r, h', h1, h2⟩ := hw
  exact ⟨k, r, h', h1, hq r h' h2⟩
theorem WP.deep {d d' f pc : Nat} {ls : List (Option Value)} {st : List Value} {h : j_H} {P : Option Value → j_H → Prop} (hw : WP d f pc ls st h P) (hd : d ≤ d') : WP d' f pc ls st h P := by
  obtain ⟨k, r, h', h1, h2⟩ := hw
  induction hd with
  | refl => exact ⟨k, r, h', h1, h2⟩
  | step _ ih =>
    obtain ⟨k, r, h', h1, h2⟩ := ih
    exact ⟨k, r, h', j_deep _ _ _ _ _ h1, h2⟩
theorem j_ex_det {k k' d f : Nat} {s : j_S} {r r' : Option Value × j_H} (h : j_ex k d f s = some r) (h' : j_ex k' d f s = some r') : r = r' := by
  have a := j_fuel_le (Nat.le_max_left k k') h
  have b := j_fuel_le (Nat.le_max_right k k') h'
  rw [a] at b
  exact Option.some.inj b
/-- a run whose answer and heap are known says all of a run -/
theorem WP.det {d f pc : Nat} {ls : List (Option Value)} {st : List Value} {h h1 : j_H} {r1 : Option Value} (hw : WP d f pc ls st h (fun r h' => r = r1 ∧ h' = h1)) (P : Option Value → j_H → Prop) : WP d f pc ls st h P = P r1 h1 := by
  obtain ⟨k, r, h', e, rfl, rfl⟩ := hw
  refine propext ⟨fun ⟨k2, r2, h2, e2, hp⟩ => ?_, fun hp => ⟨k, _, _, e, hp⟩⟩
  have := j_ex_det e e2
  cases this
  exact hp
theorem WP_n {d f pc pc' : Nat} {ls ls' : List (Option Value)} {st st' : List Value} {h h' : j_H} {Q : Option Value → j_H → Prop} (e : j_st f (pc, ls, st, h) = some (.inl (pc', ls', st', h'))) : WP d f pc ls st h Q = WP d f pc' ls' st' h' Q := by
  refine propext ⟨fun ⟨k, r, h1, e1, hp⟩ => ?_, fun ⟨k, r, h1, e1, hp⟩ => ⟨k + 1, r, h1, by rw [j_ex, e]; exact e1, hp⟩⟩
  cases k with
  | zero => simp [j_ex] at e1
  | succ k =>
    rw [j_ex, e] at e1
    exact ⟨k, r, h1, e1, hp⟩
theorem WP_0 {d f pc : Nat} {ls : List (Option Value)} {st : List Value} {h : j_H} {Q : Option Value → j_H → Prop} (e : j_st f (pc, ls, st, h) = none) : WP d f pc ls st h Q = False := by
  refine propext ⟨fun ⟨k, r, h1, e1, hp⟩ => ?_, fun h => h.elim⟩
  cases k with
  | zero => simp [j_ex] at e1
  | succ k => rw [j_ex, e] at e1; cases e1
theorem WP_r {d f pc : Nat} {ls : List (Option Value)} {st : List Value} {h h' : j_H} {r : Option Value} {Q : Option Value → j_H → Prop} (e : j_st f (pc, ls, st, h) = some (.inr (.inl (r, h')))) : WP d f pc ls st h Q = Q r h' := by
  refine propext ⟨fun ⟨k, r1, h1, e1, hp⟩ => ?_, fun hp => ⟨1, r, h', by rw [j_ex, e], hp⟩⟩
  cases k with
  | zero => simp [j_ex] at e1
  | succ k => rw [j_ex, e] at e1; cases e1; exact hp
theorem WP_c {d f pc pc' g : Nat} {ls ls' l0 : List (Option Value)} {st st' as : List Value} {h h' : j_H} {Q : Option Value → j_H → Prop} (e : j_st f (pc, ls, st, h) = some (.inr (.inr (g, as, (pc', ls', st', h'))))) (e0 : j_en g as = l0) : WP (d + 1) f pc ls st h Q = WP d g 0 l0 [] h' (fun v h1 => WP (d + 1) f pc' ls' (pu v st') h1 Q) := by
  subst e0
  refine propext ⟨fun ⟨k, r, h1, e1, hp⟩ => ?_, fun ⟨k, v, h1, e1, k2, r, h2, e2, hp⟩ => ?_⟩
  · cases k with
    | zero => simp [j_ex] at e1
    | succ k =>
      rw [j_ex, e] at e1
      have e1 : (match j_ex k d g (0, j_en g as, [], h') with | none => none | some (v, h1) => j_ex k (d + 1) f (pc', ls', pu v st', h1)) = some (r, h1) := e1
      cases hc : j_ex k d g (0, j_en g as, [], h') with
      | none => rw [hc] at e1; cases e1
      | some q =>
        obtain ⟨v, h2⟩ := q
        rw [hc] at e1
        exact ⟨k, v, h2, hc, k, r, h1, e1, hp⟩
  · refine ⟨max k k2 + 1, r, h2, ?_, hp⟩
    rw [j_ex, e]
    show (match j_ex (max k k2) d g (0, j_en g as, [], h') with | none => none | some (v, h1) => j_ex (max k k2) (d + 1) f (pc', ls', pu v st', h1)) = some (r, h2)
    rw [j_fuel_le (Nat.le_max_left k k2) e1]
    exact j_fuel_le (Nat.le_max_right k k2) e2
theorem j_steq {f pc : Nat} {o : j_O} {q : j_T × j_K} {s : j_S} (hi : j_ins f pc = some o) (hq : j_hs[o.1]? = some q) (hs : s.1 = pc) : j_st f s = q.1 o s := by
  subst hs
  simp only [j_st, hi, hq]
section WPK
variable {d f pc nx x y ix ps : Nat} {z : Int} {ls : List (Option Value)} {st : List Value} {h : j_H} {Q : Option Value → j_H → Prop}
theorem w_iload (hi : j_ins f pc = some (0, nx, x, y, z, ix, ps)) {v : Int32} (hl : ls[x]? = some (some (.int v))) : WP d f pc ls st h Q = WP d f nx ls (.int v :: st) h Q :=
  WP_n ((j_steq hi rfl rfl).trans (by show h_iload _ _ = _; simp only [h_iload, j_x, hl]; rfl))
theorem w_lload (hi : j_ins f pc = some (1, nx, x, y, z, ix, ps)) {v : Int64} (hl : ls[x]? = some (some (.long v))) : WP d f pc ls st h Q = WP d f nx ls (.long v :: st) h Q :=
  WP_n ((j_steq hi rfl rfl).trans (by show h_lload _ _ = _; simp only [h_lload, j_x, hl]; rfl))
theorem w_aload (hi : j_ins f pc = some (2, nx, x, y, z, ix, ps)) {v : Nat} (hl : ls[x]? = some (some (.ref v))) : WP d f pc ls st h Q = WP d f nx ls (.ref v :: st) h Q :=
  WP_n ((j_steq hi rfl rfl).trans (by show h_aload _ _ = _; simp only [h_aload, j_x, hl]; rfl))
theorem w_istore (hi : j_ins f pc = some (3, nx, x, y, z, ix, ps)) {v : Int32} {ls' : List (Option Value)} (hl : sto ls x (.int v) = ls') : WP d f pc ls (.int v :: st) h Q = WP d f nx ls' st h Q :=
  WP_n ((j_steq hi rfl rfl).trans (by subst hl; rfl))
theorem w_lstore (hi : j_ins f pc = some (4, nx, x, y, z, ix, ps)) {v : Int64} {ls' : List (Option Value)} (hl : st2 ls x (.long v) = ls') : WP d f pc ls (.long v :: st) h Q = WP d f nx ls' st h Q :=
  WP_n ((j_steq hi rfl rfl).trans (by subst hl; rfl))
theorem w_astore (hi : j_ins f pc = some (5, nx, x, y, z, ix, ps)) {v : Nat} {ls' : List (Option Value)} (hl : sto ls x (.ref v) = ls') : WP d f pc ls (.ref v :: st) h Q = WP d f nx ls' st h Q :=
  WP_n ((j_steq hi rfl rfl).trans (by subst hl; rfl))
theorem w_pushi (hi : j_ins f pc = some (6, nx, x, y, z, ix, ps)) {v : Int32} (hv : Int32.ofInt z = v) : WP d f pc ls st h Q = WP d f nx ls (.int v :: st) h Q :=
  WP_n ((j_steq hi rfl rfl).trans (by subst hv; rfl))
theorem w_pushl (hi : j_ins f pc = some (7, nx, x, y, z, ix, ps)) {v : Int64} (hv : Int64.ofInt z = v) : WP d f pc ls st h Q = WP d f nx ls (.long v :: st) h Q :=
  WP_n ((j_steq hi rfl rfl).trans (by subst hv; rfl))
theorem w_iinc (hi : j_ins f pc = some (8, nx, x, y, z, ix, ps)) {v c : Int32} {ls' : List (Option Value)} (hl : ls[x]? = some (some (.int v))) (hc : Int32.ofInt z = c) (hl2 : sto ls x (.int (v + c)) = ls') : WP d f pc ls st h Q = WP d f nx ls' st h Q :=
  WP_n ((j_steq hi rfl rfl).trans (by subst hc; subst hl2; show h_iinc _ _ = _; simp only [h_iinc, j_x, hl]))
theorem w_iadd (hi : j_ins f pc = some (9, nx, x, y, z, ix, ps)) {a b : Int32} : WP d f pc ls (.int b :: .int a :: st) h Q = WP d f nx ls (.int (a + b) :: st) h Q := WP_n (j_steq hi rfl rfl)
theorem w_isub (hi : j_ins f pc = some (10, nx, x, y, z, ix, ps)) {a b : Int32} : WP d f pc ls (.int b :: .int a :: st) h Q = WP d f nx ls (.int (a - b) :: st) h Q := WP_n (j_steq hi rfl rfl)
theorem w_imul (hi : j_ins f pc = some (11, nx, x, y, z, ix, ps)) {a b : Int32} : WP d f pc ls (.int b :: .int a :: st) h Q = WP d f nx ls (.int (a * b) :: st) h Q := WP_n (j_steq hi rfl rfl)
theorem w_iand (hi : j_ins f pc = some (12, nx, x, y, z, ix, ps)) {a b : Int32} : WP d f pc ls (.int b :: .int a :: st) h Q = WP d f nx ls (.int (a &&& b) :: st) h Q := WP_n (j_steq hi rfl rfl)
theorem w_ior (hi : j_ins f pc = some (13, nx, x, y, z, ix, ps)) {a b : Int32} : WP d f pc ls (.int b :: .int a :: st) h Q = WP d f nx ls (.int (a ||| b) :: st) h Q := WP_n (j_steq hi rfl rfl)
theorem w_ixor (hi : j_ins f pc = some (14, nx, x, y, z, ix, ps)) {a b : Int32} : WP d f pc ls (.int b :: .int a :: st) h Q = WP d f nx ls (.int (a ^^^ b) :: st) h Q := WP_n (j_steq hi rfl rfl)
theorem w_ishl (hi : j_ins f pc = some (15, nx, x, y, z, ix, ps)) {a b : Int32} : WP d f pc ls (.int b :: .int a :: st) h Q = WP d f nx ls (.int (a <<< (b &&& 31)) :: st) h Q := WP_n (j_steq hi rfl rfl)
theorem w_ishr (hi : j_ins f pc = some (16, nx, x, y, z, ix, ps)) {a b : Int32} : WP d f pc ls (.int b :: .int a :: st) h Q = WP d f nx ls (.int (a >>> (b &&& 31)) :: st) h Q := WP_n (j_steq hi rfl rfl)
theorem w_iushr (hi : j_ins f pc = some (17, nx, x, y, z, ix, ps)) {a b : Int32} : WP d f pc ls (.int b :: .int a :: st) h Q = WP d f nx ls (.int ((a.toUInt32 >>> (b.toUInt32 &&& Int32.toUInt32 31)).toInt32) :: st) h Q := WP_n (j_steq hi rfl rfl)
theorem w_ineg (hi : j_ins f pc = some (18, nx, x, y, z, ix, ps)) {a : Int32} : WP d f pc ls (.int a :: st) h Q = WP d f nx ls (.int (-a) :: st) h Q := WP_n (j_steq hi rfl rfl)
theorem w_idiv (hi : j_ins f pc = some (19, nx, x, y, z, ix, ps)) {a b : Int32} : WP d f pc ls (.int b :: .int a :: st) h Q = (b ≠ 0 ∧ WP d f nx ls (.int (a / b) :: st) h Q) := by
  have e2 : j_st f (pc, ls, .int b :: .int a :: st, h) = h_i2n (fun x y => x / y) (19, nx, x, y, z, ix, ps) (pc, ls, .int b :: .int a :: st, h) := j_steq hi rfl rfl
  simp only [h_i2n] at e2
  by_cases hb : b = 0
  · rw [if_pos hb] at e2; rw [WP_0 e2]; simp [hb]
  · rw [if_neg hb] at e2; rw [WP_n e2]; simp [hb]
theorem w_irem (hi : j_ins f pc = some (20, nx, x, y, z, ix, ps)) {a b : Int32} : WP d f pc ls (.int b :: .int a :: st) h Q = (b ≠ 0 ∧ WP d f nx ls (.int (a - a / b * b) :: st) h Q) := by
  have e2 : j_st f (pc, ls, .int b :: .int a :: st, h) = h_i2n (fun x y => x - x / y * y) (20, nx, x, y, z, ix, ps) (pc, ls, .int b :: .int a :: st, h) := j_steq hi rfl rfl
  simp only [h_i2n] at e2
  by_cases hb : b = 0
  · rw [if_pos hb] at e2; rw [WP_0 e2]; simp [hb]
  · rw [if_neg hb] at e2; rw [WP_n e2]; simp [hb]
theorem w_ladd (hi : j_ins f pc = some (21, nx, x, y, z, ix, ps)) {a b : Int64} : WP d f pc ls (.long b :: .long a :: st) h Q = WP d f nx ls (.long (a + b) :: st) h Q := WP_n (j_steq hi rfl rfl)
theorem w_lsub (hi : j_ins f pc = some (22, nx, x, y, z, ix, ps)) {a b : Int64} : WP d f pc ls (.long b :: .long a :: st) h Q = WP d f nx ls (.long (a - b) :: st) h Q := WP_n (j_steq hi rfl rfl)
theorem w_lmul (hi : j_ins f pc = some (23, nx, x, y, z, ix, ps)) {a b : Int64} : WP d f pc ls (.long b :: .long a :: st) h Q = WP d f nx ls (.long (a * b) :: st) h Q := WP_n (j_steq hi rfl rfl)
theorem w_ldiv (hi : j_ins f pc = some (24, nx, x, y, z, ix, ps)) {a b : Int64} : WP d f pc ls (.long b :: .long a :: st) h Q = (b ≠ 0 ∧ WP d f nx ls (.long (a / b) :: st) h Q) := by
  have e2 : j_st f (pc, ls, .long b :: .long a :: st, h) = h_l2n (fun x y => x / y) (24, nx, x, y, z, ix, ps) (pc, ls, .long b :: .long a :: st, h) := j_steq hi rfl rfl
  simp only [h_l2n] at e2
  by_cases hb : b = 0
  · rw [if_pos hb] at e2; rw [WP_0 e2]; simp [hb]
  · rw [if_neg hb] at e2; rw [WP_n e2]; simp [hb]
theorem w_lrem (hi : j_ins f pc = some (25, nx, x, y, z, ix, ps)) {a b : Int64} : WP d f pc ls (.long b :: .long a :: st) h Q = (b ≠ 0 ∧ WP d f nx ls (.long (a - a / b * b) :: st) h Q) := by
  have e2 : j_st f (pc, ls, .long b :: .long a :: st, h) = h_l2n (fun x y => x - x / y * y) (25, nx, x, y, z, ix, ps) (pc, ls, .long b :: .long a :: st, h) := j_steq hi rfl rfl
  simp only [h_l2n] at e2
  by_cases hb : b = 0
  · rw [if_pos hb] at e2; rw [WP_0 e2]; simp [hb]
  · rw [if_neg hb] at e2; rw [WP_n e2]; simp [hb]
theorem w_lneg (hi : j_ins f pc = some (26, nx, x, y, z, ix, ps)) {a : Int64} : WP d f pc ls (.long a :: st) h Q = WP d f nx ls (.long (-a) :: st) h Q := WP_n (j_steq hi rfl rfl)
theorem w_lcmp (hi : j_ins f pc = some (27, nx, x, y, z, ix, ps)) {a b : Int64} : WP d f pc ls (.long b :: .long a :: st) h Q = WP d f nx ls (.int (lg_cmp a b) :: st) h Q := WP_n (j_steq hi rfl rfl)
theorem w_i2l (hi : j_ins f pc = some (28, nx, x, y, z, ix, ps)) {a : Int32} : WP d f pc ls (.int a :: st) h Q = WP d f nx ls (.long a.toInt64 :: st) h Q := WP_n (j_steq hi rfl rfl)
theorem w_l2i (hi : j_ins f pc = some (29, nx, x, y, z, ix, ps)) {a : Int64} : WP d f pc ls (.long a :: st) h Q = WP d f nx ls (.int a.toInt32 :: st) h Q := WP_n (j_steq hi rfl rfl)
theorem w_ifeq (hi : j_ins f pc = some (30, nx, x, y, z, ix, ps)) {a : Int32} : WP d f pc ls (.int a :: st) h Q = (if a = 0 then WP d f x ls st h Q else WP d f nx ls st h Q) := by
  have e2 : j_st f (pc, ls, .int a :: st, h) = h_if (fun x => decide (x = 0)) (30, nx, x, y, z, ix, ps) (pc, ls, .int a :: st, h) := j_steq hi rfl rfl
  simp only [h_if, decide_eq_true_eq] at e2
  by_cases hc : a = 0
  · rw [if_pos hc] at e2 ⊢; exact WP_n e2
  · rw [if_neg hc] at e2 ⊢; exact WP_n e2
theorem w_iceq (hi : j_ins f pc = some (36, nx, x, y, z, ix, ps)) {a b : Int32} : WP d f pc ls (.int b :: .int a :: st) h Q = (if a = b then WP d f x ls st h Q else WP d f nx ls st h Q) := by
  have e2 : j_st f (pc, ls, .int b :: .int a :: st, h) = h_cmp (fun x y => decide (x = y)) (36, nx, x, y, z, ix, ps) (pc, ls, .int b :: .int a :: st, h) := j_steq hi rfl rfl
  simp only [h_cmp, decide_eq_true_eq] at e2
  by_cases hc : a = b
  · rw [if_pos hc] at e2 ⊢; exact WP_n e2
  · rw [if_neg hc] at e2 ⊢; exact WP_n e2
theorem w_ifne (hi : j_ins f pc = some (31, nx, x, y, z, ix, ps)) {a : Int32} : WP d f pc ls (.int a :: st) h Q = (if ¬ a = 0 then WP d f x ls st h Q else WP d f nx ls st h Q) := by
  have e2 : j_st f (pc, ls, .int a :: st, h) = h_if (fun x => decide (¬ x = 0)) (31, nx, x, y, z, ix, ps) (pc, ls, .int a :: st, h) := j_steq hi rfl rfl
  simp only [h_if, decide_eq_true_eq] at e2
  by_cases hc : ¬ a = 0
  · rw [if_pos hc] at e2 ⊢; exact WP_n e2
  · rw [if_neg hc] at e2 ⊢; exact WP_n e2
theorem w_icne (hi : j_ins f pc = some (37, nx, x, y, z, ix, ps)) {a b : Int32} : WP d f pc ls (.int b :: .int a :: st) h Q = (if ¬ a = b then WP d f x ls st h Q else WP d f nx ls st h Q) := by
  have e2 : j_st f (pc, ls, .int b :: .int a :: st, h) = h_cmp (fun x y => decide (¬ x = y)) (37, nx, x, y, z, ix, ps) (pc, ls, .int b :: .int a :: st, h) := j_steq hi rfl rfl
  simp only [h_cmp, decide_eq_true_eq] at e2
  by_cases hc : ¬ a = b
  · rw [if_pos hc] at e2 ⊢; exact WP_n e2
  · rw [if_neg hc] at e2 ⊢; exact WP_n e2
theorem w_iflt (hi : j_ins f pc = some (32, nx, x, y, z, ix, ps)) {a : Int32} : WP d f pc ls (.int a :: st) h Q = (if a < 0 then WP d f x ls st h Q else WP d f nx ls st h Q) := by
  have e2 : j_st f (pc, ls, .int a :: st, h) = h_if (fun x => decide (x < 0)) (32, nx, x, y, z, ix, ps) (pc, ls, .int a :: st, h) := j_steq hi rfl rfl
  simp only [h_if, decide_eq_true_eq] at e2
  by_cases hc : a < 0
  · rw [if_pos hc] at e2 ⊢; exact WP_n e2
  · rw [if_neg hc] at e2 ⊢; exact WP_n e2
theorem w_iclt (hi : j_ins f pc = some (38, nx, x, y, z, ix, ps)) {a b : Int32} : WP d f pc ls (.int b :: .int a :: st) h Q = (if a < b then WP d f x ls st h Q else WP d f nx ls st h Q) := by
  have e2 : j_st f (pc, ls, .int b :: .int a :: st, h) = h_cmp (fun x y => decide (x < y)) (38, nx, x, y, z, ix, ps) (pc, ls, .int b :: .int a :: st, h) := j_steq hi rfl rfl
  simp only [h_cmp, decide_eq_true_eq] at e2
  by_cases hc : a < b
  · rw [if_pos hc] at e2 ⊢; exact WP_n e2
  · rw [if_neg hc] at e2 ⊢; exact WP_n e2
theorem w_ifge (hi : j_ins f pc = some (33, nx, x, y, z, ix, ps)) {a : Int32} : WP d f pc ls (.int a :: st) h Q = (if 0 ≤ a then WP d f x ls st h Q else WP d f nx ls st h Q) := by
  have e2 : j_st f (pc, ls, .int a :: st, h) = h_if (fun x => decide (0 ≤ x)) (33, nx, x, y, z, ix, ps) (pc, ls, .int a :: st, h) := j_steq hi rfl rfl
  simp only [h_if, decide_eq_true_eq] at e2
  by_cases hc : 0 ≤ a
  · rw [if_pos hc] at e2 ⊢; exact WP_n e2
  · rw [if_neg hc] at e2 ⊢; exact WP_n e2
theorem w_icge (hi : j_ins f pc = some (39, nx, x, y, z, ix, ps)) {a b : Int32} : WP d f pc ls (.int b :: .int a :: st) h Q = (if b ≤ a then WP d f x ls st h Q else WP d f nx ls st h Q) := by
  have e2 : j_st f (pc, ls, .int b :: .int a :: st, h) = h_cmp (fun x y => decide (y ≤ x)) (39, nx, x, y, z, ix, ps) (pc, ls, .int b :: .int a :: st, h) := j_steq hi rfl rfl
  simp only [h_cmp, decide_eq_true_eq] at e2
  by_cases hc : b ≤ a
  · rw [if_pos hc] at e2 ⊢; exact WP_n e2
  · rw [if_neg hc] at e2 ⊢; exact WP_n e2
theorem w_ifgt (hi : j_ins f pc = some (34, nx, x, y, z, ix, ps)) {a : Int32} : WP d f pc ls (.int a :: st) h Q = (if 0 < a then WP d f x ls st h Q else WP d f nx ls st h Q) := by
  have e2 : j_st f (pc, ls, .int a :: st, h) = h_if (fun x => decide (0 < x)) (34, nx, x, y, z, ix, ps) (pc, ls, .int a :: st, h) := j_steq hi rfl rfl
  simp only [h_if, decide_eq_true_eq] at e2
  by_cases hc : 0 < a
  · rw [if_pos hc] at e2 ⊢; exact WP_n e2
  · rw [if_neg hc] at e2 ⊢; exact WP_n e2
theorem w_icgt (hi : j_ins f pc = some (40, nx, x, y, z, ix, ps)) {a b : Int32} : WP d f pc ls (.int b :: .int a :: st) h Q = (if b < a then WP d f x ls st h Q else WP d f nx ls st h Q) := by
  have e2 : j_st f (pc, ls, .int b :: .int a :: st, h) = h_cmp (fun x y => decide (y < x)) (40, nx, x, y, z, ix, ps) (pc, ls, .int b :: .int a :: st, h) := j_steq hi rfl rfl
  simp only [h_cmp, decide_eq_true_eq] at e2
  by_cases hc : b < a
  · rw [if_pos hc] at e2 ⊢; exact WP_n e2
  · rw [if_neg hc] at e2 ⊢; exact WP_n e2
theorem w_ifle (hi : j_ins f pc = some (35, nx, x, y, z, ix, ps)) {a : Int32} : WP d f pc ls (.int a :: st) h Q = (if a ≤ 0 then WP d f x ls st h Q else WP d f nx ls st h Q) := by
  have e2 : j_st f (pc, ls, .int a :: st, h) = h_if (fun x => decide (x ≤ 0)) (35, nx, x, y, z, ix, ps) (pc, ls, .int a :: st, h) := j_steq hi rfl rfl
  simp only [h_if, decide_eq_true_eq] at e2
  by_cases hc : a ≤ 0
  · rw [if_pos hc] at e2 ⊢; exact WP_n e2
  · rw [if_neg hc] at e2 ⊢; exact WP_n e2
theorem w_icle (hi : j_ins f pc = some (41, nx, x, y, z, ix, ps)) {a b : Int32} : WP d f pc ls (.int b :: .int a :: st) h Q = (if a ≤ b then WP d f x ls st h Q else WP d f nx ls st h Q) := by
  have e2 : j_st f (pc, ls, .int b :: .int a :: st, h) = h_cmp (fun x y => decide (x ≤ y)) (41, nx, x, y, z, ix, ps) (pc, ls, .int b :: .int a :: st, h) := j_steq hi rfl rfl
  simp only [h_cmp, decide_eq_true_eq] at e2
  by_cases hc : a ≤ b
  · rw [if_pos hc] at e2 ⊢; exact WP_n e2
  · rw [if_neg hc] at e2 ⊢; exact WP_n e2
theorem w_goto (hi : j_ins f pc = some (42, nx, x, y, z, ix, ps)) : WP d f pc ls st h Q = WP d f x ls st h Q := WP_n (j_steq hi rfl rfl)
theorem w_sw (hi : j_ins f pc = some (43, nx, x, y, z, ix, ps)) {a : Int32} : WP d f pc ls (.int a :: st) h Q = (if a.toInt < z ∨ (y : Int) < a.toInt then WP d f x ls st h Q else match (j_swt ps).2.2[(a.toInt - z).toNat]? with | some t => WP d f t ls st h Q | none => False) := by
  have e2 : j_st f (pc, ls, .int a :: st, h) = h_sw (43, nx, x, y, z, ix, ps) (pc, ls, .int a :: st, h) := j_steq hi rfl rfl
  simp only [h_sw, j_z, j_yy, j_ps] at e2
  by_cases hc : a.toInt < z ∨ (y : Int) < a.toInt
  · rw [if_pos hc] at e2 ⊢; exact WP_n e2
  · rw [if_neg hc] at e2 ⊢
    cases ht : (j_swt ps).2.2[(a.toInt - z).toNat]? with
    | none => rw [ht] at e2; exact WP_0 e2
    | some t => rw [ht] at e2; exact WP_n e2
theorem w_dupi (hi : j_ins f pc = some (44, nx, x, y, z, ix, ps)) {a : Int32} : WP d f pc ls (.int a :: st) h Q = WP d f nx ls (.int a :: .int a :: st) h Q := WP_n (j_steq hi rfl rfl)
theorem w_dupr (hi : j_ins f pc = some (44, nx, x, y, z, ix, ps)) {a : Nat} : WP d f pc ls (.ref a :: st) h Q = WP d f nx ls (.ref a :: .ref a :: st) h Q := WP_n (j_steq hi rfl rfl)
theorem w_dup2 (hi : j_ins f pc = some (45, nx, x, y, z, ix, ps)) {a : Int32} {b : Nat} : WP d f pc ls (.int a :: .ref b :: st) h Q = WP d f nx ls (.int a :: .ref b :: .int a :: .ref b :: st) h Q := WP_n (j_steq hi rfl rfl)
theorem w_popi (hi : j_ins f pc = some (46, nx, x, y, z, ix, ps)) {a : Int32} : WP d f pc ls (.int a :: st) h Q = WP d f nx ls st h Q := WP_n (j_steq hi rfl rfl)
/-- a field of an object -/
def gF (c : Option j_C) (ci k : Nat) (P : Value → Prop) : Prop := ∃ fs v, c = some (oB ci fs) ∧ fs[k]? = some v ∧ P v
theorem gF_of {ci k : Nat} {fs : List Value} {v : Value} {P : Value → Prop} (hv : fs[k]? = some v) : gF (some (oB ci fs)) ci k P = P v := by
  refine propext ⟨fun ⟨fs', v', e1, e2, hp⟩ => ?_, fun hp => ⟨fs, v, rfl, hv, hp⟩⟩
  have e1 : fs = fs' := by
    simp only [oB, Option.some.injEq, Sum.inr.injEq, Prod.mk.injEq, true_and] at e1
    exact e1
  subst e1
  rw [hv] at e2
  cases e2
  exact hp
theorem w_get (hi : j_ins f pc = some (47, nx, x, y, z, ix, ps)) {a : Nat} : WP d f pc ls (.ref a :: st) h Q = gF (hg h a) x y (fun v => WP d f nx ls (v :: st) h Q) := by
  have e := j_steq (s := (pc, ls, .ref a :: st, h)) hi rfl rfl
  have e2 : j_st f (pc, ls, .ref a :: st, h) = h_get (47, nx, x, y, z, ix, ps) (pc, ls, .ref a :: st, h) := e
  simp only [h_get, j_x, j_yy] at e2
  refine propext ⟨fun hw => ?_, fun ⟨fs, v, h1, h2, hw⟩ => ?_⟩
  · cases hc : hg h a with
    | none => rw [hc] at e2; rw [WP_0 e2] at hw; exact hw.elim
    | some c =>
      rw [hc] at e2
      match c, hc, e2 with
      | .inl _, hc, e2 => rw [WP_0 e2] at hw; exact hw.elim
      | .inr (.inl _), hc, e2 => rw [WP_0 e2] at hw; exact hw.elim
      | .inr (.inr (.inl _)), hc, e2 => rw [WP_0 e2] at hw; exact hw.elim
      | .inr (.inr (.inr (k, fs))), hc, e2 =>
        simp only at e2
        by_cases hk : k = x
        · subst hk
          rw [if_pos rfl] at e2
          cases hv : fs[y]? with
          | none => rw [hv] at e2; rw [WP_0 e2] at hw; exact hw.elim
          | some v => rw [hv] at e2; rw [WP_n e2] at hw; exact ⟨fs, v, rfl, hv, hw⟩
        · rw [if_neg hk] at e2; rw [WP_0 e2] at hw; exact hw.elim
  · rw [h1] at e2
    simp only [oB, if_true] at e2
    rw [h2] at e2
    rw [WP_n e2]
    exact hw
theorem w_put (hi : j_ins f pc = some (48, nx, x, y, z, ix, ps)) {a : Nat} {v : Value} {fs : List Value} (hc : hg h a = some (oB x fs)) (hl : y < fs.length) (hv : j_pv z v = true) : WP d f pc ls (v :: .ref a :: st) h Q = WP d f nx ls st (hs h a (oB x (fs.set y v))) Q := by
  have e := j_steq (s := (pc, ls, v :: .ref a :: st, h)) hi rfl rfl
  have e2 : j_st f (pc, ls, v :: .ref a :: st, h) = h_put (48, nx, x, y, z, ix, ps) (pc, ls, v :: .ref a :: st, h) := e
  simp only [h_put, j_x, j_yy, j_z, hc] at e2
  simp only [oB, hl, hv, true_and, if_true, and_self] at e2
  exact WP_n e2
/-- a cell of a row of ints that is within -/
def gI (c : Option j_C) (i : Int32) (P : Int32 → Prop) : Prop := ∃ n f, c = some (aI n f) ∧ ¬ (i < 0 ∨ n ≤ i.toNatClampNeg) ∧ P (f i.toNatClampNeg)
def gL (c : Option j_C) (i : Int32) (P : Int64 → Prop) : Prop := ∃ n f, c = some (aL n f) ∧ ¬ (i < 0 ∨ n ≤ i.toNatClampNeg) ∧ P (f i.toNatClampNeg)
def gR (c : Option j_C) (i : Int32) (P : Option Nat → Prop) : Prop := ∃ n f, c = some (aR n f) ∧ ¬ (i < 0 ∨ n ≤ i.toNatClampNeg) ∧ P (f i.toNatClampNeg)
theorem aI_inj {n n' : Nat} {f f' : Nat → Int32} (e : some (aI n f) = some (aI n' f')) : n = n' ∧ f = f' := by
  simp only [aI, Option.some.injEq, Sum.inl.injEq, Prod.mk.injEq] at e; exact e
theorem aL_inj {n n' : Nat} {f f' : Nat → Int64} (e : some (aL n f) = some (aL n' f')) : n = n' ∧ f = f' := by
  simp only [aL, Option.some.injEq, Sum.inr.injEq, Sum.inl.injEq, Prod.mk.injEq] at e; exact e
theorem aR_inj {n n' : Nat} {f f' : Nat → Option Nat} (e : some (aR n f) = some (aR n' f')) : n = n' ∧ f = f' := by
  simp only [aR, Option.some.injEq, Sum.inr.injEq, Sum.inl.injEq, Prod.mk.injEq] at e; exact e
theorem nI_bd {j n : Nat} (hj : j < n) (hn : n < 2 ^ 31) : ¬ (nI j < 0 ∨ n ≤ (nI j).toNatClampNeg) := nI_in hj hn
theorem gI_of {n j : Nat} {f : Nat → Int32} {P : Int32 → Prop} (hj : j < n) (hn : n < 2 ^ 31) : gI (some (aI n f)) (nI j) P = P (f j) := by
  refine propext ⟨fun ⟨n', f', e, h1, h2⟩ => ?_, fun hp => ⟨n, f, rfl, nI_bd hj hn, by rw [nI_clamp (by omega)]; exact hp⟩⟩
  obtain ⟨rfl, rfl⟩ := aI_inj e
  rw [nI_clamp (by omega)] at h2
  exact h2
theorem gL_of {n j : Nat} {f : Nat → Int64} {P : Int64 → Prop} (hj : j < n) (hn : n < 2 ^ 31) : gL (some (aL n f)) (nI j) P = P (f j) := by
  refine propext ⟨fun ⟨n', f', e, h1, h2⟩ => ?_, fun hp => ⟨n, f, rfl, nI_bd hj hn, by rw [nI_clamp (by omega)]; exact hp⟩⟩
  obtain ⟨rfl, rfl⟩ := aL_inj e
  rw [nI_clamp (by omega)] at h2
  exact h2
theorem gR_of {n j : Nat} {f : Nat → Option Nat} {P : Option Nat → Prop} (hj : j < n) (hn : n < 2 ^ 31) : gR (some (aR n f)) (nI j) P = P (f j) := by
  refine propext ⟨fun ⟨n', f', e, h1, h2⟩ => ?_, fun hp => ⟨n, f, rfl, nI_bd hj hn, by rw [nI_clamp (by omega)]; exact hp⟩⟩
  obtain ⟨rfl, rfl⟩ := aR_inj e
  rw [nI_clamp (by omega)] at h2
  exact h2
theorem w_iald (hi : j_ins f pc = some (49, nx, x, y, z, ix, ps)) {a : Nat} {i : Int32} : WP d f pc ls (.int i :: .ref a :: st) h Q = gI (hg h a) i (fun v => WP d f nx ls (.int v :: st) h Q) := by
  have e2 : j_st f (pc, ls, .int i :: .ref a :: st, h) = h_iald (49, nx, x, y, z, ix, ps) (pc, ls, .int i :: .ref a :: st, h) := j_steq hi rfl rfl
  simp only [h_iald] at e2
  refine propext ⟨fun hw => ?_, fun ⟨n, g, h1, h2, hw⟩ => ?_⟩
  · cases hc : hg h a with
    | none => rw [hc] at e2; rw [WP_0 e2] at hw; exact hw.elim
    | some c =>
      rw [hc] at e2
      match c, hc, e2 with
      | .inr _, hc, e2 => rw [WP_0 e2] at hw; exact hw.elim
      | .inl (n, g), hc, e2 =>
        simp only at e2
        by_cases hk : i < 0 ∨ n ≤ i.toNatClampNeg
        · rw [if_pos hk] at e2; rw [WP_0 e2] at hw; exact hw.elim
        · rw [if_neg hk] at e2; rw [WP_n e2] at hw; exact ⟨n, g, rfl, hk, hw⟩
  · rw [h1] at e2
    simp only [aI] at e2
    rw [if_neg h2] at e2
    rw [WP_n e2]
    exact hw
theorem w_lald (hi : j_ins f pc = some (51, nx, x, y, z, ix, ps)) {a : Nat} {i : Int32} : WP d f pc ls (.int i :: .ref a :: st) h Q = gL (hg h a) i (fun v => WP d f nx ls (.long v :: st) h Q) := by
  have e2 : j_st f (pc, ls, .int i :: .ref a :: st, h) = h_lald (51, nx, x, y, z, ix, ps) (pc, ls, .int i :: .ref a :: st, h) := j_steq hi rfl rfl
  simp only [h_lald] at e2
  refine propext ⟨fun hw => ?_, fun ⟨n, g, h1, h2, hw⟩ => ?_⟩
  · cases hc : hg h a with
    | none => rw [hc] at e2; rw [WP_0 e2] at hw; exact hw.elim
    | some c =>
      rw [hc] at e2
      match c, hc, e2 with
      | .inl _, hc, e2 => rw [WP_0 e2] at hw; exact hw.elim
      | .inr (.inr _), hc, e2 => rw [WP_0 e2] at hw; exact hw.elim
      | .inr (.inl (n, g)), hc, e2 =>
        simp only at e2
        by_cases hk : i < 0 ∨ n ≤ i.toNatClampNeg
        · rw [if_pos hk] at e2; rw [WP_0 e2] at hw; exact hw.elim
        · rw [if_neg hk] at e2; rw [WP_n e2] at hw; exact ⟨n, g, rfl, hk, hw⟩
  · rw [h1] at e2
    simp only [aL] at e2
    rw [if_neg h2] at e2
    rw [WP_n e2]
    exact hw
theorem w_aald (hi : j_ins f pc = some (53, nx, x, y, z, ix, ps)) {a : Nat} {i : Int32} : WP d f pc ls (.int i :: .ref a :: st) h Q = gR (hg h a) i (fun v => WP d f nx ls (rV v :: st) h Q) := by
  have e2 : j_st f (pc, ls, .int i :: .ref a :: st, h) = h_aald (53, nx, x, y, z, ix, ps) (pc, ls, .int i :: .ref a :: st, h) := j_steq hi rfl rfl
  simp only [h_aald] at e2
  refine propext ⟨fun hw => ?_, fun ⟨n, g, h1, h2, hw⟩ => ?_⟩
  · cases hc : hg h a with
    | none => rw [hc] at e2; rw [WP_0 e2] at hw; exact hw.elim
    | some c =>
      rw [hc] at e2
      match c, hc, e2 with
      | .inl _, hc, e2 => rw [WP_0 e2] at hw; exact hw.elim
      | .inr (.inl _), hc, e2 => rw [WP_0 e2] at hw; exact hw.elim
      | .inr (.inr (.inr _)), hc, e2 => rw [WP_0 e2] at hw; exact hw.elim
      | .inr (.inr (.inl (n, g))), hc, e2 =>
        simp only at e2
        by_cases hk : i < 0 ∨ n ≤ i.toNatClampNeg
        · rw [if_pos hk] at e2; rw [WP_0 e2] at hw; exact hw.elim
        · rw [if_neg hk] at e2; rw [WP_n e2] at hw; exact ⟨n, g, rfl, hk, hw⟩
  · rw [h1] at e2
    simp only [aR] at e2
    rw [if_neg h2] at e2
    rw [WP_n e2]
    exact hw
theorem w_iast (hi : j_ins f pc = some (50, nx, x, y, z, ix, ps)) {a n j : Nat} {v : Int32} {g : Nat → Int32} (hc : hg h a = some (aI n g)) (hj : j < n) (hn : n < 2 ^ 31) (ha : a ≠ 0) : WP d f pc ls (.int v :: .int (nI j) :: .ref a :: st) h Q = WP d f nx ls st (hs h a (aI n (up g j v))) Q := by
  have e2 : j_st f (pc, ls, .int v :: .int (nI j) :: .ref a :: st, h) = h_iast (50, nx, x, y, z, ix, ps) (pc, ls, .int v :: .int (nI j) :: .ref a :: st, h) := j_steq hi rfl rfl
  simp only [h_iast, hc] at e2
  simp only [aI] at e2
  rw [if_neg (fun q => q.elim (nI_bd hj hn) ha), nI_clamp (by omega)] at e2
  exact WP_n e2
theorem w_last (hi : j_ins f pc = some (52, nx, x, y, z, ix, ps)) {a n j : Nat} {v : Int64} {g : Nat → Int64} (hc : hg h a = some (aL n g)) (hj : j < n) (hn : n < 2 ^ 31) : WP d f pc ls (.long v :: .int (nI j) :: .ref a :: st) h Q = WP d f nx ls st (hs h a (aL n (up g j v))) Q := by
  have e2 : j_st f (pc, ls, .long v :: .int (nI j) :: .ref a :: st, h) = h_last (52, nx, x, y, z, ix, ps) (pc, ls, .long v :: .int (nI j) :: .ref a :: st, h) := j_steq hi rfl rfl
  simp only [h_last, hc] at e2
  simp only [aL] at e2
  rw [if_neg (nI_bd hj hn), nI_clamp (by omega)] at e2
  exact WP_n e2
theorem w_aast (hi : j_ins f pc = some (54, nx, x, y, z, ix, ps)) {a n n2 j v : Nat} {g : Nat → Option Nat} {g2 : Nat → Int32} (hc : hg h a = some (aR n g)) (hv : hg h v = some (aI n2 g2)) (hj : j < n) (hn : n < 2 ^ 31) (h0 : v ≠ 0) : WP d f pc ls (.ref v :: .int (nI j) :: .ref a :: st) h Q = WP d f nx ls st (hs h a (aR n (up g j (some v)))) Q := by
  have e2 : j_st f (pc, ls, .ref v :: .int (nI j) :: .ref a :: st, h) = h_aast (54, nx, x, y, z, ix, ps) (pc, ls, .ref v :: .int (nI j) :: .ref a :: st, h) := j_steq hi rfl rfl
  simp only [h_aast, hc, hv] at e2
  simp only [aR, aI] at e2
  rw [if_neg (fun q => q.elim (nI_bd hj hn) h0), nI_clamp (by omega)] at e2
  exact WP_n e2
theorem w_alen (hi : j_ins f pc = some (55, nx, x, y, z, ix, ps)) {a n : Nat} {g : Nat → Int32} (hc : hg h a = some (aI n g)) : WP d f pc ls (.ref a :: st) h Q = WP d f nx ls (.int (nI n) :: st) h Q := by
  have e2 : j_st f (pc, ls, .ref a :: st, h) = h_alen (55, nx, x, y, z, ix, ps) (pc, ls, .ref a :: st, h) := j_steq hi rfl rfl
  simp only [h_alen, hc] at e2
  simp only [aI] at e2
  exact WP_n e2
theorem w_new (hi : j_ins f pc = some (56, nx, x, y, z, ix, ps)) : WP d f pc ls st h Q = WP d f nx ls (.ref h.1 :: st) (hn h (j_nf x) (oB x (j_df x))) Q := WP_n (j_steq hi rfl rfl)
theorem w_nai (hi : j_ins f pc = some (57, nx, x, y, z, ix, ps)) {n : Nat} (hn1 : n ≤ 10000) : WP d f pc ls (.int (nI n) :: st) h Q = WP d f nx ls (.ref h.1 :: st) (hn h n (aI n (fun _ => 0))) Q := by
  have e2 : j_st f (pc, ls, .int (nI n) :: st, h) = h_nai (57, nx, x, y, z, ix, ps) (pc, ls, .int (nI n) :: st, h) := j_steq hi rfl rfl
  simp only [h_nai] at e2
  rw [if_neg (by rw [nI_clamp (by omega)]; exact fun q => q.elim (nI_pos (by omega)) (by omega)), nI_clamp (by omega)] at e2
  exact WP_n e2
theorem w_nal (hi : j_ins f pc = some (58, nx, x, y, z, ix, ps)) {n : Nat} (hn1 : n ≤ 10000) : WP d f pc ls (.int (nI n) :: st) h Q = WP d f nx ls (.ref h.1 :: st) (hn h n (aL n (fun _ => 0))) Q := by
  have e2 : j_st f (pc, ls, .int (nI n) :: st, h) = h_nal (58, nx, x, y, z, ix, ps) (pc, ls, .int (nI n) :: st, h) := j_steq hi rfl rfl
  simp only [h_nal] at e2
  rw [if_neg (by rw [nI_clamp (by omega)]; exact fun q => q.elim (nI_pos (by omega)) (by omega)), nI_clamp (by omega)] at e2
  exact WP_n e2
theorem w_mna (hi : j_ins f pc = some (59, nx, x, y, z, ix, ps)) {n k : Nat} (hn1 : n ≤ 10000) (hk1 : k ≤ 10000) : WP d f pc ls (.int (nI k) :: .int (nI n) :: st) h Q = WP d f nx ls (.ref h.1 :: st) (hm h n k) Q := by
  have e2 : j_st f (pc, ls, .int (nI k) :: .int (nI n) :: st, h) = h_mna (59, nx, x, y, z, ix, ps) (pc, ls, .int (nI k) :: .int (nI n) :: st, h) := j_steq hi rfl rfl
  simp only [h_mna] at e2
  rw [if_neg (by rw [nI_clamp (by omega), nI_clamp (by omega)]; exact fun q => q.elim (fun q => q.elim (nI_pos (by omega)) (by omega)) (fun q => q.elim (nI_pos (by omega)) (by omega))), nI_clamp (by omega), nI_clamp (by omega)] at e2
  exact WP_n e2
theorem w_obj (hi : j_ins f pc = some (60, nx, x, y, z, ix, ps)) {a : Nat} (hl : st.length ≤ 4) : WP d f pc ls (.ref a :: st) h Q = WP d f nx ls st h Q := by
  have e2 : j_st f (pc, ls, .ref a :: st, h) = h_obj (60, nx, x, y, z, ix, ps) (pc, ls, .ref a :: st, h) := j_steq hi rfl rfl
  simp only [h_obj, if_pos hl] at e2
  exact WP_n e2
theorem w_sta (hi : j_ins f pc = some (61, nx, x, y, z, ix, ps)) {as r : List Value} {l0 : List (Option Value)} (h1 : h_sta (61, nx, x, y, z, ix, ps) (pc, ls, st, h) = some (.inr (.inr (x, as, (nx, ls, r, h))))) (h2 : j_en x as = l0) : WP (d + 1) f pc ls st h Q = WP d x 0 l0 [] h (fun v h1 => WP (d + 1) f nx ls (pu v r) h1 Q) := WP_c ((j_steq hi rfl rfl).trans h1) h2
/-- the object that a call is made on is of that class -/
def gO (c : Option j_C) (ci : Nat) (P : Prop) : Prop := (∃ fs, c = some (oB ci fs)) ∧ P
theorem gO_of {ci : Nat} {fs : List Value} {P : Prop} : gO (some (oB ci fs)) ci P = P := propext ⟨fun q => q.2, fun q => ⟨⟨fs, rfl⟩, q⟩⟩
theorem w_vir {k : Nat} (hk : k = 62 ∨ k = 63) {ci : Nat} (hi : j_ins f pc = some (k, nx, x, y, (ci : Int), ix, ps)) {b : Nat} {as r : List Value} {l0 : List (Option Value)} (h1 : (st.take (y + 1)).reverse = .ref b :: as) (h2 : as.length = y) (h3 : st.drop (y + 1) = r) (h4 : r.length ≤ 4) (h5 : (fl (.ref b :: as)).length ≤ j_ml x) (h6 : j_en x (.ref b :: as) = l0) : WP (d + 1) f pc ls st h Q = gO (hg h b) ci (WP d x 0 l0 [] h (fun v h1 => WP (d + 1) f nx ls (pu v r) h1 Q)) := by
  have e2 : j_st f (pc, ls, st, h) = h_vir (k, nx, x, y, ci, ix, ps) (pc, ls, st, h) := by
    rcases hk with rfl | rfl <;> exact j_steq hi rfl rfl
  simp only [h_vir, j_yy, h1, h2, if_true] at e2
  refine propext ⟨fun hw => ?_, fun ⟨⟨fs, h7⟩, hw⟩ => ?_⟩
  · cases hc : hg h b with
    | none => rw [hc] at e2; rw [WP_0 e2] at hw; exact hw.elim
    | some c =>
      rw [hc] at e2
      match c, hc, e2 with
      | .inl _, hc, e2 => rw [WP_0 e2] at hw; exact hw.elim
      | .inr (.inl _), hc, e2 => rw [WP_0 e2] at hw; exact hw.elim
      | .inr (.inr (.inl _)), hc, e2 => rw [WP_0 e2] at hw; exact hw.elim
      | .inr (.inr (.inr (k', fs))), hc, e2 =>
        simp only [j_z] at e2
        by_cases hk : (k' : Int) = ci
        · rw [if_pos hk] at e2
          simp only [j_call, h3, j_x] at e2
          rw [if_pos ⟨h4, h5⟩] at e2
          rw [WP_c e2 h6] at hw
          exact ⟨⟨fs, by rw [show k' = ci by omega]; rfl⟩, hw⟩
        · rw [if_neg hk] at e2; rw [WP_0 e2] at hw; exact hw.elim
  · rw [h7] at e2
    simp only [oB, j_z, if_true, j_call, h3, j_x] at e2
    rw [if_pos ⟨h4, h5⟩] at e2
    rw [WP_c e2 h6]
    exact hw
theorem w_spe (hi : j_ins f pc = some (64, nx, x, y, z, ix, ps)) {as r : List Value} {l0 : List (Option Value)} (h1 : h_spe (64, nx, x, y, z, ix, ps) (pc, ls, st, h) = some (.inr (.inr (x, as, (nx, ls, r, h))))) (h2 : j_en x as = l0) : WP (d + 1) f pc ls st h Q = WP d x 0 l0 [] h (fun v h1 => WP (d + 1) f nx ls (pu v r) h1 Q) := WP_c ((j_steq hi rfl rfl).trans h1) h2
theorem w_iret (hi : j_ins f pc = some (65, nx, x, y, 0, ix, ps)) {v : Int32} : WP d f pc ls [.int v] h Q = Q (some (.int v)) h := by
  have e2 : j_st f (pc, ls, [.int v], h) = h_iret (65, nx, x, y, 0, ix, ps) (pc, ls, [.int v], h) := j_steq hi rfl rfl
  simp only [h_iret, j_z, true_or, if_true] at e2
  exact WP_r e2
theorem w_zret (hi : j_ins f pc = some (65, nx, x, y, z, ix, ps)) {v : Int32} (hv : v = 0 ∨ v = 1) : WP d f pc ls [.int v] h Q = Q (some (.int v)) h := by
  have e2 : j_st f (pc, ls, [.int v], h) = h_iret (65, nx, x, y, z, ix, ps) (pc, ls, [.int v], h) := j_steq hi rfl rfl
  simp only [h_iret, hv, or_true, if_true] at e2
  exact WP_r e2
theorem w_lret (hi : j_ins f pc = some (66, nx, x, y, z, ix, ps)) {v : Int64} : WP d f pc ls [.long v] h Q = Q (some (.long v)) h := WP_r (j_steq hi rfl rfl)
theorem w_ret (hi : j_ins f pc = some (67, nx, x, y, z, ix, ps)) : WP d f pc ls [] h Q = Q none h := WP_r (j_steq hi rfl rfl)
theorem w_cpy (hi : j_ins f pc = some (68, nx, x, y, z, ix, ps)) {a a0 n0 n1 sp dp n : Nat} {g0 g1 : Nat → Int32} (hl : st.length ≤ 4) (h0 : hg h a0 = some (aI n0 g0)) (h1 : hg h a = some (aI n1 g1)) (i1 : a ≠ 0) (i2 : a0 ≠ 0) (i3 : a ≠ a0) (i4 : sp + n ≤ n0) (i5 : dp + n ≤ n1) (i6 : n0 < 2 ^ 31) (i7 : n1 < 2 ^ 31) : WP d f pc ls (.int (nI n) :: .int (nI dp) :: .ref a :: .int (nI sp) :: .ref a0 :: st) h Q = WP d f nx ls st (hs h a (aI n1 (va_cpy g0 g1 sp dp n))) Q := by
  have e2 : j_st f (pc, ls, .int (nI n) :: .int (nI dp) :: .ref a :: .int (nI sp) :: .ref a0 :: st, h) = h_cpy (68, nx, x, y, z, ix, ps) (pc, ls, .int (nI n) :: .int (nI dp) :: .ref a :: .int (nI sp) :: .ref a0 :: st, h) := j_steq hi rfl rfl
  simp only [h_cpy, h0, h1] at e2
  simp only [aI] at e2
  rw [nI_clamp (by omega), nI_clamp (by omega), nI_clamp (by omega), if_pos ⟨hl, i1, i2, i3, nI_pos (by omega), nI_pos (by omega), nI_pos (by omega), i4, i5⟩] at e2
  exact WP_n e2
theorem w_max (hi : j_ins f pc = some (69, nx, x, y, z, ix, ps)) {a b : Int32} (hl : st.length ≤ 4) : WP d f pc ls (.int b :: .int a :: st) h Q = WP d f nx ls (.int (mxI a b) :: st) h Q := by
  have e2 : j_st f (pc, ls, .int b :: .int a :: st, h) = h_max (69, nx, x, y, z, ix, ps) (pc, ls, .int b :: .int a :: st, h) := j_steq hi rfl rfl
  simp only [h_max, if_pos hl] at e2
  exact WP_n e2
theorem w_min (hi : j_ins f pc = some (70, nx, x, y, z, ix, ps)) {a b : Int32} (hl : st.length ≤ 4) : WP d f pc ls (.int b :: .int a :: st) h Q = WP d f nx ls (.int (mnI a b) :: st) h Q := by
  have e2 : j_st f (pc, ls, .int b :: .int a :: st, h) = h_min (70, nx, x, y, z, ix, ps) (pc, ls, .int b :: .int a :: st, h) := j_steq hi rfl rfl
  simp only [h_min, if_pos hl] at e2
  exact WP_n e2
theorem w_maxl (hi : j_ins f pc = some (71, nx, x, y, z, ix, ps)) {a b : Int64} (hl : st.length ≤ 4) : WP d f pc ls (.long b :: .long a :: st) h Q = WP d f nx ls (.long (mxL a b) :: st) h Q := by
  have e2 : j_st f (pc, ls, .long b :: .long a :: st, h) = h_maxl (71, nx, x, y, z, ix, ps) (pc, ls, .long b :: .long a :: st, h) := j_steq hi rfl rfl
  simp only [h_maxl, if_pos hl] at e2
  exact WP_n e2
theorem w_absl (hi : j_ins f pc = some (72, nx, x, y, z, ix, ps)) {a : Int64} (hl : st.length ≤ 4) : WP d f pc ls (.long a :: st) h Q = WP d f nx ls (.long (abL a) :: st) h Q := by
  have e2 : j_st f (pc, ls, .long a :: st, h) = h_absl (72, nx, x, y, z, ix, ps) (pc, ls, .long a :: st, h) := j_steq hi rfl rfl
  simp only [h_absl, if_pos hl] at e2
  exact WP_n e2

/-- a field is written -/
def pF (c : Option j_C) (ci k : Nat) (v : Value) (P : List Value → Prop) : Prop := ∃ fs, c = some (oB ci fs) ∧ k < fs.length ∧ P (fs.set k v)
theorem oB_inj {ci : Nat} {fs fs' : List Value} (e : some (oB ci fs) = some (oB ci fs')) : fs = fs' := by
  simp only [oB, Option.some.injEq, Sum.inr.injEq, Prod.mk.injEq, true_and] at e; exact e
theorem pF_of {ci k : Nat} {fs fs' : List Value} {v : Value} {P : List Value → Prop} (hk : k < fs.length) (e : fs.set k v = fs') : pF (some (oB ci fs)) ci k v P = P fs' := by
  subst e
  refine propext ⟨fun ⟨fs', e1, _, hp⟩ => ?_, fun hp => ⟨fs, rfl, hk, hp⟩⟩
  rw [oB_inj e1]; exact hp
theorem w_putp (hi : j_ins f pc = some (48, nx, x, y, z, ix, ps)) {a : Nat} {v : Value} (hv : j_pv z v = true) : WP d f pc ls (v :: .ref a :: st) h Q = pF (hg h a) x y v (fun fs => WP d f nx ls st (hs h a (oB x fs)) Q) := by
  refine propext ⟨fun hw => ?_, fun ⟨fs, h1, h2, hw⟩ => ?_⟩
  · have e2 : j_st f (pc, ls, v :: .ref a :: st, h) = h_put (48, nx, x, y, z, ix, ps) (pc, ls, v :: .ref a :: st, h) := j_steq hi rfl rfl
    simp only [h_put, j_x, j_yy, j_z] at e2
    cases hc : hg h a with
    | none => rw [hc] at e2; rw [WP_0 e2] at hw; exact hw.elim
    | some c =>
      rw [hc] at e2
      match c, hc, e2 with
      | .inl _, hc, e2 => rw [WP_0 e2] at hw; exact hw.elim
      | .inr (.inl _), hc, e2 => rw [WP_0 e2] at hw; exact hw.elim
      | .inr (.inr (.inl _)), hc, e2 => rw [WP_0 e2] at hw; exact hw.elim
      | .inr (.inr (.inr (k, fs))), hc, e2 =>
        simp only at e2
        by_cases hk : k = x ∧ y < fs.length ∧ j_pv z v = true
        · rw [if_pos hk] at e2
          rw [WP_n e2, hk.1] at hw
          exact ⟨fs, by rw [hk.1]; rfl, hk.2.1, hw⟩
        · rw [if_neg hk] at e2; rw [WP_0 e2] at hw; exact hw.elim
  · rw [w_put hi h1 h2 hv]; exact hw
/-- a cell of a row is written -/
def sI (c : Option j_C) (a : Nat) (i : Int32) (v : Int32) (P : j_C → Prop) : Prop := ∃ n f, c = some (aI n f) ∧ ¬ ((i < 0 ∨ n ≤ i.toNatClampNeg) ∨ a = 0) ∧ P (aI n (up f i.toNatClampNeg v))
def sL (c : Option j_C) (i : Int32) (v : Int64) (P : j_C → Prop) : Prop := ∃ n f, c = some (aL n f) ∧ ¬ (i < 0 ∨ n ≤ i.toNatClampNeg) ∧ P (aL n (up f i.toNatClampNeg v))
theorem sI_of {n j a : Nat} {f : Nat → Int32} {v : Int32} {P : j_C → Prop} (hj : j < n) (hn : n < 2 ^ 31) (ha : a ≠ 0) : sI (some (aI n f)) a (nI j) v P = P (aI n (up f j v)) := by
  refine propext ⟨fun ⟨n', f', e, h1, h2⟩ => ?_, fun hp => ⟨n, f, rfl, fun q => q.elim (nI_bd hj hn) ha, by rw [nI_clamp (by omega)]; exact hp⟩⟩
  obtain ⟨rfl, rfl⟩ := aI_inj e
  rw [nI_clamp (by omega)] at h2
  exact h2
theorem sL_of {n j : Nat} {f : Nat → Int64} {v : Int64} {P : j_C → Prop} (hj : j < n) (hn : n < 2 ^ 31) : sL (some (aL n f)) (nI j) v P = P (aL n (up f j v)) := by
  refine propext ⟨fun ⟨n', f', e, h1, h2⟩ => ?_, fun hp => ⟨n, f, rfl, nI_bd hj hn, by rw [nI_clamp (by omega)]; exact hp⟩⟩
  obtain ⟨rfl, rfl⟩ := aL_inj e
  rw [nI_clamp (by omega)] at h2
  exact h2
theorem w_iastp (hi : j_ins f pc = some (50, nx, x, y, z, ix, ps)) {a : Nat} {i v : Int32} : WP d f pc ls (.int v :: .int i :: .ref a :: st) h Q = sI (hg h a) a i v (fun c => WP d f nx ls st (hs h a c) Q) := by
  have e2 : j_st f (pc, ls, .int v :: .int i :: .ref a :: st, h) = h_iast (50, nx, x, y, z, ix, ps) (pc, ls, .int v :: .int i :: .ref a :: st, h) := j_steq hi rfl rfl
  simp only [h_iast] at e2
  refine propext ⟨fun hw => ?_, fun ⟨n, g, h1, h2, hw⟩ => ?_⟩
  · cases hc : hg h a with
    | none => rw [hc] at e2; rw [WP_0 e2] at hw; exact hw.elim
    | some c =>
      rw [hc] at e2
      match c, hc, e2 with
      | .inr _, hc, e2 => rw [WP_0 e2] at hw; exact hw.elim
      | .inl (n, g), hc, e2 =>
        simp only at e2
        by_cases hk : (i < 0 ∨ n ≤ i.toNatClampNeg) ∨ a = 0
        · rw [if_pos hk] at e2; rw [WP_0 e2] at hw; exact hw.elim
        · rw [if_neg hk] at e2; rw [WP_n e2] at hw; exact ⟨n, g, rfl, hk, hw⟩
  · rw [h1] at e2
    simp only [aI] at e2
    rw [if_neg h2] at e2
    rw [WP_n e2]
    exact hw
theorem w_lastp (hi : j_ins f pc = some (52, nx, x, y, z, ix, ps)) {a : Nat} {i : Int32} {v : Int64} : WP d f pc ls (.long v :: .int i :: .ref a :: st) h Q = sL (hg h a) i v (fun c => WP d f nx ls st (hs h a c) Q) := by
  have e2 : j_st f (pc, ls, .long v :: .int i :: .ref a :: st, h) = h_last (52, nx, x, y, z, ix, ps) (pc, ls, .long v :: .int i :: .ref a :: st, h) := j_steq hi rfl rfl
  simp only [h_last] at e2
  refine propext ⟨fun hw => ?_, fun ⟨n, g, h1, h2, hw⟩ => ?_⟩
  · cases hc : hg h a with
    | none => rw [hc] at e2; rw [WP_0 e2] at hw; exact hw.elim
    | some c =>
      rw [hc] at e2
      match c, hc, e2 with
      | .inl _, hc, e2 => rw [WP_0 e2] at hw; exact hw.elim
      | .inr (.inr _), hc, e2 => rw [WP_0 e2] at hw; exact hw.elim
      | .inr (.inl (n, g)), hc, e2 =>
        simp only at e2
        by_cases hk : i < 0 ∨ n ≤ i.toNatClampNeg
        · rw [if_pos hk] at e2; rw [WP_0 e2] at hw; exact hw.elim
        · rw [if_neg hk] at e2; rw [WP_n e2] at hw; exact ⟨n, g, rfl, hk, hw⟩
  · rw [h1] at e2
    simp only [aL] at e2
    rw [if_neg h2] at e2
    rw [WP_n e2]
    exact hw
/-- the length of a row -/
def gN (c : Option j_C) (P : Int32 → Prop) : Prop := ∃ n f, c = some (aI n f) ∧ P (nI n)
theorem gN_of {n : Nat} {f : Nat → Int32} {P : Int32 → Prop} : gN (some (aI n f)) P = P (nI n) := by
  refine propext ⟨fun ⟨n', f', e, h2⟩ => ?_, fun hp => ⟨n, f, rfl, hp⟩⟩
  obtain ⟨rfl, rfl⟩ := aI_inj e
  exact h2
theorem w_alenp (hi : j_ins f pc = some (55, nx, x, y, z, ix, ps)) {a : Nat} : WP d f pc ls (.ref a :: st) h Q = gN (hg h a) (fun n => WP d f nx ls (.int n :: st) h Q) := by
  refine propext ⟨fun hw => ?_, fun ⟨n, g, h1, hw⟩ => by rw [w_alen hi h1]; exact hw⟩
  have e2 : j_st f (pc, ls, .ref a :: st, h) = h_alen (55, nx, x, y, z, ix, ps) (pc, ls, .ref a :: st, h) := j_steq hi rfl rfl
  simp only [h_alen] at e2
  cases hc : hg h a with
  | none => rw [hc] at e2; rw [WP_0 e2] at hw; exact hw.elim
  | some c =>
    rw [hc] at e2
    match c, hc, e2 with
    | .inr _, hc, e2 => rw [WP_0 e2] at hw; exact hw.elim
    | .inl (n, g), hc, e2 => rw [WP_n e2] at hw; exact ⟨n, g, rfl, hw⟩
/-- yes or no, as a number -/
def bI (b : Bool) : Int32 := if b then 1 else 0
theorem bI_01 (b : Bool) : bI b = 0 ∨ bI b = 1 := by cases b <;> simp [bI]
end WPK
theorem gF_0 {ci : Nat} {v0 : Value} {fs : List Value} {P : Value → Prop} : gF (some (oB ci (v0 :: fs))) ci 0 P = P v0 := gF_of rfl
theorem pF_0 {ci : Nat} {v0 v : Value} {fs : List Value} {P : List Value → Prop} : pF (some (oB ci (v0 :: fs))) ci 0 v P = P (v :: fs) := pF_of (by simp) rfl
theorem gF_1 {ci : Nat} {v0 v1 : Value} {fs : List Value} {P : Value → Prop} : gF (some (oB ci (v0 :: v1 :: fs))) ci 1 P = P v1 := gF_of rfl
theorem pF_1 {ci : Nat} {v0 v1 v : Value} {fs : List Value} {P : List Value → Prop} : pF (some (oB ci (v0 :: v1 :: fs))) ci 1 v P = P (v0 :: v :: fs) := pF_of (by simp) rfl
theorem gF_2 {ci : Nat} {v0 v1 v2 : Value} {fs : List Value} {P : Value → Prop} : gF (some (oB ci (v0 :: v1 :: v2 :: fs))) ci 2 P = P v2 := gF_of rfl
theorem pF_2 {ci : Nat} {v0 v1 v2 v : Value} {fs : List Value} {P : List Value → Prop} : pF (some (oB ci (v0 :: v1 :: v2 :: fs))) ci 2 v P = P (v0 :: v1 :: v :: fs) := pF_of (by simp) rfl
theorem gF_3 {ci : Nat} {v0 v1 v2 v3 : Value} {fs : List Value} {P : Value → Prop} : gF (some (oB ci (v0 :: v1 :: v2 :: v3 :: fs))) ci 3 P = P v3 := gF_of rfl
theorem pF_3 {ci : Nat} {v0 v1 v2 v3 v : Value} {fs : List Value} {P : List Value → Prop} : pF (some (oB ci (v0 :: v1 :: v2 :: v3 :: fs))) ci 3 v P = P (v0 :: v1 :: v2 :: v :: fs) := pF_of (by simp) rfl
theorem gF_4 {ci : Nat} {v0 v1 v2 v3 v4 : Value} {fs : List Value} {P : Value → Prop} : gF (some (oB ci (v0 :: v1 :: v2 :: v3 :: v4 :: fs))) ci 4 P = P v4 := gF_of rfl
theorem pF_4 {ci : Nat} {v0 v1 v2 v3 v4 v : Value} {fs : List Value} {P : List Value → Prop} : pF (some (oB ci (v0 :: v1 :: v2 :: v3 :: v4 :: fs))) ci 4 v P = P (v0 :: v1 :: v2 :: v3 :: v :: fs) := pF_of (by simp) rfl
theorem gF_5 {ci : Nat} {v0 v1 v2 v3 v4 v5 : Value} {fs : List Value} {P : Value → Prop} : gF (some (oB ci (v0 :: v1 :: v2 :: v3 :: v4 :: v5 :: fs))) ci 5 P = P v5 := gF_of rfl
theorem pF_5 {ci : Nat} {v0 v1 v2 v3 v4 v5 v : Value} {fs : List Value} {P : List Value → Prop} : pF (some (oB ci (v0 :: v1 :: v2 :: v3 :: v4 :: v5 :: fs))) ci 5 v P = P (v0 :: v1 :: v2 :: v3 :: v4 :: v :: fs) := pF_of (by simp) rfl
theorem gF_6 {ci : Nat} {v0 v1 v2 v3 v4 v5 v6 : Value} {fs : List Value} {P : Value → Prop} : gF (some (oB ci (v0 :: v1 :: v2 :: v3 :: v4 :: v5 :: v6 :: fs))) ci 6 P = P v6 := gF_of rfl
theorem pF_6 {ci : Nat} {v0 v1 v2 v3 v4 v5 v6 v : Value} {fs : List Value} {P : List Value → Prop} : pF (some (oB ci (v0 :: v1 :: v2 :: v3 :: v4 :: v5 :: v6 :: fs))) ci 6 v P = P (v0 :: v1 :: v2 :: v3 :: v4 :: v5 :: v :: fs) := pF_of (by simp) rfl
theorem gF_7 {ci : Nat} {v0 v1 v2 v3 v4 v5 v6 v7 : Value} {fs : List Value} {P : Value → Prop} : gF (some (oB ci (v0 :: v1 :: v2 :: v3 :: v4 :: v5 :: v6 :: v7 :: fs))) ci 7 P = P v7 := gF_of rfl
theorem pF_7 {ci : Nat} {v0 v1 v2 v3 v4 v5 v6 v7 v : Value} {fs : List Value} {P : List Value → Prop} : pF (some (oB ci (v0 :: v1 :: v2 :: v3 :: v4 :: v5 :: v6 :: v7 :: fs))) ci 7 v P = P (v0 :: v1 :: v2 :: v3 :: v4 :: v5 :: v6 :: v :: fs) := pF_of (by simp) rfl
theorem gF_8 {ci : Nat} {v0 v1 v2 v3 v4 v5 v6 v7 v8 : Value} {fs : List Value} {P : Value → Prop} : gF (some (oB ci (v0 :: v1 :: v2 :: v3 :: v4 :: v5 :: v6 :: v7 :: v8 :: fs))) ci 8 P = P v8 := gF_of rfl
theorem pF_8 {ci : Nat} {v0 v1 v2 v3 v4 v5 v6 v7 v8 v : Value} {fs : List Value} {P : List Value → Prop} : pF (some (oB ci (v0 :: v1 :: v2 :: v3 :: v4 :: v5 :: v6 :: v7 :: v8 :: fs))) ci 8 v P = P (v0 :: v1 :: v2 :: v3 :: v4 :: v5 :: v6 :: v7 :: v :: fs) := pF_of (by simp) rfl
theorem gF_9 {ci : Nat} {v0 v1 v2 v3 v4 v5 v6 v7 v8 v9 : Value} {fs : List Value} {P : Value → Prop} : gF (some (oB ci (v0 :: v1 :: v2 :: v3 :: v4 :: v5 :: v6 :: v7 :: v8 :: v9 :: fs))) ci 9 P = P v9 := gF_of rfl
theorem pF_9 {ci : Nat} {v0 v1 v2 v3 v4 v5 v6 v7 v8 v9 v : Value} {fs : List Value} {P : List Value → Prop} : pF (some (oB ci (v0 :: v1 :: v2 :: v3 :: v4 :: v5 :: v6 :: v7 :: v8 :: v9 :: fs))) ci 9 v P = P (v0 :: v1 :: v2 :: v3 :: v4 :: v5 :: v6 :: v7 :: v8 :: v :: fs) := pF_of (by simp) rfl
theorem gF_10 {ci : Nat} {v0 v1 v2 v3 v4 v5 v6 v7 v8 v9 v10 : Value} {fs : List Value} {P : Value → Prop} : gF (some (oB ci (v0 :: v1 :: v2 :: v3 :: v4 :: v5 :: v6 :: v7 :: v8 :: v9 :: v10 :: fs))) ci 10 P = P v10 := gF_of rfl
theorem pF_10 {ci : Nat} {v0 v1 v2 v3 v4 v5 v6 v7 v8 v9 v10 v : Value} {fs : List Value} {P : List Value → Prop} : pF (some (oB ci (v0 :: v1 :: v2 :: v3 :: v4 :: v5 :: v6 :: v7 :: v8 :: v9 :: v10 :: fs))) ci 10 v P = P (v0 :: v1 :: v2 :: v3 :: v4 :: v5 :: v6 :: v7 :: v8 :: v9 :: v :: fs) := pF_of (by simp) rfl
theorem gF_11 {ci : Nat} {v0 v1 v2 v3 v4 v5 v6 v7 v8 v9 v10 v11 : Value} {fs : List Value} {P : Value → Prop} : gF (some (oB ci (v0 :: v1 :: v2 :: v3 :: v4 :: v5 :: v6 :: v7 :: v8 :: v9 :: v10 :: v11 :: fs))) ci 11 P = P v11 := gF_of rfl
theorem pF_11 {ci : Nat} {v0 v1 v2 v3 v4 v5 v6 v7 v8 v9 v10 v11 v : Value} {fs : List Value} {P : List Value → Prop} : pF (some (oB ci (v0 :: v1 :: v2 :: v3 :: v4 :: v5 :: v6 :: v7 :: v8 :: v9 :: v10 :: v11 :: fs))) ci 11 v P = P (v0 :: v1 :: v2 :: v3 :: v4 :: v5 :: v6 :: v7 :: v8 :: v9 :: v10 :: v :: fs) := pF_of (by simp) rfl
theorem gF_12 {ci : Nat} {v0 v1 v2 v3 v4 v5 v6 v7 v8 v9 v10 v11 v12 : Value} {fs : List Value} {P : Value → Prop} : gF (some (oB ci (v0 :: v1 :: v2 :: v3 :: v4 :: v5 :: v6 :: v7 :: v8 :: v9 :: v10 :: v11 :: v12 :: fs))) ci 12 P = P v12 := gF_of rfl
theorem pF_12 {ci : Nat} {v0 v1 v2 v3 v4 v5 v6 v7 v8 v9 v10 v11 v12 v : Value} {fs : List Value} {P : List Value → Prop} : pF (some (oB ci (v0 :: v1 :: v2 :: v3 :: v4 :: v5 :: v6 :: v7 :: v8 :: v9 :: v10 :: v11 :: v12 :: fs))) ci 12 v P = P (v0 :: v1 :: v2 :: v3 :: v4 :: v5 :: v6 :: v7 :: v8 :: v9 :: v10 :: v11 :: v :: fs) := pF_of (by simp) rfl
theorem gF_13 {ci : Nat} {v0 v1 v2 v3 v4 v5 v6 v7 v8 v9 v10 v11 v12 v13 : Value} {fs : List Value} {P : Value → Prop} : gF (some (oB ci (v0 :: v1 :: v2 :: v3 :: v4 :: v5 :: v6 :: v7 :: v8 :: v9 :: v10 :: v11 :: v12 :: v13 :: fs))) ci 13 P = P v13 := gF_of rfl
theorem pF_13 {ci : Nat} {v0 v1 v2 v3 v4 v5 v6 v7 v8 v9 v10 v11 v12 v13 v : Value} {fs : List Value} {P : List Value → Prop} : pF (some (oB ci (v0 :: v1 :: v2 :: v3 :: v4 :: v5 :: v6 :: v7 :: v8 :: v9 :: v10 :: v11 :: v12 :: v13 :: fs))) ci 13 v P = P (v0 :: v1 :: v2 :: v3 :: v4 :: v5 :: v6 :: v7 :: v8 :: v9 :: v10 :: v11 :: v12 :: v :: fs) := pF_of (by simp) rfl
theorem gF_14 {ci : Nat} {v0 v1 v2 v3 v4 v5 v6 v7 v8 v9 v10 v11 v12 v13 v14 : Value} {fs : List Value} {P : Value → Prop} : gF (some (oB ci (v0 :: v1 :: v2 :: v3 :: v4 :: v5 :: v6 :: v7 :: v8 :: v9 :: v10 :: v11 :: v12 :: v13 :: v14 :: fs))) ci 14 P = P v14 := gF_of rfl
theorem pF_14 {ci : Nat} {v0 v1 v2 v3 v4 v5 v6 v7 v8 v9 v10 v11 v12 v13 v14 v : Value} {fs : List Value} {P : List Value → Prop} : pF (some (oB ci (v0 :: v1 :: v2 :: v3 :: v4 :: v5 :: v6 :: v7 :: v8 :: v9 :: v10 :: v11 :: v12 :: v13 :: v14 :: fs))) ci 14 v P = P (v0 :: v1 :: v2 :: v3 :: v4 :: v5 :: v6 :: v7 :: v8 :: v9 :: v10 :: v11 :: v12 :: v13 :: v :: fs) := pF_of (by simp) rfl
theorem gF_15 {ci : Nat} {v0 v1 v2 v3 v4 v5 v6 v7 v8 v9 v10 v11 v12 v13 v14 v15 : Value} {fs : List Value} {P : Value → Prop} : gF (some (oB ci (v0 :: v1 :: v2 :: v3 :: v4 :: v5 :: v6 :: v7 :: v8 :: v9 :: v10 :: v11 :: v12 :: v13 :: v14 :: v15 :: fs))) ci 15 P = P v15 := gF_of rfl
theorem pF_15 {ci : Nat} {v0 v1 v2 v3 v4 v5 v6 v7 v8 v9 v10 v11 v12 v13 v14 v15 v : Value} {fs : List Value} {P : List Value → Prop} : pF (some (oB ci (v0 :: v1 :: v2 :: v3 :: v4 :: v5 :: v6 :: v7 :: v8 :: v9 :: v10 :: v11 :: v12 :: v13 :: v14 :: v15 :: fs))) ci 15 v P = P (v0 :: v1 :: v2 :: v3 :: v4 :: v5 :: v6 :: v7 :: v8 :: v9 :: v10 :: v11 :: v12 :: v13 :: v14 :: v :: fs) := pF_of (by simp) rfl
theorem gF_16 {ci : Nat} {v0 v1 v2 v3 v4 v5 v6 v7 v8 v9 v10 v11 v12 v13 v14 v15 v16 : Value} {fs : List Value} {P : Value → Prop} : gF (some (oB ci (v0 :: v1 :: v2 :: v3 :: v4 :: v5 :: v6 :: v7 :: v8 :: v9 :: v10 :: v11 :: v12 :: v13 :: v14 :: v15 :: v16 :: fs))) ci 16 P = P v16 := gF_of rfl
theorem pF_16 {ci : Nat} {v0 v1 v2 v3 v4 v5 v6 v7 v8 v9 v10 v11 v12 v13 v14 v15 v16 v : Value} {fs : List Value} {P : List Value → Prop} : pF (some (oB ci (v0 :: v1 :: v2 :: v3 :: v4 :: v5 :: v6 :: v7 :: v8 :: v9 :: v10 :: v11 :: v12 :: v13 :: v14 :: v15 :: v16 :: fs))) ci 16 v P = P (v0 :: v1 :: v2 :: v3 :: v4 :: v5 :: v6 :: v7 :: v8 :: v9 :: v10 :: v11 :: v12 :: v13 :: v14 :: v15 :: v :: fs) := pF_of (by simp) rfl
theorem gF_17 {ci : Nat} {v0 v1 v2 v3 v4 v5 v6 v7 v8 v9 v10 v11 v12 v13 v14 v15 v16 v17 : Value} {fs : List Value} {P : Value → Prop} : gF (some (oB ci (v0 :: v1 :: v2 :: v3 :: v4 :: v5 :: v6 :: v7 :: v8 :: v9 :: v10 :: v11 :: v12 :: v13 :: v14 :: v15 :: v16 :: v17 :: fs))) ci 17 P = P v17 := gF_of rfl
theorem pF_17 {ci : Nat} {v0 v1 v2 v3 v4 v5 v6 v7 v8 v9 v10 v11 v12 v13 v14 v15 v16 v17 v : Value} {fs : List Value} {P : List Value → Prop} : pF (some (oB ci (v0 :: v1 :: v2 :: v3 :: v4 :: v5 :: v6 :: v7 :: v8 :: v9 :: v10 :: v11 :: v12 :: v13 :: v14 :: v15 :: v16 :: v17 :: fs))) ci 17 v P = P (v0 :: v1 :: v2 :: v3 :: v4 :: v5 :: v6 :: v7 :: v8 :: v9 :: v10 :: v11 :: v12 :: v13 :: v14 :: v15 :: v16 :: v :: fs) := pF_of (by simp) rfl
theorem cl_i (x : Int32) : cl (some (.int x)) = some (.int x) := rfl
theorem cl_r (x : Nat) : cl (some (.ref x)) = some (.ref x) := rfl
theorem cl_l (x : Int64) : cl (some (.long x)) = none := rfl
theorem cl_n : cl none = none := rfl
theorem pu_s (x : Value) (st : List Value) : pu (some x) st = x :: st := rfl
theorem pu_n (st : List Value) : pu none st = st := rfl
theorem rV_s (a : Nat) : rV (some a) = .ref a := rfl
theorem lup {P : Nat → Prop} {n : Nat} (hx : P n) (hs : ∀ i, i < n → P (i + 1) → P i) : ∀ i, i ≤ n → P i := by
  intro i hi
  obtain ⟨k, rfl⟩ := Nat.exists_eq_add_of_le hi
  clear hi
  induction k generalizing i with
  | zero => exact hx
  | succ k ih => exact hs i (by omega) (ih (i + 1) (by rw [show i + 1 + k = i + (k + 1) by omega]; exact hx) (by rw [show i + 1 + k = i + (k + 1) by omega]; exact hs))
