theorem P_dvd {p d : Nat} (hP : isP p) (hd : d ∣ p) : d = 1 ∨ d = p := by
  obtain ⟨h2, h3, h4⟩ := hP
  obtain ⟨e, he⟩ := hd
  by_cases h1 : d ≤ 1
  · have : d ≠ 0 := fun z => by rw [z, Nat.zero_mul] at he; omega
    left; omega
  · by_cases h5 : e ≤ 1
    · have : e ≠ 0 := fun z => by rw [z, Nat.mul_zero] at he; omega
      have h6 : e = 1 := by omega
      rw [h6, Nat.mul_one] at he
      right; exact he.symm
    · exfalso
      by_cases hle : d ≤ e
      · refine h4 d (by omega) ?_ ?_
        · rw [he]; exact Nat.mul_le_mul_left d hle
        · rw [he]; exact Nat.mul_mod_right d e
      · refine h4 e (by omega) ?_ ?_
        · rw [he]; exact Nat.mul_le_mul_right e (by omega)
        · rw [he]; exact Nat.mul_mod_left d e
theorem P_euclid {p a b : Nat} (hP : isP p) (h : p ∣ a * b) : p ∣ a ∨ p ∣ b := by
  cases P_dvd hP (Nat.gcd_dvd_left p a) with
  | inl h1 =>
    right
    have h2 : p ∣ Nat.gcd (p * b) (a * b) := Nat.dvd_gcd (Nat.dvd_mul_right p b) h
    rw [Nat.gcd_mul_right, h1, Nat.one_mul] at h2
    exact h2
  | inr h1 => left; have := Nat.gcd_dvd_right p a; rw [h1] at this; exact this
theorem P_mul {p a b : Nat} (hP : isP p) (ha : a < p) (ha0 : a ≠ 0) (hb : b < p) (hb0 : b ≠ 0) : ¬ p ∣ a * b := fun h => by
  cases P_euclid hP h with
  | inl h1 => have := Nat.le_of_dvd (by omega) h1; omega
  | inr h1 => have := Nat.le_of_dvd (by omega) h1; omega
theorem rs_eq0 {p : Nat} {z : Int} (hp : 0 < p) (h : rs p z = 0) : (p : Int) ∣ z := by
  have := rs_cast hp z
  rw [h] at this
  exact Int.dvd_of_emod_eq_zero this.symm
theorem mR_det {p n w : Nat} {A : Nat → Nat → Nat} (hP : isP p) (hA : ∀ a b, a < n → b < w → A a b < p) (hw : n ≤ w) : ∀ j, j ≤ n → ((mR p n A j).2.1 = j ∧ (mR p n A j).2.2 ≠ 0) ∨ ((mR p n A j).2.1 < j ∧ (mR p n A j).2.2 = 0) := by
  intro j
  have hp := hP.1
  induction j with
  | zero => intro _; exact Or.inl ⟨rfl, by show (1 : Nat) ≠ 0; omega⟩
  | succ j ih =>
    intro hj
    have ih := ih (by omega)
    obtain ⟨c1, c2, c3⟩ := mR_ok (w := w) hp hA j
    rw [mR, mst]
    generalize mR p n A j = s at *
    obtain ⟨T, r, D⟩ := s
    simp only at ih c1 c2 c3 ⊢
    by_cases hf : fp T j n r < n
    · simp only [if_pos hf]
      have hr := fp_lt hf
      obtain ⟨-, g3⟩ := fp_spec T j n r (by omega)
      have g3 := g3 hf
      have hlt := c1 _ j hf (by omega)
      generalize fp T j n r = g at *
      have es : swp T r g r j = T g j := by unfold swp; rw [if_pos rfl]
      rw [es]
      cases ih with
      | inl h =>
        left
        refine ⟨by omega, fun h0 => ?_⟩
        have h1 := rs_eq0 (by omega) h0
        have h2 : (p : Int) ∣ ((D * T g j : Nat) : Int) := by
          rw [Int.natCast_mul]
          by_cases e : g = r
          · rw [if_pos e] at h1; exact h1
          · rw [if_neg e, Int.neg_mul] at h1; exact (Int.dvd_neg).mp h1
        exact P_mul hP c3 h.2 hlt g3 (Int.natCast_dvd_natCast.mp h2)
      | inr h =>
        right
        refine ⟨by omega, ?_⟩
        rw [h.2]
        have : (if g = r then ((0 : Nat) : Int) else -((0 : Nat) : Int)) = 0 := by split <;> rfl
        rw [this, Int.zero_mul]
        unfold rs
        rw [Int.zero_emod]; rfl
    · simp only [if_neg hf]
      right
      exact ⟨by omega, trivial⟩
theorem mR_full {p n : Nat} {A : Nat → Nat → Nat} (hp : 2 ≤ p) (h : (mR p n A n).2.1 = n) : ∀ j, j ≤ n → (mR p n A j).2.1 = j := by
  refine lup (P := fun j => (mR p n A j).2.1 = j) h ?_
  intro j hj ih
  have hle : ∀ j, (mR p n A j).2.1 ≤ j := by
    intro j
    induction j with
    | zero => exact Nat.le_refl 0
    | succ j ih =>
      rw [mR, mst]
      split
      · show (mR p n A j).2.1 + 1 ≤ j + 1; omega
      · show (mR p n A j).2.1 ≤ j + 1; omega
  have h1 := hle j
  rw [mR, mst] at ih
  split at ih
  · have ih : (mR p n A j).2.1 + 1 = j + 1 := ih; omega
  · have ih : (mR p n A j).2.1 = j + 1 := ih; omega
theorem mR_hit {p n j : Nat} {A : Nat → Nat → Nat} (h : ∀ j, j ≤ n → (mR p n A j).2.1 = j) (hj : j < n) : fp (mR p n A j).1 j n j < n := by
  have h1 := h j (by omega)
  have h2 := h (j + 1) (by omega)
  rw [mR, mst, h1] at h2
  by_cases hf : fp (mR p n A j).1 j n j < n
  · exact hf
  · rw [if_neg hf] at h2
    have h2 : j = j + 1 := h2
    omega
theorem cS_row {p n w : Nat} {A : Nat → Nat → Nat} (h : ∀ j, j ≤ n → (cS p n w A j).2.1 = j) : ∀ i, i < n → ∀ j, i < j → j ≤ n → ∀ c, (cS p n w A j).1 i c = swp (cS p n w A i).1 i (fp (cS p n w A i).1 i n i) i c := by
  intro i hi j
  induction j with
  | zero => intro h0; omega
  | succ j ih =>
    intro hij hj c
    have h1 := h j (by omega)
    have h2 := h (j + 1) hj
    rw [cS, cst, h1] at h2
    rw [cS, cst, h1]
    by_cases hf : fp (cS p n w A j).1 j n j < n
    · rw [if_pos hf]
      show stp p j j n w (swp (cS p n w A j).1 j (fp (cS p n w A j).1 j n j)) i c = _
      by_cases e : i = j
      · subst e
        rw [stp_up (Nat.le_refl i)]
      · rw [stp_up (by omega)]
        have hge := (fp_spec (cS p n w A j).1 j n j (by omega)).1.1
        rw [← ih (by omega) (by omega) c]
        show swp (cS p n w A j).1 j (fp (cS p n w A j).1 j n j) i c = _
        unfold swp
        rw [if_neg (by omega), if_neg (by omega)]
    · rw [if_neg hf] at h2
      have h2 : j = j + 1 := h2
      omega
/-- alike by rests -/
def cg (p : Nat) (a b : Int) : Prop := (p : Int) ∣ a - b
theorem cg.rf (p : Nat) (a : Int) : cg p a a := ⟨0, by omega⟩
theorem cg.sy {p : Nat} {a b : Int} (h : cg p a b) : cg p b a := by
  obtain ⟨k, hk⟩ := h
  exact ⟨-k, by rw [Int.mul_neg]; omega⟩
theorem cg.tr {p : Nat} {a b c : Int} (h : cg p a b) (h' : cg p b c) : cg p a c := by
  obtain ⟨k, hk⟩ := h
  obtain ⟨l, hl⟩ := h'
  exact ⟨k + l, by rw [Int.mul_add]; omega⟩
theorem cg.sub {p : Nat} {a b c d : Int} (h : cg p a b) (h' : cg p c d) : cg p (a - c) (b - d) := by
  obtain ⟨k, hk⟩ := h
  obtain ⟨l, hl⟩ := h'
  exact ⟨k - l, by rw [Int.mul_sub]; omega⟩
theorem cg.add {p : Nat} {a b c d : Int} (h : cg p a b) (h' : cg p c d) : cg p (a + c) (b + d) := by
  obtain ⟨k, hk⟩ := h
  obtain ⟨l, hl⟩ := h'
  exact ⟨k + l, by rw [Int.mul_add]; omega⟩
theorem cg.mul {p : Nat} {a b c d : Int} (h : cg p a b) (h' : cg p c d) : cg p (a * c) (b * d) := by
  obtain ⟨k, hk⟩ := h
  obtain ⟨l, hl⟩ := h'
  refine ⟨k * c + b * l, ?_⟩
  have e1 : a = b + p * k := by omega
  have e2 : c = d + p * l := by omega
  rw [e1, e2]
  grind
theorem cg_rs {p : Nat} (hp : 0 < p) (z : Int) : cg p (rs p z) z := by
  rw [rs_cast hp]
  refine ⟨-(z / p), ?_⟩
  have := Int.mul_ediv_add_emod z p
  rw [Int.mul_neg]
  omega
theorem cg_mod {p : Nat} (m : Nat) : cg p ((m % p : Nat) : Int) (m : Int) := by
  refine ⟨-((m : Int) / p), ?_⟩
  have := Int.mul_ediv_add_emod (m : Int) p
  rw [Int.mul_neg, Int.natCast_emod]
  omega
theorem cg_eq {p a b : Nat} (h : cg p a b) (ha : a < p) (hb : b < p) : a = b := by
  obtain ⟨k, hk⟩ := h
  by_cases h0 : k = 0
  · rw [h0, Int.mul_zero] at hk; omega
  · exfalso
    by_cases h1 : 0 < k
    · have := Int.mul_le_mul_of_nonneg_left (show (1 : Int) ≤ k by omega) (show (0 : Int) ≤ p by omega)
      omega
    · have := Int.mul_le_mul_of_nonneg_left (show k ≤ (-1 : Int) by omega) (show (0 : Int) ≤ p by omega)
      omega
def ss (f : Nat → Int) : Nat → Int
  | 0 => 0
  | k + 1 => ss f k + f k
theorem ss_cg {p : Nat} {f g : Nat → Int} : ∀ n, (∀ c, c < n → cg p (f c) (g c)) → cg p (ss f n) (ss g n) := by
  intro n
  induction n with
  | zero => intro _; exact cg.rf p 0
  | succ n ih => intro h; exact (ih (fun c hc => h c (by omega))).add (h n (by omega))
theorem ss_lin (f g : Nat → Int) (a : Int) : ∀ n, ss (fun c => f c - a * g c) n = ss f n - a * ss g n := by
  intro n
  induction n with
  | zero => show (0 : Int) = 0 - a * 0; omega
  | succ n ih => rw [ss, ss, ss, ih, Int.mul_add]; omega
theorem ss_mul (g : Nat → Int) (a : Int) : ∀ n, ss (fun c => a * g c) n = a * ss g n := by
  intro n
  induction n with
  | zero => show (0 : Int) = a * 0; omega
  | succ n ih => rw [ss, ss, ih, Int.mul_add]
theorem ss_ext {f g : Nat → Int} : ∀ n, (∀ c, c < n → f c = g c) → ss f n = ss g n := by
  intro n
  induction n with
  | zero => intro _; rfl
  | succ n ih => intro h; rw [ss, ss, ih (fun c hc => h c (by omega)), h n (by omega)]
theorem ss_cast (f : Nat → Nat) : ∀ n, ((sm f n : Nat) : Int) = ss (fun c => ((f c : Nat) : Int)) n := by
  intro n
  induction n with
  | zero => rfl
  | succ n ih => rw [sm, ss, ← ih]; omega
theorem ss_from (f : Nat → Int) (j : Nat) : ∀ n, ss (fun c => if j ≤ c then f c else 0) n = (if j < n then f j else 0) + ss (fun c => if j + 1 ≤ c then f c else 0) n := by
  intro n
  induction n with
  | zero => rfl
  | succ n ih =>
    rw [ss, ss, ih]
    by_cases h1 : j < n
    · rw [if_pos h1, if_pos (show j < n + 1 by omega), if_pos (show j ≤ n by omega), if_pos (show j + 1 ≤ n by omega)]; omega
    · by_cases h2 : j = n
      · subst h2
        rw [if_neg h1, if_pos (show j < j + 1 by omega), if_pos (Nat.le_refl j), if_neg (show ¬ j + 1 ≤ j by omega)]; omega
      · rw [if_neg h1, if_neg (show ¬ j < n + 1 by omega), if_neg (show ¬ j ≤ n by omega), if_neg (show ¬ j + 1 ≤ n by omega)]; omega
theorem ss_0 (f : Nat → Int) : ∀ n, (∀ c, c < n → f c = 0) → ss f n = 0 := by
  intro n
  induction n with
  | zero => intro _; rfl
  | succ n ih => intro h; rw [ss, ih (fun c hc => h c (by omega)), h n (by omega)]; rfl
/-- the functional: what is left of a row when the solution is put in from column j on -/
def ph (n e j : Nat) (s : Nat → Nat) (row : Nat → Nat) : Int := (row e : Int) - ss (fun c => if j ≤ c then (s c : Int) * (row c : Int) else 0) n
theorem ph_step {n e j : Nat} {s : Nat → Nat} {row : Nat → Nat} (hj : j < n) : ph n e (j + 1) s row = ph n e j s row + (s j : Int) * (row j : Int) := by
  unfold ph
  rw [ss_from (fun c => (s c : Int) * (row c : Int)) j n, if_pos hj]
  omega
theorem ph_lin {p n e j : Nat} {s : Nat → Nat} {r1 r2 r3 : Nat → Nat} {a : Int} (h : ∀ c, cg p (r1 c) ((r2 c : Int) - a * (r3 c : Int))) : cg p (ph n e j s r1) (ph n e j s r2 - a * ph n e j s r3) := by
  unfold ph
  have e1 : ((r2 e : Int) - ss (fun c => if j ≤ c then (s c : Int) * (r2 c : Int) else 0) n) - a * ((r3 e : Int) - ss (fun c => if j ≤ c then (s c : Int) * (r3 c : Int) else 0) n) = ((r2 e : Int) - a * (r3 e : Int)) - ss (fun c => (if j ≤ c then (s c : Int) * (r2 c : Int) else 0) - a * (if j ≤ c then (s c : Int) * (r3 c : Int) else 0)) n := by
    rw [ss_lin, Int.mul_sub]; omega
  rw [e1]
  refine (h e).sub (ss_cg n (fun c _ => ?_))
  by_cases hc : j ≤ c
  · simp only [if_pos hc]
    have h1 := (cg.rf p (s c : Int)).mul (h c)
    have h2 : (s c : Int) * ((r2 c : Int) - a * (r3 c : Int)) = (s c : Int) * (r2 c : Int) - a * ((s c : Int) * (r3 c : Int)) := by
      rw [Int.mul_sub, Int.mul_left_comm]
    rw [h2] at h1
    exact h1
  · simp only [if_neg hc]
    rw [Int.mul_zero]; exact cg.rf p _
theorem ph_sc {p n e j : Nat} {s : Nat → Nat} {r1 r2 : Nat → Nat} {a : Int} (h : ∀ c, (c = e ∨ j ≤ c ∧ c < n) → cg p (r1 c) (a * (r2 c : Int))) : cg p (ph n e j s r1) (a * ph n e j s r2) := by
  unfold ph
  rw [Int.mul_sub, ← ss_mul]
  refine (h e (Or.inl rfl)).sub (ss_cg n (fun c hc2 => ?_))
  by_cases hc : j ≤ c
  · simp only [if_pos hc]
    have h1 := (cg.rf p (s c : Int)).mul (h c (Or.inr ⟨hc, hc2⟩))
    rw [Int.mul_left_comm] at h1
    exact h1
  · simp only [if_neg hc]
    rw [Int.mul_zero]; exact cg.rf p _
/-- what the reference solves is what the class solves -/
theorem sol_same {p n w w' e : Nat} {A B : Nat → Nat → Nat} {s : Nat → Nat} (hp : 2 ≤ p) (hw : w = n + 1) (hAB : ∀ i c, i < n → c < w → A i c = B i (cm n e c)) (hB : ∀ a b, a < n → b < w' → B a b < p) (he : e < w') (hne : n ≤ e) (hnw : n ≤ w') (hr : (mR p n B n).2.1 = n) (hs : ∀ i, i < n → s i = sv p n (cS p n w A n).1 s i) : ∀ k, k < n → (mR p n B n).1 k e = s k := by
  have rel := cS_mR hp (show n ≤ w by omega) hAB
  have fm := mR_full hp hr
  have fc : ∀ j, j ≤ n → (cS p n w A j).2.1 = j := fun j hj => (rel j hj).1.trans (fm j hj)
  have hrow := cS_row fc
  have hsl : ∀ i, i < n → s i < p := fun i hi => by rw [hs i hi]; exact rs_lt (by omega) _
  have inv : ∀ j, j ≤ n → ∀ k, k < j → cg p (ph n e j s ((mR p n B j).1 k)) (s k) := by
    intro j
    induction j with
    | zero => intro _ k hk; omega
    | succ j ih =>
      intro hj k hk
      have ih := ih (by omega)
      have hit := mR_hit fm (show j < n by omega)
      have fj := fm j (by omega)
      have r3 := (rel j (by omega)).2.2
      have rj := hrow j (by omega) n (by omega) (Nat.le_refl n)
      have hsj := hs j (by omega)
      have fcj := fc j (by omega)
      rw [mR, mst, fj, if_pos hit]
      rw [fj] at r3
      have ef : fp (cS p n w A j).1 j n j = fp (mR p n B j).1 j n j := fp_ext j (by omega) (fun i h1 h2 => by
        have := r3 i j h1 h2 (Nat.le_refl j) (by omega)
        rw [cm_lt (by omega)] at this; exact this)
      rw [ef] at rj
      have hge := (fp_spec (mR p n B j).1 j n j (by omega)).1.1
      generalize hU : (cS p n w A n).1 = U at *
      generalize (cS p n w A j).1 = S at *
      generalize hT : (mR p n B j).1 = T at *
      generalize fp T j n j = g at *
      -- the class's row is the reference's
      have ru : ∀ c, j ≤ c → c < w → U j c = swp T j g j (cm n e c) := by
        intro c h1 h2
        rw [rj c]
        unfold swp
        rw [if_pos rfl, if_pos rfl]
        exact r3 g c hge hit h1 h2
      have rn : U j n = swp T j g j e := by
        have := ru n (by omega) (by omega)
        rw [this]; unfold cm; rw [if_neg (Nat.lt_irrefl n)]
      have rc : ∀ c, j ≤ c → c < n → U j c = swp T j g j c := fun c h1 h2 => by
        have := ru c h1 (by omega)
        rw [this, cm_lt h2]
      have piv : cg p (ph n e (j + 1) s (fun c => swp T j g j c * rcp p (swp T j g j j) % p)) (s j) := by
        have h1 : cg p (ph n e (j + 1) s (fun c => swp T j g j c * rcp p (swp T j g j j) % p)) ((rcp p (swp T j g j j) : Int) * ph n e (j + 1) s (swp T j g j)) := by
          refine ph_sc (fun c _ => ?_)
          have := cg_mod (p := p) (swp T j g j c * rcp p (swp T j g j j))
          rw [Int.natCast_mul, Int.mul_comm] at this
          exact this
        refine h1.tr ?_
        rw [hsj]
        unfold sv
        refine cg.sy ((cg_rs (by omega) _).tr ?_)
        rw [Int.natCast_mul, Int.mul_comm, rc j (Nat.le_refl j) (by omega)]
        refine (cg.rf p _).mul ((cg_rs (by omega) _).tr ?_)
        have h2 : ph n e (j + 1) s (swp T j g j) = (U j n : Int) - ((sg U s j n : Nat) : Int) := by
          unfold ph sg
          rw [rn, ss_cast]
          congr 1
          refine ss_ext n (fun c hc => ?_)
          by_cases hc2 : j < c
          · rw [if_pos (show j + 1 ≤ c from hc2), if_pos hc2, rc c (by omega) hc, Int.natCast_mul, Int.mul_comm]
          · rw [if_neg (show ¬ j + 1 ≤ c from hc2), if_neg hc2]; rfl
        rw [h2]
        exact cg.rf p _
      by_cases ek : k = j
      · subst ek
        have e1 : clr p k k (sc p k (rcp p (swp T k g k k)) (swp T k g)) k = (fun c => swp T k g k c * rcp p (swp T k g k k) % p) := by
          funext c
          unfold clr sc
          rw [if_pos rfl, if_pos rfl]
        show cg p (ph n e (k + 1) s (clr p k k (sc p k (rcp p (swp T k g k k)) (swp T k g)) k)) _
        rw [e1]
        exact piv
      · have hkj : k < j := by omega
        have ihk := ih k hkj
        show cg p (ph n e (j + 1) s (clr p j j (sc p j (rcp p (swp T j g j j)) (swp T j g)) k)) _
        have e2 : ∀ c, swp T j g k c = T k c := fun c => by unfold swp; rw [if_neg (by omega), if_neg (by omega)]
        have h1 := ph_lin (p := p) (n := n) (e := e) (j := j + 1) (s := s) (r1 := clr p j j (sc p j (rcp p (swp T j g j j)) (swp T j g)) k) (r2 := T k) (r3 := fun c => swp T j g j c * rcp p (swp T j g j j) % p) (a := (T k j : Int)) (fun c => by
          have e3 : clr p j j (sc p j (rcp p (swp T j g j j)) (swp T j g)) k c = rs p ((T k c : Int) - ((T k j * (swp T j g j c * rcp p (swp T j g j j) % p) : Nat) : Int)) := by
            unfold clr sc
            rw [if_neg ek]
            simp only [if_neg ek, if_true, e2]
          rw [e3]
          have h4 := cg_rs (p := p) (by omega) ((T k c : Int) - ((T k j * (swp T j g j c * rcp p (swp T j g j j) % p) : Nat) : Int))
          rw [Int.natCast_mul] at h4
          exact h4)
        refine h1.tr ?_
        rw [ph_step (show j < n by omega)]
        have h2 := ((cg.rf p (T k j : Int)).mul piv)
        have h3 := (ihk.add (cg.rf p ((s j : Int) * (T k j : Int)))).sub h2
        refine h3.tr ?_
        rw [Int.mul_comm (T k j : Int) (s j : Int)]
        have : (s k : Int) + (s j : Int) * (T k j : Int) - (s j : Int) * (T k j : Int) = (s k : Int) := by omega
        rw [this]
        exact cg.rf p _
  intro k hk
  have h1 := inv n (Nat.le_refl n) k hk
  unfold ph at h1
  rw [ss_0 _ n (fun c hc => if_neg (by omega)), Int.sub_zero] at h1
  exact cg_eq h1 ((mR_ok (w := w') hp hB n).1 k e hk he) (hsl k hk)
