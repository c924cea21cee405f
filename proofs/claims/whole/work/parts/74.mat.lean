/-- 1 if it holds -/
noncomputable def bn (p : Prop) : Nat := @ite Nat p (Classical.propDecidable p) 1 0
theorem bn_1 {p : Prop} (h : p) : bn p = 1 := by unfold bn; exact if_pos h
theorem bn_0 {p : Prop} (h : ¬ p) : bn p = 0 := by unfold bn; exact if_neg h
theorem bn_le {p q : Prop} (h : p → q) : bn p ≤ bn q := by
  by_cases hp : p
  · rw [bn_1 hp, bn_1 (h hp)]; exact Nat.le_refl 1
  · rw [bn_0 hp]; exact Nat.zero_le _
theorem bn_iff {p q : Prop} (h : p ↔ q) : bn p = bn q := by rw [propext h]
theorem bn_b (p : Prop) : bn p ≤ 1 := by
  by_cases hp : p
  · rw [bn_1 hp]; exact Nat.le_refl 1
  · rw [bn_0 hp]; exact Nat.zero_le _
theorem bn_split (p q : Prop) : bn p = bn (p ∧ q) + bn (p ∧ ¬ q) := by
  by_cases hp : p
  · by_cases hq : q
    · rw [bn_1 hp, bn_1 ⟨hp, hq⟩, bn_0 (fun h => h.2 hq)]
    · rw [bn_1 hp, bn_0 (fun h => hq h.2), bn_1 ⟨hp, hq⟩]
  · rw [bn_0 hp, bn_0 (fun h => hp h.1), bn_0 (fun h => hp h.1)]
theorem inj_cnt {n : Nat} {P : Nat → Prop} {m : Nat → Nat} : ∀ N, (∀ i i', i < N → i' < N → P i → P i' → m i < n → m i = m i' → i = i') → sm (fun i => bn (P i ∧ m i < n)) N = sm (fun j => bn (∃ i, i < N ∧ P i ∧ m i = j)) n := by
  intro N
  induction N with
  | zero =>
    intro _
    rw [sm]
    exact (sm_0 n (fun j _ => bn_0 (fun ⟨i, h, _⟩ => Nat.not_lt_zero i h))).symm
  | succ N ih =>
    intro hi
    rw [sm, ih (fun i i' h1 h2 => hi i i' (by omega) (by omega))]
    by_cases hP : P N ∧ m N < n
    · rw [bn_1 hP]
      have e1 : (1 : Nat) = sm (fun j => if j = m N then 1 else 0) n := by rw [sm_one, if_pos hP.2]
      conv => lhs; rw [e1]
      rw [← sm_add]
      refine sm_ext (fun j hj => ?_)
      by_cases e : j = m N
      · rw [if_pos e, bn_1 (p := ∃ i, i < N + 1 ∧ P i ∧ m i = j) ⟨N, by omega, hP.1, e.symm⟩, bn_0]
        rintro ⟨i, h1, h2, h3⟩
        have := hi i N (by omega) (by omega) h2 hP.1 (by omega) (by omega)
        omega
      · rw [if_neg e, Nat.add_zero]
        apply bn_iff
        constructor
        · rintro ⟨i, h1, h2, h3⟩; exact ⟨i, by omega, h2, h3⟩
        · rintro ⟨i, h1, h2, h3⟩
          by_cases e2 : i = N
          · subst e2; exact absurd h3.symm e
          · exact ⟨i, by omega, h2, h3⟩
    · rw [bn_0 hP, Nat.add_zero]
      refine sm_ext (fun j hj => ?_)
      apply bn_iff
      constructor
      · rintro ⟨i, h1, h2, h3⟩; exact ⟨i, by omega, h2, h3⟩
      · rintro ⟨i, h1, h2, h3⟩
        by_cases e2 : i = N
        · subst e2; exact absurd ⟨h2, by omega⟩ hP
        · exact ⟨i, by omega, h2, h3⟩
/-- a matching of the rows from a on, without the columns of U: m gives a row's column, n for none -/
def isM (n : Nat) (E : Nat → Nat → Bool) (a U : Nat) (m : Nat → Nat) : Prop := (∀ i, a ≤ i → i < n → m i < n → E i (m i) = true ∧ U.testBit (m i) = false) ∧ ∀ i i', a ≤ i → a ≤ i' → i < n → i' < n → m i < n → m i = m i' → i = i'
noncomputable def szm (n a : Nat) (m : Nat → Nat) : Nat := sm (fun i => bn (a ≤ i ∧ m i < n)) n
def isMax (n : Nat) (E : Nat → Nat → Bool) (a U k : Nat) : Prop := (∃ m, isM n E a U m ∧ szm n a m = k) ∧ ∀ m, isM n E a U m → szm n a m ≤ k
theorem isMax.uq {n : Nat} {E : Nat → Nat → Bool} {a U k k' : Nat} (h : isMax n E a U k) (h' : isMax n E a U k') : k = k' := by
  obtain ⟨⟨m, h1, h2⟩, h3⟩ := h
  obtain ⟨⟨m', g1, g2⟩, g3⟩ := h'
  have := g3 m h1
  have := h3 m' g1
  omega
theorem szm_le (n a : Nat) (m : Nat → Nat) : szm n a m ≤ n := by
  have := sm_le (f := fun i => bn (a ≤ i ∧ m i < n)) (b := 1) n (fun i _ => bn_b _)
  unfold szm
  omega
theorem ex_top {P : Nat → Prop} (h0 : P 0) : ∀ N, (∀ k, P k → k ≤ N) → ∃ k, P k ∧ ∀ k', P k' → k' ≤ k := by
  intro N
  induction N with
  | zero => intro h; exact ⟨0, h0, h⟩
  | succ N ih =>
    intro h
    by_cases hp : P (N + 1)
    · exact ⟨N + 1, hp, h⟩
    · refine ih (fun k hk => ?_)
      have := h k hk
      by_cases e : k = N + 1
      · subst e; exact absurd hk hp
      · omega
theorem ex_max (n : Nat) (E : Nat → Nat → Bool) (a U : Nat) : ∃ k, isMax n E a U k := by
  obtain ⟨k, h1, h2⟩ := ex_top (P := fun k => ∃ m, isM n E a U m ∧ szm n a m = k) ⟨fun _ => n, ⟨fun i _ _ h => absurd h (Nat.lt_irrefl n), fun i i' _ _ _ _ h => absurd h (Nat.lt_irrefl n)⟩, sm_0 n (fun i _ => bn_0 (fun h => Nat.lt_irrefl n h.2))⟩ n (fun k ⟨m, _, h⟩ => by have := szm_le n a m; omega)
  exact ⟨k, h1, fun m hm => h2 _ ⟨m, hm, rfl⟩⟩
noncomputable def nu (n : Nat) (E : Nat → Nat → Bool) (a U : Nat) : Nat := Classical.choose (ex_max n E a U)
theorem nu_max (n : Nat) (E : Nat → Nat → Bool) (a U : Nat) : isMax n E a U (nu n E a U) := Classical.choose_spec (ex_max n E a U)
/-- the column of a row, out of the rows of the columns -/
def cwu (r : Nat → Nat) (U n i : Nat) : Nat → Nat
  | 0 => n
  | k + 1 => if U.testBit k = false ∧ r k = i then k else cwu r U n i k
theorem cwu_at {r : Nat → Nat} {U n i : Nat} : ∀ N, N ≤ n → cwu r U n i N < n → cwu r U n i N < N ∧ U.testBit (cwu r U n i N) = false ∧ r (cwu r U n i N) = i := by
  intro N
  induction N with
  | zero => intro _ h; exact absurd h (Nat.lt_irrefl n)
  | succ N ih =>
    intro hN
    rw [cwu]
    by_cases h : U.testBit N = false ∧ r N = i
    · rw [if_pos h]; intro _; exact ⟨by omega, h.1, h.2⟩
    · rw [if_neg h]
      intro h2
      have := ih (by omega) h2
      exact ⟨by omega, this.2⟩
theorem cwu_ex {r : Nat → Nat} {U n i y : Nat} : ∀ N, N ≤ n → y < N → U.testBit y = false → r y = i → cwu r U n i N < n := by
  intro N
  induction N with
  | zero => intro _ h; omega
  | succ N ih =>
    intro hN hy h1 h2
    rw [cwu]
    by_cases h : U.testBit N = false ∧ r N = i
    · rw [if_pos h]; omega
    · rw [if_neg h]
      by_cases e : y = N
      · subst e; exact absurd ⟨h1, h2⟩ h
      · exact ih (by omega) (by omega) h1 h2
/-- rows that hold all columns that they lead to bound every matching -/
theorem max_cert {n : Nat} {E : Nat → Nat → Bool} {a U : Nat} {r : Nat → Nat} {R : Nat → Prop} (h1 : ∀ j, j < n → r j < n → U.testBit j = false → a ≤ r j ∧ E (r j) j = true) (h2 : ∀ j j', j < n → j' < n → r j = r j' → r j < n → j = j') (hR1 : ∀ u, a ≤ u → u < n → R u → ∀ y, y < n → E u y = true → U.testBit y = false → r y < n ∧ R (r y)) (hR2 : ∀ u, a ≤ u → u < n → (∀ y, y < n → U.testBit y = false → r y ≠ u) → R u) : isMax n E a U (sm (fun j => bn (U.testBit j = false ∧ r j < n)) n) := by
  have hm1 : ∀ i, cwu r U n i n < n → cwu r U n i n < n ∧ U.testBit (cwu r U n i n) = false ∧ r (cwu r U n i n) = i := fun i h => cwu_at n (Nat.le_refl n) h
  have isM0 : isM n E a U (fun i => cwu r U n i n) := by
    refine ⟨fun i ha hi hm => ?_, fun i i' _ _ hi hi' hm he => ?_⟩
    · have := hm1 i hm
      have h3 := h1 _ this.1 (by omega) this.2.1
      rw [this.2.2] at h3
      exact ⟨h3.2, this.2.1⟩
    · have he : cwu r U n i n = cwu r U n i' n := he
      have hm : cwu r U n i n < n := hm
      have q1 := hm1 i hm
      have q2 := hm1 i' (by rw [← he]; exact hm)
      rw [← q1.2.2, ← q2.2.2, he]
  have cnt : ∀ (P : Nat → Prop), sm (fun i => bn ((a ≤ i ∧ P i) ∧ cwu r U n i n < n)) n = sm (fun j => bn (U.testBit j = false ∧ r j < n ∧ P (r j))) n := by
    intro P
    rw [inj_cnt n (fun i i' hi hi' p1 p2 hm he => isM0.2 i i' p1.1 p2.1 hi hi' hm he)]
    refine sm_ext (fun j hj => bn_iff ?_)
    constructor
    · rintro ⟨i, q1, ⟨q2, q3⟩, q4⟩
      have := hm1 i (by omega)
      rw [q4] at this
      exact ⟨this.2.1, by omega, by rw [this.2.2]; exact q3⟩
    · rintro ⟨q1, q2, q3⟩
      have q4 := h1 j hj q2 q1
      have q5 := cwu_ex (r := r) (U := U) (n := n) (i := r j) n (Nat.le_refl n) hj q1 rfl
      have q6 := hm1 (r j) q5
      have q7 := h2 j (cwu r U n (r j) n) hj q6.1 q6.2.2.symm q2
      exact ⟨r j, q2, ⟨q4.1, q3⟩, q7.symm⟩
  have total : szm n a (fun i => cwu r U n i n) = sm (fun j => bn (U.testBit j = false ∧ r j < n)) n := by
    have := cnt (fun _ => True)
    unfold szm
    rw [show sm (fun i => bn (a ≤ i ∧ cwu r U n i n < n)) n = sm (fun i => bn ((a ≤ i ∧ True) ∧ cwu r U n i n < n)) n from sm_ext (fun i _ => bn_iff ⟨fun h => ⟨⟨h.1, trivial⟩, h.2⟩, fun h => ⟨h.1.1, h.2⟩⟩), this]
    exact sm_ext (fun j _ => bn_iff ⟨fun h => ⟨h.1, h.2.1⟩, fun h => ⟨h.1, h.2, trivial⟩⟩)
  refine ⟨⟨_, isM0, total⟩, fun m hm => ?_⟩
  rw [← total]
  unfold szm
  have sp : ∀ (m : Nat → Nat), sm (fun i => bn (a ≤ i ∧ m i < n)) n = sm (fun i => bn ((a ≤ i ∧ R i) ∧ m i < n)) n + sm (fun i => bn ((a ≤ i ∧ ¬ R i) ∧ m i < n)) n := by
    intro m
    rw [← sm_add]
    refine sm_ext (fun i _ => ?_)
    rw [bn_split (a ≤ i ∧ m i < n) (R i)]
    congr 1
    · exact bn_iff ⟨fun h => ⟨⟨h.1.1, h.2⟩, h.1.2⟩, fun h => ⟨⟨h.1.1, h.2⟩, h.1.2⟩⟩
    · exact bn_iff ⟨fun h => ⟨⟨h.1.1, h.2⟩, h.1.2⟩, fun h => ⟨⟨h.1.1, h.2⟩, h.1.2⟩⟩
  rw [sp m, sp (fun i => cwu r U n i n)]
  have l1 : sm (fun i => bn ((a ≤ i ∧ ¬ R i) ∧ m i < n)) n ≤ sm (fun i => bn ((a ≤ i ∧ ¬ R i) ∧ cwu r U n i n < n)) n := by
    refine sm_mono n (fun i hi => bn_le (fun h => ⟨h.1, ?_⟩))
    apply Classical.byContradiction
    intro hc
    refine h.1.2 (hR2 i h.1.1 hi (fun y hy hU he => hc (cwu_ex n (Nat.le_refl n) hy hU he)))
  have l2 : sm (fun i => bn ((a ≤ i ∧ R i) ∧ m i < n)) n ≤ sm (fun i => bn ((a ≤ i ∧ R i) ∧ cwu r U n i n < n)) n := by
    rw [cnt R, inj_cnt n (fun i i' hi hi' p1 p2 hm2 he => hm.2 i i' p1.1 p2.1 hi hi' hm2 he)]
    refine sm_mono n (fun j hj => bn_le ?_)
    rintro ⟨i, q1, ⟨q2, q3⟩, q4⟩
    have q5 := hm.1 i q2 q1 (by omega)
    rw [q4] at q5
    have q6 := hR1 i q2 q1 q3 j hj q5.1 q5.2
    exact ⟨q5.2, q6.1, q6.2⟩
  omega
/-- rows of columns, each allowed by W, no row twice; n for none -/
def Mr (n : Nat) (W : Nat → Nat → Prop) (r : Nat → Nat) : Prop := (∀ j, j < n → r j ≤ n ∧ (r j < n → W (r j) j)) ∧ ∀ j j', j < n → j' < n → r j = r j' → r j < n → j = j'
def Cl (n : Nat) (W : Nat → Nat → Prop) (r : Nat → Nat) (R : Nat → Prop) : Prop := ∀ u, R u → u < n ∧ ∀ y, y < n → W u y → r y < n ∧ R (r y)
/-- a search from rows: the line of rows come to, where columns came from, which were seen -/
def BQ (n : Nat) (W : Nat → Nat → Prop) (rt : Nat → Prop) (r cam Qu : Nat → Nat) (e : Nat) (sn : Nat → Prop) : Prop := okO n e Qu ∧ (∀ y, y < n → sn y → ∃ q, q < e ∧ cam y = Qu q ∧ W (Qu q) y) ∧ (∀ q, q < e → rt (Qu q) ∨ ∃ y, y < n ∧ sn y ∧ r y = Qu q ∧ ∃ q', q' < q ∧ cam y = Qu q') ∧ (∀ y, y < n → sn y → r y < n ∧ ∃ q, q < e ∧ Qu q = r y) ∧ ∀ x, rt x → ∀ j, j < n → r j ≠ x
theorem okO.ne {n e : Nat} {o : Nat → Nat} (H : okO n e o) {q q' : Nat} (h1 : q < q') (h2 : q' < e) : o q ≠ o q' := fun e' => by
  have h3 := (H.1 q' h2).2
  rw [(gb_tb o q' (o q')).mpr ⟨q, h1, e'⟩] at h3
  cases h3
theorem BQ.new {n : Nat} {W : Nat → Nat → Prop} {rt : Nat → Prop} {r cam Qu : Nat → Nat} {e : Nat} {sn : Nat → Prop} (H : BQ n W rt r cam Qu e sn) (hM : Mr n W r) {y : Nat} (hy : y < n) (hs : ¬ sn y) (hr : r y < n) : ∀ q, q < e → Qu q ≠ r y := by
  obtain ⟨b1, b2, b3, b4, b5⟩ := H
  intro q hq he
  cases b3 q hq with
  | inl h => exact b5 _ h y hy he.symm
  | inr h =>
    obtain ⟨y', h1, h2, h3, -⟩ := h
    have := hM.2 y' y h1 hy (by omega) (by omega)
    subst this
    exact hs h2
theorem BQ.push {n : Nat} {W : Nat → Nat → Prop} {rt : Nat → Prop} {r cam Qu : Nat → Nat} {e h : Nat} {sn : Nat → Prop} (H : BQ n W rt r cam Qu e sn) (hM : Mr n W r) {y : Nat} (hy : y < n) (hs : ¬ sn y) (hr : r y < n) (hh : h < e) (hW : W (Qu h) y) : BQ n W rt r (up cam y (Qu h)) (up Qu e (r y)) (e + 1) (fun z => sn z ∨ z = y) := by
  have hnew := H.new hM hy hs hr
  obtain ⟨b1, b2, b3, b4, b5⟩ := H
  have hQ : ∀ q, q < e → up Qu e (r y) q = Qu q := fun q hq => up_ne (by omega)
  refine ⟨b1.new hr ?_, fun z hz hsz => ?_, fun q hq => ?_, fun z hz hsz => ?_, b5⟩
  · cases hb : (gb Qu e).testBit (r y) with
    | false => rfl
    | true => obtain ⟨q, h1, h2⟩ := (gb_tb Qu e (r y)).mp hb; exact absurd h2 (hnew q h1)
  · by_cases e2 : z = y
    · subst e2; exact ⟨h, by omega, by rw [up_same, hQ h hh], by rw [hQ h hh]; exact hW⟩
    · have hsz : sn z := hsz.resolve_right e2
      obtain ⟨q, q1, q2, q3⟩ := b2 z hz hsz
      exact ⟨q, by omega, by rw [up_ne e2, hQ q q1]; exact q2, by rw [hQ q q1]; exact q3⟩
  · by_cases e2 : q = e
    · subst e2
      right
      exact ⟨y, hy, Or.inr rfl, (up_same _ _ _).symm, h, hh, by rw [up_same, hQ h hh]⟩
    · rw [hQ q (by omega)]
      cases b3 q (by omega) with
      | inl h => exact Or.inl h
      | inr h =>
        obtain ⟨z, h1, h2, h3, q', h4, h5⟩ := h
        right
        refine ⟨z, h1, Or.inl h2, h3, q', h4, ?_⟩
        have hzy : z ≠ y := fun e3 => by subst e3; exact hs h2
        rw [up_ne hzy, hQ q' (by omega)]
        exact h5
  · by_cases e2 : z = y
    · subst e2; exact ⟨hr, e, by omega, up_same _ _ _⟩
    · have hsz : sn z := hsz.resolve_right e2
      obtain ⟨q1, q, q2, q3⟩ := b4 z hz hsz
      exact ⟨q1, q, by omega, by rw [hQ q q2]; exact q3⟩
/-- the way back from a free column x0: rows are moved up to the hole x, the next row stands at p in the line -/
def Pth (n : Nat) (W : Nat → Nat → Prop) (r : Nat → Nat) (Qu : Nat → Nat) (R : Nat → Prop) (x0 : Nat) (rs_ : Nat → Nat) (x p : Nat) : Prop := x < n ∧ W (Qu p) x ∧ Mr n W (up rs_ x n) ∧ (∀ q, q ≤ p → ∀ y, y < n → r y = Qu q → rs_ y = r y ∧ y ≠ x) ∧ (∀ y, y < n → ((rs_ y < n ∨ y = x) ↔ (r y < n ∨ y = x0))) ∧ (∀ z, z < n → (∃ y, y < n ∧ r y = z) → ∃ y, y < n ∧ y ≠ x ∧ rs_ y = z) ∧ (∀ y, y < n → R (r y) → rs_ y = r y ∧ y ≠ x) ∧ ¬ R (Qu p) ∧ ∀ q, q ≤ p → ∀ y, y < n → y ≠ x → rs_ y = Qu q → r y = Qu q
theorem Pth_start {n : Nat} {W : Nat → Nat → Prop} {r Qu : Nat → Nat} {R : Nat → Prop} {x0 p : Nat} (hM : Mr n W r) (hC : Cl n W r R) (hx : x0 < n) (hr : r x0 = n) (hQ : ∀ q, q ≤ p → Qu q < n) (hW : W (Qu p) x0) : Pth n W r Qu R x0 r x0 p := by
  have e : up r x0 n = r := by
    funext j
    by_cases e : j = x0
    · subst e; rw [up_same, hr]
    · rw [up_ne e]
  refine ⟨hx, hW, by rw [e]; exact hM, fun q hq y hy he => ⟨rfl, fun e2 => ?_⟩, fun y _ => Iff.rfl, fun z hz ⟨y, h1, h2⟩ => ⟨y, h1, fun e2 => ?_, h2⟩, fun y hy hR => ⟨rfl, fun e2 => ?_⟩, fun hR => ?_, fun q _ y _ _ he => he⟩
  · subst e2; have := hQ q hq; omega
  · subst e2; omega
  · subst e2; rw [hr] at hR; exact absurd (hC n hR).1 (Nat.lt_irrefl n)
  · have := ((hC _ hR).2 x0 hx hW).1
    omega
theorem Pth_step {n : Nat} {W : Nat → Nat → Prop} {r Qu : Nat → Nat} {R : Nat → Prop} {x0 p p' : Nat} {rs_ : Nat → Nat} {x y e : Nat} (H : Pth n W r Qu R x0 rs_ x p) (hC : Cl n W r R) (hQ : okO n e Qu) (hp : p < e) (hpp : p' < p) (hy : y < n) (hry : r y = Qu p) (hW : W (Qu p') y) : Pth n W r Qu R x0 (up rs_ x (Qu p)) y p' ∧ rs_ y = Qu p ∧ y ≠ x := by
  obtain ⟨a1, a2, a3, a4, a5, a6, a7, a8, a9⟩ := H
  have hq := a4 p (Nat.le_refl p) y hy hry
  have hQp := (hQ.1 p hp).1
  have hyx := hq.2
  have hrs : rs_ y = Qu p := by rw [hq.1, hry]
  refine ⟨⟨hy, hW, ⟨fun j hj => ?_, fun j j' hj hj' he hl => ?_⟩, fun q hq y' hy' he => ?_, fun z hz => ?_, fun z hz hex => ?_, fun z hz hR => ?_, fun hR => ?_, fun q hq y' hy' hne he => ?_⟩, hrs, hyx⟩
  · by_cases e1 : j = y
    · subst e1; rw [up_same]; exact ⟨Nat.le_refl n, fun h => absurd h (Nat.lt_irrefl n)⟩
    · rw [up_ne e1]
      by_cases e2 : j = x
      · subst e2; rw [up_same]; exact ⟨by omega, fun _ => a2⟩
      · rw [up_ne e2]
        have := a3.1 j hj
        rw [up_ne e2] at this
        exact this
  · by_cases e1 : j = y
    · subst e1; rw [up_same] at hl; exact absurd hl (Nat.lt_irrefl n)
    · by_cases e2 : j' = y
      · subst e2; rw [he, up_same] at hl; exact absurd hl (Nat.lt_irrefl n)
      · rw [up_ne e1] at he hl
        rw [up_ne e2] at he
        have key : ∀ z, z < n → z ≠ y → z ≠ x → rs_ z ≠ Qu p := fun z hz z1 z2 z3 => by
          refine z1 (a3.2 z y hz hy ?_ ?_)
          · rw [up_ne z2, up_ne hyx, z3, hrs]
          · rw [up_ne z2, z3]; exact hQp
        by_cases e3 : j = x
        · by_cases e4 : j' = x
          · omega
          · subst e3
            rw [up_same, up_ne e4] at he
            exact absurd he.symm (key j' hj' e2 e4)
        · by_cases e4 : j' = x
          · subst e4
            rw [up_ne e3, up_same] at he
            exact absurd he (key j hj e1 e3)
          · rw [up_ne e3] at he hl
            rw [up_ne e4] at he
            exact a3.2 j j' hj hj' (by rw [up_ne e3, up_ne e4]; exact he) (by rw [up_ne e3]; exact hl)
  · have h1 := a4 q (by omega) y' hy' he
    refine ⟨by rw [up_ne h1.2]; exact h1.1, fun e1 => ?_⟩
    subst e1
    rw [hry] at he
    exact hQ.ne (show q < p by omega) hp he.symm
  · rw [← a5 z hz]
    by_cases e1 : z = x
    · subst e1; rw [up_same]; exact ⟨fun _ => Or.inr rfl, fun _ => Or.inl hQp⟩
    · rw [up_ne e1]
      constructor
      · rintro (h | h)
        · exact Or.inl h
        · subst h; exact Or.inl (by omega)
      · rintro (h | h)
        · exact Or.inl h
        · exact absurd h e1
  · by_cases e1 : z = Qu p
    · subst e1; exact ⟨x, a1, fun e2 => hyx e2.symm, up_same _ _ _⟩
    · obtain ⟨y', h1, h2, h3⟩ := a6 z hz hex
      exact ⟨y', h1, fun e2 => by subst e2; omega, by rw [up_ne h2]; exact h3⟩
  · have h1 := a7 z hz hR
    refine ⟨by rw [up_ne h1.2]; exact h1.1, fun e1 => ?_⟩
    subst e1
    rw [hry] at hR
    exact a8 hR
  · have := ((hC _ hR).2 y hy hW).2
    rw [hry] at this
    exact a8 this
  · by_cases e1 : y' = x
    · subst e1
      rw [up_same] at he
      exact absurd he.symm (hQ.ne (show q < p by omega) hp)
    · rw [up_ne e1] at he
      exact a9 q (by omega) y' hy' e1 he
/-- what has come of it at the end of the way -/
def Aug (n : Nat) (W : Nat → Nat → Prop) (r : Nat → Nat) (R : Nat → Prop) (x0 : Nat) (r' : Nat → Nat) (i : Nat) : Prop := Mr n W r' ∧ (∀ y, y < n → (r' y < n ↔ (r y < n ∨ y = x0))) ∧ (∀ z, z < n → ((∃ y, y < n ∧ r y = z) ∨ z = i) → ∃ y, y < n ∧ r' y = z) ∧ ∀ y, y < n → R (r y) → r' y = r y
theorem Pth_end {n : Nat} {W : Nat → Nat → Prop} {r Qu : Nat → Nat} {R : Nat → Prop} {x0 p : Nat} {rs_ : Nat → Nat} {x : Nat} (H : Pth n W r Qu R x0 rs_ x p) (hQp : Qu p < n) (hrt : ∀ j, j < n → j ≠ x → rs_ j ≠ Qu p) : Aug n W r R x0 (up rs_ x (Qu p)) (Qu p) := by
  obtain ⟨a1, a2, a3, a4, a5, a6, a7, a8, a9⟩ := H
  refine ⟨⟨fun j hj => ?_, fun j j' hj hj' he hl => ?_⟩, fun y hy => ?_, fun z hz hex => ?_, fun y hy hR => ?_⟩
  · by_cases e2 : j = x
    · subst e2; rw [up_same]; exact ⟨by omega, fun _ => a2⟩
    · rw [up_ne e2]
      have := a3.1 j hj
      rw [up_ne e2] at this
      exact this
  · by_cases e3 : j = x
    · by_cases e4 : j' = x
      · omega
      · subst e3
        rw [up_same, up_ne e4] at he
        exact absurd he.symm (hrt j' hj' e4)
    · by_cases e4 : j' = x
      · subst e4
        rw [up_ne e3, up_same] at he
        exact absurd he (hrt j hj e3)
      · rw [up_ne e3] at he hl
        rw [up_ne e4] at he
        exact a3.2 j j' hj hj' (by rw [up_ne e3, up_ne e4]; exact he) (by rw [up_ne e3]; exact hl)
  · rw [← a5 y hy]
    by_cases e1 : y = x
    · subst e1; rw [up_same]; exact ⟨fun _ => Or.inr rfl, fun _ => hQp⟩
    · rw [up_ne e1]
      exact ⟨fun h => Or.inl h, fun h => h.resolve_right e1⟩
  · by_cases e1 : z = Qu p
    · subst e1; exact ⟨x, a1, up_same _ _ _⟩
    · obtain ⟨y', h1, h2, h3⟩ := a6 z hz (hex.resolve_right e1)
      exact ⟨y', h1, by rw [up_ne h2]; exact h3⟩
  · have h1 := a7 y hy hR
    rw [up_ne h1.2]; exact h1.1
