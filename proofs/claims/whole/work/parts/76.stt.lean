theorem mat_of {n : Nat} {E : Nat → Nat → Bool} {a U : Nat} {r : Nat → Nat} (h1 : ∀ j, j < n → r j < n → U.testBit j = false → a ≤ r j ∧ E (r j) j = true) (h2 : ∀ j j', j < n → j' < n → r j = r j' → r j < n → j = j') : ∃ m, isM n E a U m ∧ szm n a m = sm (fun j => bn (U.testBit j = false ∧ r j < n)) n := by
  have hm1 : ∀ i, cwu r U n i n < n → cwu r U n i n < n ∧ U.testBit (cwu r U n i n) = false ∧ r (cwu r U n i n) = i := fun i h => cwu_at n (Nat.le_refl n) h
  have isM0 : isM n E a U (fun i => cwu r U n i n) := by
    refine ⟨fun i ha hi hm => ?_, fun i i' _ _ hi hi' hm he => ?_⟩
    · have := hm1 i hm
      have h3 := h1 _ this.1 (by omega) this.2.1
      rw [this.2.2] at h3
      exact ⟨h3.2, this.2.1⟩
    · have he : cwu r U n i n = cwu r U n i' n := he
      have hm : cwu r U n i n < n := hm
      have q1 := hm1 i hm
      have q2 := hm1 i' (by rw [← he]; exact hm)
      rw [← q1.2.2, ← q2.2.2, he]
  refine ⟨_, isM0, ?_⟩
  unfold szm
  rw [inj_cnt n (fun i i' hi hi' p1 p2 hm he => isM0.2 i i' p1 p2 hi hi' hm he)]
  refine sm_ext (fun j hj => bn_iff ?_)
  constructor
  · rintro ⟨i, q1, q2, q4⟩
    have := hm1 i (by omega)
    rw [q4] at this
    exact ⟨this.2.1, by omega⟩
  · rintro ⟨q1, q2⟩
    have q4 := h1 j hj q2 q1
    have q5 := cwu_ex (r := r) (U := U) (n := n) (i := r j) n (Nat.le_refl n) hj q1 rfl
    have q6 := hm1 (r j) q5
    have q7 := h2 j (cwu r U n (r j) n) hj q6.1 q6.2.2.symm q2
    exact ⟨r j, q2, q4.1, q7.symm⟩
abbrev Eb (C : Nat → Nat → Int32) : Nat → Nat → Bool := fun i j => C i j != 0
/-- rows below i are settled, U their columns; there are as many pairs as can be -/
def Stt (n : Nat) (C : Nat → Nat → Int32) (i U : Nat) (c r : Nat → Nat) (rk : Nat) : Prop := Mr n (Wc C i U) r ∧ CR n c r ∧ (∀ y, y < n → U.testBit y = true → r y < n) ∧ U < 2 ^ n ∧ sm (fun y => bn (r y < n)) n = rk
noncomputable def many (n i : Nat) (c : Nat → Nat) : Nat := sm (fun k => bn (k < i ∧ c k < n)) n
noncomputable def OC (n U : Nat) (r : Nat → Nat) : Nat := sm (fun y => bn (U.testBit y = false ∧ r y < n)) n
theorem CR.lt {n : Nat} {c r : Nat → Nat} (h : CR n c r) {i : Nat} (hi : i < n) (hc : c i < n) : r (c i) = i := (h.2 i _ hi hc).mp rfl
theorem CR.rlt {n : Nat} {c r : Nat → Nat} (h : CR n c r) {j : Nat} (hj : j < n) (hr : r j < n) : c (r j) = j := (h.2 _ j hr hj).mpr rfl
theorem st_cnt {n : Nat} {C : Nat → Nat → Int32} {i U : Nat} {c r : Nat → Nat} {rk : Nat} (H : Stt n C i U c r rk) : many n i c + OC n U r = rk := by
  obtain ⟨h1, h2, h3, h4, h5⟩ := H
  have e1 : many n i c = sm (fun y => bn (U.testBit y = true ∧ r y < n)) n := by
    unfold many
    rw [inj_cnt n (fun k k' hk hk' p1 p2 hm he => by
      have q1 := h2.lt hk hm
      have q2 := h2.lt hk' (by omega)
      rw [← q1, ← q2, he])]
    refine sm_ext (fun y hy => bn_iff ?_)
    constructor
    · rintro ⟨k, q1, q2, q3⟩
      have q4 : r y = k := (h2.2 k y q1 hy).mp q3
      have q5 := (h1.1 y hy).2 (by omega)
      refine ⟨?_, by omega⟩
      cases hu : U.testBit y with
      | true => rfl
      | false => have := q5.2.mp hu; omega
    · rintro ⟨q1, q2⟩
      refine ⟨r y, q2, ?_, h2.rlt hy q2⟩
      have q5 := (h1.1 y hy).2 q2
      apply Nat.lt_of_not_le
      intro hc
      rw [q5.2.mpr hc] at q1; cases q1
  rw [e1]
  unfold OC
  rw [← sm_add, ← h5]
  refine sm_ext (fun y hy => ?_)
  cases hu : U.testBit y with
  | true =>
    by_cases hr : r y < n
    · rw [bn_1 ⟨rfl, hr⟩, bn_0 (fun q => Bool.noConfusion q.1), bn_1 hr]
    · rw [bn_0 (fun q => hr q.2), bn_0 (fun q => hr q.2), bn_0 hr]
  | false =>
    by_cases hr : r y < n
    · rw [bn_0 (fun q => Bool.noConfusion q.1), bn_1 ⟨rfl, hr⟩, bn_1 hr]
    · rw [bn_0 (fun q => hr q.2), bn_0 (fun q => hr q.2), bn_0 hr]
theorem OC_le {n : Nat} {C : Nat → Nat → Int32} {i U : Nat} {r : Nat → Nat} (h : Mr n (Wc C i U) r) : OC n U r ≤ nu n (Eb C) i U := by
  obtain ⟨m, m1, m2⟩ := mat_of (E := Eb C) (a := i) (U := U) (r := r) (fun j hj hr hu => by
    have := (h.1 j hj).2 hr
    exact ⟨this.2.mp hu, this.1⟩) h.2
  have := (nu_max n (Eb C) i U).2 m m1
  unfold OC
  omega
theorem st_ub {n : Nat} {C : Nat → Nat → Int32} {i U j : Nat} {c r : Nat → Nat} (H : Stt n C i U c r (nu n (Eb C) 0 0)) (hi : i < n) (hj : j < n) (hE : Eb C i j = true) (hU : U.testBit j = false) : many n i c + 1 + nu n (Eb C) (i + 1) (U ||| 2 ^ j) ≤ nu n (Eb C) 0 0 := by
  obtain ⟨h1, h2, h3, h4, h5⟩ := H
  obtain ⟨⟨m, m1, m2⟩, -⟩ := nu_max n (Eb C) (i + 1) (U ||| 2 ^ j)
  have hset : ∀ k, k < i → c k < n → U.testBit (c k) = true ∧ Eb C k (c k) = true := fun k hk hc => by
    have q1 := h2.lt (show k < n by omega) hc
    have q2 := (h1.1 _ hc).2 (by omega)
    rw [q1] at q2
    refine ⟨?_, q2.1⟩
    cases hu : U.testBit (c k) with
    | true => rfl
    | false => have := q2.2.mp hu; omega
  have hm : ∀ k, i < k → k < n → m k < n → Eb C k (m k) = true ∧ U.testBit (m k) = false ∧ m k ≠ j := fun k hk hkn hmk => by
    have := m1.1 k hk hkn hmk
    rw [tb_or_pow, Bool.or_eq_false_iff, decide_eq_false_iff_not] at this
    exact ⟨this.1, this.2.1, this.2.2⟩
  have M : isM n (Eb C) 0 0 (fun k => if k < i then c k else if k = i then j else m k) := by
    refine ⟨fun k _ hk hl => ⟨?_, Nat.zero_testBit _⟩, fun k k' _ _ hk hk' hl he => ?_⟩
    · by_cases e1 : k < i
      · simp only [if_pos e1] at hl ⊢; exact (hset k e1 hl).2
      · by_cases e2 : k = i
        · subst e2; simp only [if_neg e1, if_true]; exact hE
        · simp only [if_neg e1, if_neg e2] at hl ⊢; exact (hm k (by omega) hk hl).1
    · by_cases e1 : k < i
      · simp only [if_pos e1] at hl he
        have s1 := hset k e1 hl
        by_cases e2 : k' < i
        · simp only [if_pos e2] at he
          have q1 := h2.lt (show k < n by omega) hl
          have q2 := h2.lt (show k' < n by omega) (by omega)
          rw [← q1, ← q2, he]
        · by_cases e3 : k' = i
          · subst e3; simp only [Nat.lt_irrefl, if_false, if_true] at he; rw [he, hU] at s1; cases s1.1
          · simp only [if_neg e2, if_neg e3] at he
            have s2 := hm k' (by omega) hk' (by omega)
            rw [he, s2.2.1] at s1; cases s1.1
      · by_cases e2 : k = i
        · subst e2
          simp only [Nat.lt_irrefl, if_false, if_true] at hl he
          by_cases e3 : k' < k
          · simp only [if_pos e3] at he
            have s1 := hset k' e3 (by omega)
            rw [← he, hU] at s1; cases s1.1
          · by_cases e4 : k' = k
            · exact e4.symm
            · simp only [if_neg e3, if_neg e4] at he
              exact absurd he.symm (hm k' (by omega) hk' (by omega)).2.2
        · simp only [if_neg e1, if_neg e2] at hl he
          have s1 := hm k (by omega) hk hl
          by_cases e3 : k' < i
          · simp only [if_pos e3] at he
            have s2 := hset k' e3 (by omega)
            rw [← he, s1.2.1] at s2; cases s2.1
          · by_cases e4 : k' = i
            · subst e4; simp only [Nat.lt_irrefl, if_false, if_true] at he; exact absurd he s1.2.2
            · simp only [if_neg e3, if_neg e4] at he
              exact m1.2 k k' (by omega) (by omega) hk hk' hl he
  have S : szm n 0 (fun k => if k < i then c k else if k = i then j else m k) = many n i c + 1 + szm n (i + 1) m := by
    unfold szm many
    have key : sm (fun k => bn (0 ≤ k ∧ (if k < i then c k else if k = i then j else m k) < n)) n = sm (fun k => (bn (k < i ∧ c k < n) + (if k = i then 1 else 0)) + bn (i + 1 ≤ k ∧ m k < n)) n := by
      refine sm_ext (fun k hk => ?_)
      by_cases e1 : k < i
      · rw [if_pos e1, if_neg (show ¬ k = i by omega), bn_0 (p := i + 1 ≤ k ∧ m k < n) (fun q => by omega), Nat.add_zero]
        exact bn_iff ⟨fun q => ⟨e1, q.2⟩, fun q => ⟨Nat.zero_le _, q.2⟩⟩
      · by_cases e2 : k = i
        · rw [if_neg e1, if_pos e2, if_pos e2, bn_1 ⟨Nat.zero_le _, hj⟩, bn_0 (p := k < i ∧ c k < n) (fun q => e1 q.1), bn_0 (p := i + 1 ≤ k ∧ m k < n) (fun q => by omega)]
        · rw [if_neg e1, if_neg e2, if_neg e2, bn_0 (p := k < i ∧ c k < n) (fun q => e1 q.1), Nat.zero_add]
          exact bn_iff ⟨fun q => ⟨by omega, q.2⟩, fun q => ⟨Nat.zero_le _, q.2⟩⟩
    rw [key, sm_add, sm_add, sm_one, if_pos hi]
  have := (nu_max n (Eb C) 0 0).2 _ M
  omega
/-- the reference's choice for a row -/
def cnd (n : Nat) (E : Nat → Nat → Bool) (rk i U m j : Nat) : Prop := E i j = true ∧ U.testBit j = false ∧ m + 1 + nu n E (i + 1) (U ||| 2 ^ j) = rk
noncomputable def mj (n : Nat) (E : Nat → Nat → Bool) (rk i U m : Nat) : Nat := fp (fun j _ => bn (cnd n E rk i U m j)) 0 n 0
noncomputable def mdS (n : Nat) (E : Nat → Nat → Bool) : Nat → Nat × Nat
  | 0 => (0, 0)
  | i + 1 => if mj n E (nu n E 0 0) i (mdS n E i).1 (mdS n E i).2 < n then ((mdS n E i).1 ||| 2 ^ mj n E (nu n E 0 0) i (mdS n E i).1 (mdS n E i).2, (mdS n E i).2 + 1) else mdS n E i
noncomputable def md (n : Nat) (E : Nat → Nat → Bool) (i : Nat) : Nat := mj n E (nu n E 0 0) i (mdS n E i).1 (mdS n E i).2
theorem many_s {n i : Nat} {c c' : Nat → Nat} (hi : i < n) (hk : ∀ k, k < i → c' k = c k) : many n (i + 1) c' = many n i c + bn (c' i < n) := by
  unfold many
  have e1 : bn (c' i < n) = sm (fun k => if k = i then bn (c' i < n) else 0) n := by rw [sm_one, if_pos hi]
  rw [e1, ← sm_add]
  refine sm_ext (fun k _ => ?_)
  by_cases e : k = i
  · subst e
    rw [if_pos rfl, bn_0 (p := k < k ∧ c k < n) (fun q => by omega), Nat.zero_add]
    exact bn_iff ⟨fun q => q.2, fun q => ⟨by omega, q⟩⟩
  · rw [if_neg e, Nat.add_zero]
    by_cases h : k < i
    · rw [hk k h]; exact bn_iff ⟨fun q => ⟨h, q.2⟩, fun q => ⟨by omega, q.2⟩⟩
    · rw [bn_0 (fun q => by omega), bn_0 (fun q => by omega)]
/-- a row that has a column in such a state: the reference's condition holds -/
theorem st_yes {n : Nat} {C : Nat → Nat → Int32} {i U j : Nat} {c r c' r' : Nat → Nat} (H : Stt n C i U c r (nu n (Eb C) 0 0)) (hi : i < n) (hj : j < n) (hE : Eb C i j = true) (hU : U.testBit j = false) (H' : Stt n C (i + 1) (U ||| 2 ^ j) c' r' (nu n (Eb C) 0 0)) (hc : c' i = j) (hk : ∀ k, k < i → c' k = c k) : cnd n (Eb C) (nu n (Eb C) 0 0) i U (many n i c) j := by
  refine ⟨hE, hU, ?_⟩
  have h1 := st_cnt H'
  have h2 := many_s hi hk
  rw [hc, bn_1 hj] at h2
  have h3 := OC_le H'.1
  have h4 := st_ub H hi hj hE hU
  omega
theorem st_full {n : Nat} {C : Nat → Nat → Int32} {r : Nat → Nat} (h : Mr n (Wc C 0 0) r) : sm (fun y => bn (r y < n)) n ≤ nu n (Eb C) 0 0 := by
  have := OC_le h
  unfold OC at this
  rw [show sm (fun y => bn (r y < n)) n = sm (fun y => bn (Nat.testBit 0 y = false ∧ r y < n)) n from sm_ext (fun y _ => bn_iff ⟨fun q => ⟨Nat.zero_testBit y, q⟩, fun q => q.2⟩)]
  exact this
theorem Mr.all {n : Nat} {C : Nat → Nat → Int32} {i U : Nat} {r : Nat → Nat} (h : Mr n (Wc C i U) r) : Mr n (Wc C 0 0) r := ⟨fun j hj => ⟨(h.1 j hj).1, fun hr => ⟨((h.1 j hj).2 hr).1, ⟨fun _ => Nat.zero_le _, fun _ => Nat.zero_testBit j⟩⟩⟩, h.2⟩
/-- the row has it already -/
theorem st_same {n : Nat} {C : Nat → Nat → Int32} {i U j rk : Nat} {c r : Nat → Nat} (H : Stt n C i U c r rk) (hi : i < n) (hj : j < n) (hc : c i = j) : Stt n C (i + 1) (U ||| 2 ^ j) c r rk ∧ Eb C i j = true ∧ U.testBit j = false := by
  obtain ⟨h1, h2, h3, h4, h5⟩ := H
  have hr : r j = i := (h2.2 i j hi hj).mp hc
  have hW := (h1.1 j hj).2 (by omega)
  rw [hr] at hW
  have hU : U.testBit j = false := hW.2.mpr (Nat.le_refl i)
  refine ⟨⟨⟨fun y hy => ⟨(h1.1 y hy).1, fun hl => ?_⟩, h1.2⟩, h2, fun y hy hu => ?_, or_lt h4 (pow_lt hj), h5⟩, hW.1, hU⟩
  · have q := (h1.1 y hy).2 hl
    refine ⟨q.1, ?_⟩
    rw [tb_or_pow, Bool.or_eq_false_iff, decide_eq_false_iff_not]
    constructor
    · rintro ⟨u1, u2⟩
      have := q.2.mp u1
      have hne : r y ≠ i := fun e => u2 (h1.2 y j hy hj (by omega) hl)
      omega
    · intro hle
      refine ⟨q.2.mpr (by omega), fun e => ?_⟩
      subst e; omega
  · rw [tb_or_pow, Bool.or_eq_true, decide_eq_true_iff] at hu
    rcases hu with hu | hu
    · exact h3 y hy hu
    · subst hu; omega
/-- the row has none -/
theorem st_none {n : Nat} {C : Nat → Nat → Int32} {i U rk : Nat} {c r : Nat → Nat} (H : Stt n C i U c r rk) (hi : i < n) (hc : c i = n) : Stt n C (i + 1) U c r rk := by
  obtain ⟨h1, h2, h3, h4, h5⟩ := H
  refine ⟨⟨fun y hy => ⟨(h1.1 y hy).1, fun hl => ?_⟩, h1.2⟩, h2, h3, h4, h5⟩
  have q := (h1.1 y hy).2 hl
  have hne : r y ≠ i := fun e => by have := (h2.2 i y hi hy).mpr e; omega
  refine ⟨q.1, q.2.trans ⟨fun q => by omega, fun q => by omega⟩⟩
/-- the arrays when a row takes a column -/
def tkr (n : Nat) (r : Nat → Nat) (i j ci : Nat) : Nat → Nat := fun y => if y = j then i else if y = ci then n else r y
def tkc (n : Nat) (c : Nat → Nat) (i j rj : Nat) : Nat → Nat := fun x => if x = i then j else if x = rj then n else c x
theorem st_take {n : Nat} {C : Nat → Nat → Int32} {i U j rk : Nat} {c r : Nat → Nat} (H : Stt n C i U c r rk) (hi : i < n) (hj : j < n) (hE : Eb C i j = true) (hU : U.testBit j = false) (hne : c i ≠ j) : Mr n (Wc C (i + 1) (U ||| 2 ^ j)) (tkr n r i j (c i)) ∧ CR n (tkc n c i j (r j)) (tkr n r i j (c i)) ∧ (∀ y, y < n → (U ||| 2 ^ j).testBit y = true → tkr n r i j (c i) y < n) ∧ U ||| 2 ^ j < 2 ^ n ∧ (∀ k, k < i → tkc n c i j (r j) k = c k) ∧ sm (fun y => bn (tkr n r i j (c i) y < n)) n + bn (c i < n) + bn (r j < n) = rk + 1 := by
  obtain ⟨h1, h2, h3, h4, h5⟩ := H
  have hci := h2.1 i hi
  have hrj := (h1.1 j hj).1
  have hrji : r j ≠ i := fun e => hne ((h2.2 i j hi hj).mpr e)
  have hrge : r j < n → i < r j := fun hl => by
    have := ((h1.1 j hj).2 hl).2.mp hU
    omega
  have hciU : c i < n → U.testBit (c i) = false := fun hl => by
    have q := h2.lt hi hl
    have := (h1.1 _ hl).2 (by omega)
    rw [q] at this
    exact this.2.mpr (Nat.le_refl i)
  have rv_ : ∀ y, y < n → y ≠ j → y ≠ c i → tkr n r i j (c i) y = r y := fun y _ e1 e2 => by unfold tkr; rw [if_neg e1, if_neg e2]
  have rj_ : tkr n r i j (c i) j = i := by unfold tkr; rw [if_pos rfl]
  have rc_ : c i < n → tkr n r i j (c i) (c i) = n := fun hl => by unfold tkr; rw [if_neg hne, if_pos rfl]
  have hri : ∀ y, y < n → y ≠ c i → r y ≠ i := fun y hy e1 e2 => e1 ((h2.2 i y hi hy).mpr e2).symm
  refine ⟨⟨fun y hy => ?_, fun y y' hy hy' he hl => ?_⟩, ⟨fun x hx => ?_, fun x y hx hy => ?_⟩, fun y hy hu => ?_, or_lt h4 (pow_lt hj), fun k hk => ?_, ?_⟩
  · by_cases e1 : y = j
    · subst e1
      rw [rj_]
      refine ⟨by omega, fun _ => ⟨hE, ?_⟩⟩
      rw [tb_or_pow]
      constructor
      · intro q; simp at q
      · intro q; omega
    · by_cases e2 : y = c i
      · rw [e2, rc_ (by omega)]
        exact ⟨Nat.le_refl n, fun q => absurd q (Nat.lt_irrefl n)⟩
      · rw [rv_ y hy e1 e2]
        refine ⟨(h1.1 y hy).1, fun hl => ?_⟩
        have q := (h1.1 y hy).2 hl
        refine ⟨q.1, ?_⟩
        rw [tb_or_pow, Bool.or_eq_false_iff, decide_eq_false_iff_not]
        have := hri y hy e2
        exact ⟨fun u => by have := q.2.mp u.1; omega, fun u => ⟨q.2.mpr (by omega), e1⟩⟩
  · by_cases e1 : y = j
    · by_cases e2 : y' = j
      · omega
      · subst e1
        rw [rj_] at he
        by_cases e3 : y' = c i
        · rw [e3, rc_ (by omega)] at he; omega
        · rw [rv_ y' hy' e2 e3] at he; exact absurd he.symm (hri y' hy' e3)
    · by_cases e3 : y = c i
      · rw [e3, rc_ (by omega)] at hl; exact absurd hl (Nat.lt_irrefl n)
      · rw [rv_ y hy e1 e3] at he hl
        by_cases e2 : y' = j
        · subst e2; rw [rj_] at he; exact absurd he (hri y hy e3)
        · by_cases e4 : y' = c i
          · rw [e4, rc_ (by omega)] at he; omega
          · rw [rv_ y' hy' e2 e4] at he
            exact h1.2 y y' hy hy' he hl
  · unfold tkc
    split
    · omega
    · split
      · omega
      · exact h2.1 x hx
  · unfold tkc tkr
    have q := h2.2 x y hx hy
    by_cases e1 : x = i
    · subst e1
      rw [if_pos rfl]
      by_cases e2 : y = j
      · subst e2; rw [if_pos rfl]; exact ⟨fun _ => rfl, fun _ => rfl⟩
      · rw [if_neg e2]
        refine ⟨fun u => absurd u.symm e2, fun u => ?_⟩
        by_cases e3 : y = c x
        · rw [if_pos e3] at u; omega
        · rw [if_neg e3] at u; exact absurd u (hri y hy e3)
    · rw [if_neg e1]
      by_cases e2 : y = j
      · subst e2
        rw [if_pos rfl]
        refine ⟨fun u => ?_, fun u => absurd u.symm e1⟩
        by_cases e3 : x = r y
        · rw [if_pos e3] at u; omega
        · rw [if_neg e3] at u; exact absurd (q.mp u).symm e3
      · rw [if_neg e2]
        by_cases e3 : x = r j
        · rw [if_pos e3]
          refine ⟨fun u => by omega, fun u => ?_⟩
          by_cases e4 : y = c i
          · rw [if_pos e4] at u; omega
          · rw [if_neg e4] at u
            exact absurd (h1.2 y j hy hj (by omega) (by omega)) e2
        · rw [if_neg e3]
          by_cases e4 : y = c i
          · rw [if_pos e4]
            refine ⟨fun u => ?_, fun u => by omega⟩
            have := q.mp u
            have h6 := h2.lt hi (show c i < n by omega)
            rw [← e4, this] at h6
            exact absurd h6 e1
          · rw [if_neg e4]; exact q
  · rw [tb_or_pow, Bool.or_eq_true, decide_eq_true_iff] at hu
    by_cases e1 : y = j
    · rw [e1, rj_]; exact hi
    · have hu := hu.resolve_right e1
      have e2 : y ≠ c i := fun e => by
        have := hciU (by omega)
        rw [← e, hu] at this; cases this
      rw [rv_ y hy e1 e2]; exact h3 y hy hu
  · unfold tkc
    rw [if_neg (by omega)]
    by_cases e : k = r j
    · have := hrge (by omega); omega
    · rw [if_neg e]
  · -- counting
    have e1 : bn (c i < n) = sm (fun y => if y = c i then 1 else 0) n := by
      rw [sm_one]
      by_cases hl : c i < n
      · rw [bn_1 hl, if_pos hl]
      · rw [bn_0 hl, if_neg hl]
    have e2 : bn (r j < n) = sm (fun y => if y = j then bn (r j < n) else 0) n := by rw [sm_one, if_pos hj]
    have e3 : (1 : Nat) = sm (fun y => if y = j then 1 else 0) n := by rw [sm_one, if_pos hj]
    rw [e1, e2, ← h5]
    conv => rhs; rw [e3]
    rw [← sm_add, ← sm_add, ← sm_add]
    refine sm_ext (fun y hy => ?_)
    by_cases q1 : y = j
    · subst q1
      rw [rj_, bn_1 hi, if_neg (fun q => hne q.symm), if_pos rfl, if_pos rfl]; omega
    · by_cases q2 : y = c i
      · have hl : c i < n := by omega
        rw [if_pos q2, if_neg q1, if_neg q1, q2, rc_ hl, bn_0 (Nat.lt_irrefl n), bn_1 (by rw [h2.lt hi hl]; exact hi)]
      · rw [rv_ y hy q1 q2, if_neg q1, if_neg q2, if_neg q1]
