theorem sm_add (f g : Nat → Nat) : ∀ n, sm (fun i => f i + g i) n = sm f n + sm g n := by
  intro n
  induction n with
  | zero => rfl
  | succ n ih => rw [sm, sm, sm, ih]; omega
theorem sm_0 {f : Nat → Nat} : ∀ n, (∀ i, i < n → f i = 0) → sm f n = 0 := by
  intro n
  induction n with
  | zero => intro _; rfl
  | succ n ih => intro h; rw [sm, ih (fun i hi => h i (by omega)), h n (by omega)]
theorem sm_one {g : Nat} (x : Nat) : ∀ n, sm (fun i => if i = g then x else 0) n = if g < n then x else 0 := by
  intro n
  induction n with
  | zero => rfl
  | succ n ih =>
    rw [sm, ih]
    by_cases h1 : n = g
    · rw [if_pos h1, if_neg (by omega), if_pos (by omega)]; omega
    · by_cases h2 : g < n
      · rw [if_neg h1, if_pos h2, if_pos (by omega)]; rfl
      · rw [if_neg h1, if_neg h2, if_neg (by omega)]
theorem pc_sm (S : Nat) : ∀ k, pc S k = sm (fun i => tb S i) k := by
  intro k
  induction k with
  | zero => rfl
  | succ k ih => rw [pc, sm, ih]
theorem tb_0 {S i : Nat} (h : S.testBit i = false) : tb S i = 0 := by unfold tb; rw [h]; rfl
theorem tb_1 {S i : Nat} (h : S.testBit i = true) : tb S i = 1 := by unfold tb; rw [h]; rfl
theorem pc_n {S n : Nat} (hn : n ≤ 20) (hS : S < 2 ^ n) : pc S 20 = pc S n := by
  obtain ⟨k, hk⟩ := Nat.exists_eq_add_of_le hn
  rw [hk]
  clear hk
  induction k with
  | zero => rfl
  | succ k ih =>
    rw [show n + (k + 1) = (n + k) + 1 by omega, pc, ih, tb_0 (tb_hi hS (by omega))]
    rfl
theorem even_sum {r : Nat → Nat → Nat} (h1 : ∀ u v, r u v = r v u) (h2 : ∀ u, r u u = 0) : ∀ n, ∃ x, sm (fun u => sm (fun v => r u v) n) n = 2 * x := by
  intro n
  induction n with
  | zero => exact ⟨0, rfl⟩
  | succ n ih =>
    obtain ⟨x, hx⟩ := ih
    have e : sm (fun u => sm (fun v => r u v) (n + 1)) (n + 1) = sm (fun u => sm (fun v => r u v) n + r u n) n + (sm (fun v => r n v) n + r n n) := rfl
    rw [e, sm_add, hx, h2]
    have e2 : sm (fun u => r u n) n = sm (fun v => r n v) n := sm_ext (fun i _ => h1 i n)
    refine ⟨x + sm (fun v => r n v) n, ?_⟩
    rw [e2]; omega
/-- ends of edges among those that have not gone -/
noncomputable def eS (G : Nat → Nat) (n S : Nat) : Nat := sm (fun u => if S.testBit u = true then 0 else pc (es G n S u) 20) n
/-- the pairs that a node's going joins, each counted twice -/
noncomputable def ff (G : Nat → Nat) (n S g : Nat) : Nat := sm (fun u => if (es G n S g).testBit u = true then pc (df (df (es G n S g) (es G n S u)) (2 ^ u)) 20 else 0) n
theorem eS_even {n S : Nat} {G : Nat → Nat} (hG : okG n G) (hn : n ≤ 20) : ∃ x, eS G n S = 2 * x := by
  obtain ⟨x, hx⟩ := even_sum (r := fun u v => if u < n ∧ S.testBit u = false then tb (es G n S u) v else 0) (fun u v => by
    by_cases h1 : u < n ∧ S.testBit u = false
    · by_cases h2 : v < n ∧ S.testBit v = false
      · simp only [if_pos h1, if_pos h2]
        cases ht : (es G n S u).testBit v with
        | true => rw [tb_1 ht, tb_1 (es_sym hG h1.1 h1.2 ht)]
        | false =>
          have : (es G n S v).testBit u = false := by
            cases hs : (es G n S v).testBit u with
            | false => rfl
            | true => rw [es_sym hG h2.1 h2.2 hs] at ht; cases ht
          rw [tb_0 ht, tb_0 this]
      · simp only [if_pos h1, if_neg h2]
        apply tb_0
        cases ht : (es G n S u).testBit v with
        | false => rfl
        | true => have := (es_tb G n S u v).mp ht; exact absurd ⟨this.1, this.2.1⟩ h2
    · by_cases h2 : v < n ∧ S.testBit v = false
      · simp only [if_neg h1, if_pos h2]
        apply Eq.symm
        apply tb_0
        cases ht : (es G n S v).testBit u with
        | false => rfl
        | true => have := (es_tb G n S v u).mp ht; exact absurd ⟨this.1, this.2.1⟩ h1
      · simp only [if_neg h1, if_neg h2]) (fun u => by
    by_cases h1 : u < n ∧ S.testBit u = false
    · simp only [if_pos h1]
      apply tb_0
      cases ht : (es G n S u).testBit u with
      | false => rfl
      | true => have := (es_tb G n S u u).mp ht; exact absurd rfl this.2.2.1
    · simp only [if_neg h1]) n
  refine ⟨x, ?_⟩
  rw [← hx]
  unfold eS
  refine sm_ext (fun u hu => ?_)
  rw [pc_n hn (es_lt G n S u), pc_sm]
  cases hs : S.testBit u with
  | true => simp only [if_true]; exact (sm_0 n (fun v _ => by simp)).symm
  | false => simp only [hu, Bool.false_eq_true, if_false, and_self, if_true]
theorem es_cnt {n S g u : Nat} {G : Nat → Nat} (hG : okG n G) (hn : n ≤ 20) (hg : g < n) (hS : S.testBit g = false) (hu : u < n) (hSu : S.testBit u = false) (hug : u ≠ g) (hL : (es G n S g).testBit u = true) : pc (es G n (S ||| 2 ^ g) u) 20 + 1 = pc (es G n S u) 20 + pc (df (df (es G n S g) (es G n S u)) (2 ^ u)) 20 := by
  have hgu : (es G n S u).testBit g = true := es_sym hG hg hS hL
  rw [es_go hn hg hS hug, if_pos hgu]
  have e1 : (1 : Nat) = sm (fun i => if i = g then 1 else 0) 20 := by rw [sm_one, if_pos (by omega)]
  rw [pc_sm, pc_sm, pc_sm]
  conv => lhs; rw [e1]
  rw [← sm_add, ← sm_add]
  have hl : ∀ x, es G n S x < 2 ^ 20 := fun x => pow20 hn (es_lt G n S x)
  have hd : df (es G n S g) (es G n S u) < 2 ^ 20 := Nat.lt_of_le_of_lt (df_le _ _) (hl g)
  refine sm_ext (fun v hv => ?_)
  have b1 : (df (es G n S u ||| es G n S g) (2 ^ u ||| 2 ^ g)).testBit v = (((es G n S u).testBit v || (es G n S g).testBit v) && !(decide (v = u) || decide (v = g))) := by
    rw [tb_df (Nat.lt_trans (or_lt (hl u) (hl g)) (by decide)), Nat.testBit_or, tb_or_pow, tb_pow]
  have b2 : (df (df (es G n S g) (es G n S u)) (2 ^ u)).testBit v = (((es G n S g).testBit v && !(es G n S u).testBit v) && !decide (v = u)) := by
    rw [tb_df (Nat.lt_trans hd (by decide)), tb_df (Nat.lt_trans (hl g) (by decide)), tb_pow]
  have b3 : (es G n S u).testBit u = false := by
    cases ht : (es G n S u).testBit u with
    | false => rfl
    | true => exact absurd rfl ((es_tb G n S u u).mp ht).2.2.1
  have b4 : (es G n S g).testBit g = false := by
    cases ht : (es G n S g).testBit g with
    | false => rfl
    | true => exact absurd rfl ((es_tb G n S g g).mp ht).2.2.1
  unfold tb
  rw [b1, b2]
  by_cases ev : v = g
  · subst ev
    simp [hgu, b4]
  · by_cases eu : v = u
    · subst eu
      simp [b3, ev]
    · cases h1 : (es G n S u).testBit v <;> cases h2 : (es G n S g).testBit v <;> simp [ev, eu]
theorem eS_go {n S g : Nat} {G : Nat → Nat} (hG : okG n G) (hn : n ≤ 20) (hg : g < n) (hS : S.testBit g = false) : eS G n (S ||| 2 ^ g) + 2 * pc (es G n S g) 20 = eS G n S + ff G n S g := by
  have e1 : pc (es G n S g) 20 = sm (fun u => tb (es G n S g) u) n := by rw [pc_n hn (es_lt _ _ _ _), pc_sm]
  have e2 : pc (es G n S g) 20 = sm (fun u => if u = g then pc (es G n S g) 20 else 0) n := by rw [sm_one, if_pos hg]
  have b4 : (es G n S g).testBit g = false := by
    cases ht : (es G n S g).testBit g with
    | false => rfl
    | true => exact absurd rfl ((es_tb G n S g g).mp ht).2.2.1
  have e3 : eS G n (S ||| 2 ^ g) + (sm (fun u => tb (es G n S g) u) n + sm (fun u => if u = g then pc (es G n S g) 20 else 0) n) = eS G n S + ff G n S g := by
    unfold eS ff
    rw [← sm_add, ← sm_add, ← sm_add]
    refine sm_ext (fun u hu => ?_)
    have hT : (S ||| 2 ^ g).testBit u = (S.testBit u || decide (u = g)) := tb_or_pow S g u
    by_cases eu : u = g
    · subst eu
      rw [hT, hS, tb_0 b4, b4]
      simp
    · cases hs : S.testBit u with
      | true =>
        have : (es G n S g).testBit u = false := by
          cases ht : (es G n S g).testBit u with
          | false => rfl
          | true => have := ((es_tb G n S g u).mp ht).2.1; rw [hs] at this; cases this
        rw [hT, hs, this, tb_0 this]
        simp [eu]
      | false =>
        cases hL : (es G n S g).testBit u with
        | true =>
          have := es_cnt hG hn hg hS hu hs eu hL
          rw [hT, hs, tb_1 hL]
          simp [eu]
          omega
        | false =>
          have h5 : ¬ (es G n S u).testBit g = true := fun q => by
            rw [es_sym hG hu hs q] at hL; cases hL
          rw [hT, hs, tb_0 hL, es_go hn hg hS eu, if_neg h5]
          simp [eu]
  rw [← e1, ← e2] at e3
  omega
/-- those that have gone before a place -/
def gb (o : Nat → Nat) (k : Nat) : Nat := orr (fun i => 2 ^ o i) k
theorem gb_tb (o : Nat → Nat) (k v : Nat) : (gb o k).testBit v = true ↔ ∃ i, i < k ∧ o i = v := by
  unfold gb
  rw [orr_tb]
  constructor
  · rintro ⟨i, h1, h2⟩
    rw [tb_pow, decide_eq_true_iff] at h2
    exact ⟨i, h1, h2.symm⟩
  · rintro ⟨i, h1, h2⟩
    exact ⟨i, h1, by rw [tb_pow, decide_eq_true_iff]; exact h2.symm⟩
theorem gb_s (o : Nat → Nat) (k : Nat) : gb o (k + 1) = gb o k ||| 2 ^ o k := rfl
theorem gb_lt {o : Nat → Nat} {n k : Nat} (ho : ∀ i, i < n → o i < n) (hk : k ≤ n) : gb o k < 2 ^ n := orr_lt k (fun i hi => pow_lt (ho i (by omega)))
def perm (n : Nat) (o : Nat → Nat) : Prop := (∀ i, i < n → o i < n) ∧ ∀ i j, i < n → j < n → o i = o j → i = j
theorem gb_no {o : Nat → Nat} {n k m : Nat} (ho : perm n o) (hkm : k ≤ m) (hm : m < n) : (gb o k).testBit (o m) = false := by
  cases ht : (gb o k).testBit (o m) with
  | false => rfl
  | true =>
    obtain ⟨i, h1, h2⟩ := (gb_tb o k (o m)).mp ht
    have := ho.2 i m (by omega) hm h2
    omega
/-- what a node is joined to as it goes, by its place -/
noncomputable def gg (G : Nat → Nat) (n : Nat) (o : Nat → Nat) (k : Nat) : Nat := es G n (gb o k) (o k)
theorem gg_lt (G : Nat → Nat) (n : Nat) (o : Nat → Nat) (k : Nat) : gg G n o k < 2 ^ n := es_lt _ _ _ _
/-- all fill of an order -/
noncomputable def fll (G : Nat → Nat) (n : Nat) (o : Nat → Nat) (k : Nat) : Nat := sm (fun i => ff G n (gb o i) (o i) / 2) k
noncomputable def cnts (G : Nat → Nat) (n : Nat) (o : Nat → Nat) (k : Nat) : Nat := sm (fun i => pc (gg G n o i) 20) k
theorem fl_cnt {n : Nat} {G : Nat → Nat} {o : Nat → Nat} (hG : okG n G) (hn : n ≤ 20) (ho : perm n o) : ∀ k, k ≤ n → eS G n (gb o k) / 2 + cnts G n o k = eS G n 0 / 2 + fll G n o k := by
  intro k
  induction k with
  | zero => intro _; rfl
  | succ k ih =>
    intro hk
    have ih := ih (by omega)
    have h1 := eS_go hG hn (ho.1 k (by omega)) (gb_no ho (Nat.le_refl k) (show k < n by omega))
    obtain ⟨x, hx⟩ := eS_even (S := gb o k) hG hn
    obtain ⟨y, hy⟩ := eS_even (S := gb o (k + 1)) hG hn
    have e1 : cnts G n o (k + 1) = cnts G n o k + pc (es G n (gb o k) (o k)) 20 := rfl
    have e2 : fll G n o (k + 1) = fll G n o k + ff G n (gb o k) (o k) / 2 := rfl
    rw [← gb_s] at h1
    rw [e1, e2]
    omega
theorem eS_end {n : Nat} {G : Nat → Nat} {o : Nat → Nat} (ho : perm n o) : eS G n (gb o n) = 0 := by
  unfold eS
  refine sm_0 n (fun u hu => ?_)
  obtain ⟨k, h1, h2⟩ := o_surj n o ho.1 ho.2 u hu
  rw [if_pos ((gb_tb o n u).mpr ⟨k, h1, h2⟩)]
theorem fl_all {n : Nat} {G : Nat → Nat} {o : Nat → Nat} (hG : okG n G) (hn : n ≤ 20) (ho : perm n o) : cnts G n o n = eS G n 0 / 2 + fll G n o n := by
  have := fl_cnt hG hn ho n (Nat.le_refl n)
  rw [eS_end ho] at this
  omega
theorem eS_0 {n : Nat} {G : Nat → Nat} (hG : okG n G) : eS G n 0 = sm (fun u => pc (G u) 20) n := by
  unfold eS
  refine sm_ext (fun u hu => ?_)
  rw [es_0 hG, Nat.zero_testBit]
  rfl
