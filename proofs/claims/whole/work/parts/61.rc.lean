/-- reached from u by steps of G, through nodes of S -/
def Rc (G : Nat → Nat → Prop) (S : Nat → Prop) (u v : Nat) : Prop := ∀ A : Nat → Prop, (∀ w, G u w → A w) → (∀ k, A k → S k → ∀ w, G k w → A w) → A v
section RC
variable {G : Nat → Nat → Prop} {S T : Nat → Prop} {u v w k g : Nat}
theorem Rc.base (h : G u v) : Rc G S u v := fun A h1 _ => h1 v h
theorem Rc.step (h : Rc G S u k) (hk : S k) (hg : G k w) : Rc G S u w := fun A h1 h2 => h2 k (h A h1 h2) hk w hg
theorem Rc.trans (h : Rc G S u k) (hk : S k) (h' : Rc G S k v) : Rc G S u v := h' (fun x => Rc G S u x) (fun w hw => h.step hk hw) (fun k' h1 h2 w hw => h1.step h2 hw)
theorem Rc.mono (h : Rc G S u v) (hs : ∀ x, S x → T x) : Rc G T u v := h (fun x => Rc G T u x) (fun w hw => Rc.base hw) (fun k h1 h2 w hw => h1.step (hs k h2) hw)
theorem Rc.sym (hG : ∀ a b, G a b → G b a) (h : Rc G S u v) : Rc G S v u := h (fun x => Rc G S x u) (fun w hw => Rc.base (hG _ _ hw)) (fun k h1 h2 w hw => (Rc.base (hG _ _ hw)).trans h2 h1)
theorem Rc_add (hT : ∀ x, T x ↔ S x ∨ x = g) : Rc G T u v ↔ Rc G S u v ∨ (Rc G S u g ∧ Rc G S g v) := by
  refine ⟨fun h => ?_, fun h => ?_⟩
  · refine h (fun x => Rc G S u x ∨ (Rc G S u g ∧ Rc G S g x)) (fun w hw => Or.inl (Rc.base hw)) (fun k hk hs w hw => ?_)
    cases (hT k).mp hs with
    | inl hs =>
      cases hk with
      | inl h1 => exact Or.inl (h1.step hs hw)
      | inr h1 => exact Or.inr ⟨h1.1, h1.2.step hs hw⟩
    | inr hs =>
      subst hs
      cases hk with
      | inl h1 => exact Or.inr ⟨h1, Rc.base hw⟩
      | inr h1 => exact Or.inr ⟨h1.1, Rc.base hw⟩
  · have m : ∀ x, S x → T x := fun x hx => (hT x).mpr (Or.inl hx)
    cases h with
    | inl h1 => exact h1.mono m
    | inr h1 => exact (h1.1.mono m).trans ((hT g).mpr (Or.inr rfl)) (h1.2.mono m)
end RC
/-- a graph of n nodes, by the sets of those joined -/
def okG (n : Nat) (G : Nat → Nat) : Prop := (∀ u v, (G u).testBit v = (G v).testBit u) ∧ (∀ u, (G u).testBit u = false) ∧ ∀ u, G u < 2 ^ n
abbrev Rb (G : Nat → Nat) (S : Nat) (u v : Nat) : Prop := Rc (fun a b => (G a).testBit b = true) (fun x => S.testBit x = true) u v
theorem okG.sy {n : Nat} {G : Nat → Nat} (hG : okG n G) : ∀ a b, (G a).testBit b = true → (G b).testBit a = true := fun a b h => by rw [hG.1]; exact h
/-- those that a node is joined to when the nodes of S have gone -/
noncomputable def es (G : Nat → Nat) (n S u : Nat) : Nat := mk (fun v => @decide (S.testBit v = false ∧ v ≠ u ∧ Rb G S u v) (Classical.propDecidable _)) n
theorem es_tb (G : Nat → Nat) (n S u v : Nat) : (es G n S u).testBit v = true ↔ v < n ∧ S.testBit v = false ∧ v ≠ u ∧ Rb G S u v := by
  unfold es
  rw [mk_tb, Bool.and_eq_true, decide_eq_true_iff]
  refine and_congr_right (fun _ => ?_)
  exact @decide_eq_true_iff _ (Classical.propDecidable _)
theorem es_lt (G : Nat → Nat) (n S u : Nat) : es G n S u < 2 ^ n := mk_lt _ _
theorem tb_iff {a b : Nat} (h : ∀ i, a.testBit i = true ↔ b.testBit i = true) : a = b := tb_ext (fun i => by
  have := h i
  cases ha : a.testBit i <;> cases hb : b.testBit i <;> simp_all)
theorem es_sym {n S u v : Nat} {G : Nat → Nat} (hG : okG n G) (hu : u < n) (hS : S.testBit u = false) (h : (es G n S u).testBit v = true) : (es G n S v).testBit u = true := by
  rw [es_tb] at h ⊢
  exact ⟨hu, hS, fun e => h.2.2.1 e.symm, h.2.2.2.sym hG.sy⟩
theorem es_0 {n u : Nat} {G : Nat → Nat} (hG : okG n G) : es G n 0 u = G u := by
  apply tb_iff
  intro v
  rw [es_tb]
  refine ⟨fun h => ?_, fun h => ?_⟩
  · refine h.2.2.2 (fun x => (G u).testBit x = true) (fun w hw => hw) (fun k _ hk => ?_)
    have hk : Nat.testBit 0 k = true := hk
    rw [Nat.zero_testBit] at hk; cases hk
  · refine ⟨?_, Nat.zero_testBit v, fun e => ?_, Rc.base h⟩
    · apply Nat.lt_of_not_le
      intro hv
      rw [tb_hi (hG.2.2 u) hv] at h; cases h
    · subst e; rw [hG.2.1] at h; cases h
theorem tb_or_pow (S g x : Nat) : (S ||| 2 ^ g).testBit x = (S.testBit x || decide (x = g)) := by rw [Nat.testBit_or, tb_pow]
theorem tb_add (S g : Nat) : ∀ x, (S ||| 2 ^ g).testBit x = true ↔ S.testBit x = true ∨ x = g := fun x => by
  rw [tb_or_pow, Bool.or_eq_true, decide_eq_true_iff]
/-- one node more goes -/
theorem es_go {n S g u : Nat} {G : Nat → Nat} (hn : n ≤ 20) (hg : g < n) (hS : S.testBit g = false) (hug : u ≠ g) : es G n (S ||| 2 ^ g) u = if (es G n S u).testBit g = true then df (es G n S u ||| es G n S g) (2 ^ u ||| 2 ^ g) else es G n S u := by
  have hl : ∀ x, es G n S x < 2 ^ 32 := fun x => Nat.lt_of_lt_of_le (es_lt G n S x) (Nat.pow_le_pow_right (by decide) (by omega))
  apply tb_iff
  intro v
  have hRb : Rb G (S ||| 2 ^ g) u v ↔ Rb G S u v ∨ (Rb G S u g ∧ Rb G S g v) := Rc_add (tb_add S g)
  rw [es_tb, hRb]
  have hT : (S ||| 2 ^ g).testBit v = false ↔ S.testBit v = false ∧ v ≠ g := by
    rw [tb_or_pow, Bool.or_eq_false_iff, decide_eq_false_iff_not]
  rw [hT]
  have hug' : (es G n S u).testBit g = true ↔ Rb G S u g := by
    rw [es_tb]
    exact ⟨fun h => h.2.2.2, fun h => ⟨hg, hS, fun e => hug e.symm, h⟩⟩
  by_cases hr : (es G n S u).testBit g = true
  · rw [if_pos hr, tb_df (or_lt (hl u) (hl g)), Nat.testBit_or, tb_or_pow, tb_pow]
    have e1 := es_tb G n S u v
    have e2 := es_tb G n S g v
    have hrr := hug'.mp hr
    constructor
    · rintro ⟨h1, ⟨h2, h3⟩, h4, h5⟩
      have : (es G n S u).testBit v = true ∨ (es G n S g).testBit v = true := by
        cases h5 with
        | inl h => exact Or.inl (e1.mpr ⟨h1, h2, h4, h⟩)
        | inr h => exact Or.inr (e2.mpr ⟨h1, h2, h3, h.2⟩)
      have hx : ((es G n S u).testBit v || (es G n S g).testBit v) = true := by rw [Bool.or_eq_true]; exact this
      rw [hx]
      simp [h3, h4]
    · intro h
      rw [Bool.and_eq_true, Bool.or_eq_true, Bool.not_eq_true', Bool.or_eq_false_iff, decide_eq_false_iff_not, decide_eq_false_iff_not] at h
      obtain ⟨h1, h2, h3⟩ := h
      cases h1 with
      | inl h => have := e1.mp h; exact ⟨this.1, ⟨this.2.1, h3⟩, h2, Or.inl this.2.2.2⟩
      | inr h => have := e2.mp h; exact ⟨this.1, ⟨this.2.1, h3⟩, h2, Or.inr ⟨hrr, this.2.2.2⟩⟩
  · rw [if_neg hr, es_tb]
    have hrr : ¬ Rb G S u g := fun h => hr (hug'.mpr h)
    constructor
    · rintro ⟨h1, ⟨h2, h3⟩, h4, h5⟩
      cases h5 with
      | inl h => exact ⟨h1, h2, h4, h⟩
      | inr h => exact absurd h.1 hrr
    · rintro ⟨h1, h2, h4, h5⟩
      refine ⟨h1, ⟨h2, fun e => ?_⟩, h4, Or.inl h5⟩
      subst e; exact hrr h5
theorem jo_ok {n : Nat} {C : Nat → Nat → Int32} (hn : n ≤ 20) (hz : ∀ a b, (n ≤ a ∨ n ≤ b) → C a b = 0) : okG n (jo C) := by
  refine ⟨fun u v => ?_, fun u => ?_, fun u => ?_⟩
  · rw [jo_tb, jo_tb]
    by_cases hu : u < n
    · by_cases hv : v < n
      · have e : decide (v ≠ u) = decide (u ≠ v) := decide_eq_decide.mpr ⟨fun h e => h e.symm, fun h e => h e.symm⟩
        rw [e, Bool.or_comm (C u v != 0)]
        simp [show u < 20 by omega, show v < 20 by omega]
      · simp [hz u v (Or.inr (by omega)), hz v u (Or.inl (by omega))]
    · simp [hz u v (Or.inl (by omega)), hz v u (Or.inr (by omega))]
  · rw [jo_tb]; simp
  · apply lt_of_tb
    intro i hi
    rw [jo_tb]
    simp [hz u i (Or.inr hi), hz i u (Or.inl hi)]
