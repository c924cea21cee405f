theorem col4 (u v w t : Nat → Int) (e x y z : Nat) : d4 u v w t e x y z = -(u e * d3 v w t x y z - v e * d3 u w t x y z + w e * d3 u v t x y z - t e * d3 u v w x y z) ∨ d4 u v w t e x y z = u e * d3 v w t x y z - v e * d3 u w t x y z + w e * d3 u v t x y z - t e * d3 u v w x y z := by
  right
  unfold d4 d3 d2; grind
theorem col5 (u v w t q : Nat → Int) (e x y z s : Nat) : d5 u v w t q e x y z s = u e * d4 v w t q x y z s - v e * d4 u w t q x y z s + w e * d4 u v t q x y z s - t e * d4 u v w q x y z s + q e * d4 u v w t x y z s := by
  unfold d5 d4 d3 d2; grind
theorem d4_rep (u v w t : Nat → Int) (x y z : Nat) : d4 u v w t x x y z = 0 := by unfold d4 d3 d2; grind
theorem d4_sw (u v w t : Nat → Int) (x y z s : Nat) : d4 u v w t x y z s = -d4 u v w t y x z s := by unfold d4 d3 d2; grind
theorem d5_rep1 (u v w t q : Nat → Int) (x y z s : Nat) : d5 u v w t q x x y z s = 0 := by unfold d5 d4 d3 d2; grind
theorem d5_rep2 (u v w t q : Nat → Int) (x y z s : Nat) : d5 u v w t q y x y z s = 0 := by unfold d5 d4 d3 d2; grind
theorem d5_sw (u v w t q : Nat → Int) (x y z s m : Nat) : d5 u v w t q x y z s m = -d5 u v w t q y x z s m := by unfold d5 d4 d3 d2; grind
theorem d5_cy (u v w t q : Nat → Int) (x y z s m : Nat) : d5 u v w t q x y z s m = d5 u v w t q z x y s m := by unfold d5 d4 d3 d2; grind
theorem z_of {a b : Int} (h : a * b = 0) (ha : a ≠ 0) : b = 0 := (Int.mul_eq_zero.mp h).resolve_left ha
theorem no4 {u v w t : Nat → Int} {a b : Int} (ha : a ≠ 0) (h0 : a * u 1 = b * u 0) (h1 : a * v 1 = b * v 0) (h2 : a * w 1 = b * w 0) (h3 : a * t 1 = b * t 0) : d4 u v w t 0 1 2 3 = 0 := by
  refine z_of (a := a) ?_ ha
  have e1 := (col4 u v w t 1 0 2 3)
  have e2 := (col4 u v w t 0 0 2 3)
  rw [d4_rep] at e2
  rw [d4_sw]
  generalize d4 u v w t 1 0 2 3 = D at *
  generalize d3 v w t 0 2 3 = N0 at *
  generalize d3 u w t 0 2 3 = N1 at *
  generalize d3 u v t 0 2 3 = N2 at *
  generalize d3 u v w 0 2 3 = N3 at *
  have e2' : u 0 * N0 - v 0 * N1 + w 0 * N2 - t 0 * N3 = 0 := by omega
  have e4 : a * (u 1 * N0 - v 1 * N1 + w 1 * N2 - t 1 * N3) = b * (u 0 * N0 - v 0 * N1 + w 0 * N2 - t 0 * N3) := by
    have f0 : a * (u 1 * N0) = b * (u 0 * N0) := by rw [← Int.mul_assoc, h0, Int.mul_assoc]
    have f1 : a * (v 1 * N1) = b * (v 0 * N1) := by rw [← Int.mul_assoc, h1, Int.mul_assoc]
    have f2 : a * (w 1 * N2) = b * (w 0 * N2) := by rw [← Int.mul_assoc, h2, Int.mul_assoc]
    have f3 : a * (t 1 * N3) = b * (t 0 * N3) := by rw [← Int.mul_assoc, h3, Int.mul_assoc]
    grind
  rw [e2', Int.mul_zero] at e4
  have hz := z_of e4 ha
  rcases e1 with e1 | e1 <;> rw [e1, hz] <;> simp
theorem no5 {u v w t q : Nat → Int} {a b : Int} (ha : a ≠ 0) (h0 : a * u 1 = b * u 0) (h1 : a * v 1 = b * v 0) (h2 : a * w 1 = b * w 0) (h3 : a * t 1 = b * t 0) (h4 : a * q 1 = b * q 0) : d5 u v w t q 0 1 2 3 4 = 0 := by
  refine z_of (a := a) ?_ ha
  have e1 := col5 u v w t q 1 0 2 3 4
  have e2 := col5 u v w t q 0 0 2 3 4
  rw [d5_rep1] at e2
  rw [d5_sw, e1]
  generalize d4 v w t q 0 2 3 4 = N0 at *
  generalize d4 u w t q 0 2 3 4 = N1 at *
  generalize d4 u v t q 0 2 3 4 = N2 at *
  generalize d4 u v w q 0 2 3 4 = N3 at *
  generalize d4 u v w t 0 2 3 4 = N4 at *
  have f0 : a * (u 1 * N0) = b * (u 0 * N0) := by rw [← Int.mul_assoc, h0, Int.mul_assoc]
  have f1 : a * (v 1 * N1) = b * (v 0 * N1) := by rw [← Int.mul_assoc, h1, Int.mul_assoc]
  have f2 : a * (w 1 * N2) = b * (w 0 * N2) := by rw [← Int.mul_assoc, h2, Int.mul_assoc]
  have f3 : a * (t 1 * N3) = b * (t 0 * N3) := by rw [← Int.mul_assoc, h3, Int.mul_assoc]
  have f4 : a * (q 1 * N4) = b * (q 0 * N4) := by rw [← Int.mul_assoc, h4, Int.mul_assoc]
  have e3 : a * -(u 1 * N0 - v 1 * N1 + w 1 * N2 - t 1 * N3 + q 1 * N4) = -(b * (u 0 * N0 - v 0 * N1 + w 0 * N2 - t 0 * N3 + q 0 * N4)) := by grind
  rw [e3, ← e2]; simp
theorem no5b {u v w t q : Nat → Int} {a b c : Int} (ha : a ≠ 0) (h0 : a * u 2 = b * u 0 + c * u 1) (h1 : a * v 2 = b * v 0 + c * v 1) (h2 : a * w 2 = b * w 0 + c * w 1) (h3 : a * t 2 = b * t 0 + c * t 1) (h4 : a * q 2 = b * q 0 + c * q 1) : d5 u v w t q 0 1 2 3 4 = 0 := by
  refine z_of (a := a) ?_ ha
  have e1 := col5 u v w t q 2 0 1 3 4
  have e2 := col5 u v w t q 0 0 1 3 4
  have e3 := col5 u v w t q 1 0 1 3 4
  rw [d5_rep1] at e2
  rw [d5_rep2] at e3
  rw [d5_cy, e1]
  generalize d4 v w t q 0 1 3 4 = N0 at *
  generalize d4 u w t q 0 1 3 4 = N1 at *
  generalize d4 u v t q 0 1 3 4 = N2 at *
  generalize d4 u v w q 0 1 3 4 = N3 at *
  generalize d4 u v w t 0 1 3 4 = N4 at *
  have f0 : a * (u 2 * N0) = b * (u 0 * N0) + c * (u 1 * N0) := by rw [← Int.mul_assoc, h0]; grind
  have f1 : a * (v 2 * N1) = b * (v 0 * N1) + c * (v 1 * N1) := by rw [← Int.mul_assoc, h1]; grind
  have f2 : a * (w 2 * N2) = b * (w 0 * N2) + c * (w 1 * N2) := by rw [← Int.mul_assoc, h2]; grind
  have f3 : a * (t 2 * N3) = b * (t 0 * N3) + c * (t 1 * N3) := by rw [← Int.mul_assoc, h3]; grind
  have f4 : a * (q 2 * N4) = b * (q 0 * N4) + c * (q 1 * N4) := by rw [← Int.mul_assoc, h4]; grind
  have e4 : a * (u 2 * N0 - v 2 * N1 + w 2 * N2 - t 2 * N3 + q 2 * N4) = b * (u 0 * N0 - v 0 * N1 + w 0 * N2 - t 0 * N3 + q 0 * N4) + c * (u 1 * N0 - v 1 * N1 + w 1 * N2 - t 1 * N3 + q 1 * N4) := by grind
  rw [e4, ← e2, ← e3]; simp
theorem Dn_no {n k : Nat} {R : Nat → Nat → Int} (hn : n ≤ 5) (hk : k < n) (h : ∀ i, k ≤ i → i < n → Bk k R i k = 0) (hp : Dn k R ≠ 0) : Dn n R = 0 := by
  by_cases c1 : n = k + 1
  · subst c1; exact h k (Nat.le_refl k) hk
  · by_cases c2 : n = k + 2
    · subst c2
      have s := syl (k := k) (i := k + 1) (j := k + 1) (R := R) (by omega)
      rw [h k (Nat.le_refl k) (by omega), h (k + 1) (by omega) (by omega), Int.zero_mul, Int.zero_mul] at s
      exact z_of s.symm hp
    · have cs : (n = 3 ∧ k = 0) ∨ (n = 4 ∧ k = 0) ∨ (n = 5 ∧ k = 0) ∨ (n = 4 ∧ k = 1) ∨ (n = 5 ∧ k = 1) ∨ (n = 5 ∧ k = 2) := by omega
      rcases cs with ⟨rfl, rfl⟩ | ⟨rfl, rfl⟩ | ⟨rfl, rfl⟩ | ⟨rfl, rfl⟩ | ⟨rfl, rfl⟩ | ⟨rfl, rfl⟩
      · have h0 : R 0 0 = 0 := h 0 (by omega) (by omega)
        have h1 : R 1 0 = 0 := h 1 (by omega) (by omega)
        have h2 : R 2 0 = 0 := h 2 (by omega) (by omega)
        show d3 (R 0) (R 1) (R 2) 0 1 2 = 0
        simp [d3, d2, h0, h1, h2]
      · have h0 : R 0 0 = 0 := h 0 (by omega) (by omega)
        have h1 : R 1 0 = 0 := h 1 (by omega) (by omega)
        have h2 : R 2 0 = 0 := h 2 (by omega) (by omega)
        have h3 : R 3 0 = 0 := h 3 (by omega) (by omega)
        show d4 (R 0) (R 1) (R 2) (R 3) 0 1 2 3 = 0
        simp [d4, d3, d2, h0, h1, h2, h3]
      · have h0 : R 0 0 = 0 := h 0 (by omega) (by omega)
        have h1 : R 1 0 = 0 := h 1 (by omega) (by omega)
        have h2 : R 2 0 = 0 := h 2 (by omega) (by omega)
        have h3 : R 3 0 = 0 := h 3 (by omega) (by omega)
        have h4 : R 4 0 = 0 := h 4 (by omega) (by omega)
        show d5 (R 0) (R 1) (R 2) (R 3) (R 4) 0 1 2 3 4 = 0
        simp [d5, d4, d3, d2, h0, h1, h2, h3, h4]
      · have g : ∀ i, 1 ≤ i → i < 4 → R 0 0 * R i 1 = R 0 1 * R i 0 := fun i h1 h2 => by
          have := h i h1 h2
          have this : d2 (R 0) (R i) 0 1 = 0 := this
          unfold d2 at this
          grind
        exact no4 (a := R 0 0) (b := R 0 1) hp (Int.mul_comm _ _) (g 1 (by omega) (by omega)) (g 2 (by omega) (by omega)) (g 3 (by omega) (by omega))
      · have g : ∀ i, 1 ≤ i → i < 5 → R 0 0 * R i 1 = R 0 1 * R i 0 := fun i h1 h2 => by
          have := h i h1 h2
          have this : d2 (R 0) (R i) 0 1 = 0 := this
          unfold d2 at this
          grind
        exact no5 (a := R 0 0) (b := R 0 1) hp (Int.mul_comm _ _) (g 1 (by omega) (by omega)) (g 2 (by omega) (by omega)) (g 3 (by omega) (by omega)) (g 4 (by omega) (by omega))
      · have g : ∀ i, 2 ≤ i → i < 5 → d2 (R 0) (R 1) 0 1 * R i 2 = -(d2 (R 0) (R 1) 1 2) * R i 0 + d2 (R 0) (R 1) 0 2 * R i 1 := fun i h1 h2 => by
          have := h i h1 h2
          have this : d3 (R 0) (R 1) (R i) 0 1 2 = 0 := this
          unfold d3 at this
          grind
        refine no5b (a := d2 (R 0) (R 1) 0 1) (b := -(d2 (R 0) (R 1) 1 2)) (c := d2 (R 0) (R 1) 0 2) hp ?_ ?_ (g 2 (by omega) (by omega)) (g 3 (by omega) (by omega)) (g 4 (by omega) (by omega))
        · unfold d2; grind
        · unfold d2; grind
