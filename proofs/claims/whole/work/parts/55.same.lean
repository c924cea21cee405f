theorem rs_congr {p : Nat} {x y : Int} (h : x % (p : Int) = y % (p : Int)) : rs p x = rs p y := by unfold rs; rw [h]
theorem rs_sub {p : Nat} {a : Int} {x y : Nat} (h : x % p = y % p) : rs p (a - (x : Int)) = rs p (a - (y : Int)) := by
  apply rs_congr
  rw [Int.sub_emod, Int.sub_emod a (y : Int), ← Int.natCast_emod, ← Int.natCast_emod, h]
theorem mm_sw (p b y c : Nat) : (b * y % p) * c % p = b * (c * y % p) % p := by
  rw [Nat.mul_mod (b * y % p), Nat.mod_mod, ← Nat.mul_mod, Nat.mul_mod b (c * y % p), Nat.mod_mod, ← Nat.mul_mod, Nat.mul_assoc, Nat.mul_comm y c]
theorem rs_negm {p : Nat} (hp : 0 < p) (P v : Nat) : rs p (((rs p (-(P : Int)) * v : Nat)) : Int) = rs p (-(P : Int) * (v : Int)) := by
  apply rs_congr
  rw [Int.natCast_mul, rs_cast hp, Int.mul_emod, Int.emod_emod, ← Int.mul_emod]
def cm (n e c : Nat) : Nat := if c < n then c else e
theorem cS_mR {p n w e : Nat} {A B : Nat → Nat → Nat} (hp : 2 ≤ p) (hw : n ≤ w) (hAB : ∀ i c, i < n → c < w → A i c = B i (cm n e c)) : ∀ j, j ≤ n → (cS p n w A j).2.1 = (mR p n B j).2.1 ∧ (cS p n w A j).2.2 = (mR p n B j).2.2 ∧ ∀ i c, (mR p n B j).2.1 ≤ i → i < n → j ≤ c → c < w → (cS p n w A j).1 i c = (mR p n B j).1 i (cm n e c) := by
  intro j
  induction j with
  | zero => intro _; exact ⟨rfl, rfl, fun i c _ hi _ hc => hAB i c hi hc⟩
  | succ j ih =>
    intro hj
    have ih := ih (by omega)
    rw [cS, mR, cst, mst]
    generalize cS p n w A j = s at *
    generalize mR p n B j = t at *
    obtain ⟨S, r, P⟩ := s
    obtain ⟨T, r', P'⟩ := t
    simp only at ih ⊢
    obtain ⟨e1, e2, e3⟩ := ih
    subst e1; subst e2
    have cj : cm n e j = j := by unfold cm; rw [if_pos (by omega)]
    have ef : fp S j n r = fp T j n r := by
      by_cases hr : r ≤ n
      · exact fp_ext r hr (fun i h1 h2 => by have := e3 i j h1 h2 (Nat.le_refl j) (by omega); rw [cj] at this; exact this)
      · unfold fp; rw [show n - r = 0 by omega]; rfl
    rw [ef]
    by_cases hf : fp T j n r < n
    · simp only [if_pos hf]
      have hr := fp_lt hf
      have hge := (fp_spec T j n r (by omega)).1.1
      generalize fp T j n r = g at *
      have sw : ∀ i c, r ≤ i → i < n → j ≤ c → c < w → swp S r g i c = swp T r g i (cm n e c) := by
        intro i c h1 h2 h3 h4
        unfold swp
        split
        · exact e3 g c hge hf h3 h4
        · split
          · exact e3 r c (Nat.le_refl r) hr h3 h4
          · exact e3 i c h1 h2 h3 h4
      have sj := sw r j (Nat.le_refl r) hr (Nat.le_refl j) (by omega)
      rw [cj] at sj
      refine ⟨trivial, ?_, fun i c h1 h2 h3 h4 => ?_⟩
      · rw [sj]
        by_cases e : g = r
        · rw [if_pos e, if_pos e, Int.natCast_mul]
        · rw [if_neg e, if_neg e, rs_negm (by omega)]
      · have si := sw i j (by omega) h2 (Nat.le_refl j) (by omega)
        rw [cj] at si
        unfold stp clr sc
        rw [if_pos (by omega), if_neg (by omega), if_pos (by omega), if_neg (by omega), if_neg (by omega)]
        unfold tms
        rw [sj, si, sw i c (by omega) h2 (by omega) h4, sw r c (Nat.le_refl r) hr (by omega) h4]
        simp only [if_neg (show ¬ i = r by omega), if_true]
        exact rs_sub (mm_sw p _ _ _)
    · simp only [if_neg hf]
      exact ⟨trivial, trivial, fun i c h1 h2 h3 h4 => e3 i c h1 h2 (by omega) h4⟩
