/-- the minor of the first k rows and row i, the first k columns and column j -/
def Bk (k : Nat) (R : Nat → Nat → Int) (i j : Nat) : Int := match k with
  | 0 => R i j
  | 1 => d2 (R 0) (R i) 0 j
  | 2 => d3 (R 0) (R 1) (R i) 0 1 j
  | 3 => d4 (R 0) (R 1) (R 2) (R i) 0 1 2 j
  | _ => d5 (R 0) (R 1) (R 2) (R 3) (R i) 0 1 2 3 j
def Dn (n : Nat) (R : Nat → Nat → Int) : Int := match n with
  | 0 => 1
  | k + 1 => Bk k R k k
theorem Dn_s (k : Nat) (R : Nat → Nat → Int) : Dn (k + 1) R = Bk k R k k := rfl
theorem syl {k i j : Nat} {R : Nat → Nat → Int} (hk : k < 4) : Bk k R k k * Bk k R i j - Bk k R i k * Bk k R k j = Dn k R * Bk (k + 1) R i j := by
  have cs : k = 0 ∨ k = 1 ∨ k = 2 ∨ k = 3 := by omega
  rcases cs with rfl | rfl | rfl | rfl
  · show R 0 0 * R i j - R i 0 * R 0 j = 1 * d2 (R 0) (R i) 0 j
    unfold d2; grind
  · exact syl1 (R 0) (R 1) (R i) 0 1 j
  · exact syl2 (R 0) (R 1) (R 2) (R i) 0 1 2 j
  · exact syl3 (R 0) (R 1) (R 2) (R 3) (R i) 0 1 2 3 j
/-- two rows changed -/
def swR (R : Nat → Nat → Int) (a b : Nat) : Nat → Nat → Int := fun i => if i = a then R b else if i = b then R a else R i
theorem Bk_sw {k i j a b : Nat} {R : Nat → Nat → Int} (hk : k ≤ 4) (ha : k ≤ a) (hb : k ≤ b) : Bk k (swR R a b) i j = Bk k R (if i = a then b else if i = b then a else i) j := by
  have h : ∀ x, x < k → swR R a b x = R x := fun x hx => by unfold swR; rw [if_neg (by omega), if_neg (by omega)]
  have e : swR R a b i = R (if i = a then b else if i = b then a else i) := by
    unfold swR
    split
    · rfl
    · split <;> rfl
  have cs : k = 0 ∨ k = 1 ∨ k = 2 ∨ k = 3 ∨ k = 4 := by omega
  rcases cs with rfl | rfl | rfl | rfl | rfl
  · show swR R a b i j = _; rw [e]; rfl
  · show d2 _ _ 0 j = _; rw [e, h 0 (by omega)]; rfl
  · show d3 _ _ _ 0 1 j = _; rw [e, h 0 (by omega), h 1 (by omega)]; rfl
  · show d4 _ _ _ _ 0 1 2 j = _; rw [e, h 0 (by omega), h 1 (by omega), h 2 (by omega)]; rfl
  · show d5 _ _ _ _ _ 0 1 2 3 j = _; rw [e, h 0 (by omega), h 1 (by omega), h 2 (by omega), h 3 (by omega)]; rfl
theorem dsw_2_0_1 (u v : Nat → Int) (x y : Nat) : d2 v u x y = -d2 u v x y := by
  unfold d2; grind
theorem dsw_3_0_1 (u v w : Nat → Int) (x y z : Nat) : d3 v u w x y z = -d3 u v w x y z := by
  unfold d3 d2; grind
theorem dsw_3_0_2 (u v w : Nat → Int) (x y z : Nat) : d3 w v u x y z = -d3 u v w x y z := by
  unfold d3 d2; grind
theorem dsw_3_1_2 (u v w : Nat → Int) (x y z : Nat) : d3 u w v x y z = -d3 u v w x y z := by
  unfold d3 d2; grind
theorem dsw_4_0_1 (u v w t : Nat → Int) (x y z s : Nat) : d4 v u w t x y z s = -d4 u v w t x y z s := by
  unfold d4 d3 d2; grind
theorem dsw_4_0_2 (u v w t : Nat → Int) (x y z s : Nat) : d4 w v u t x y z s = -d4 u v w t x y z s := by
  unfold d4 d3 d2; grind
theorem dsw_4_0_3 (u v w t : Nat → Int) (x y z s : Nat) : d4 t v w u x y z s = -d4 u v w t x y z s := by
  unfold d4 d3 d2; grind
theorem dsw_4_1_2 (u v w t : Nat → Int) (x y z s : Nat) : d4 u w v t x y z s = -d4 u v w t x y z s := by
  unfold d4 d3 d2; grind
theorem dsw_4_1_3 (u v w t : Nat → Int) (x y z s : Nat) : d4 u t w v x y z s = -d4 u v w t x y z s := by
  unfold d4 d3 d2; grind
theorem dsw_4_2_3 (u v w t : Nat → Int) (x y z s : Nat) : d4 u v t w x y z s = -d4 u v w t x y z s := by
  unfold d4 d3 d2; grind
theorem dsw_5_0_1 (u v w t q : Nat → Int) (x y z s m : Nat) : d5 v u w t q x y z s m = -d5 u v w t q x y z s m := by
  unfold d5 d4 d3 d2; grind
theorem dsw_5_0_2 (u v w t q : Nat → Int) (x y z s m : Nat) : d5 w v u t q x y z s m = -d5 u v w t q x y z s m := by
  unfold d5 d4 d3 d2; grind
theorem dsw_5_0_3 (u v w t q : Nat → Int) (x y z s m : Nat) : d5 t v w u q x y z s m = -d5 u v w t q x y z s m := by
  unfold d5 d4 d3 d2; grind
theorem dsw_5_0_4 (u v w t q : Nat → Int) (x y z s m : Nat) : d5 q v w t u x y z s m = -d5 u v w t q x y z s m := by
  unfold d5 d4 d3 d2; grind
theorem dsw_5_1_2 (u v w t q : Nat → Int) (x y z s m : Nat) : d5 u w v t q x y z s m = -d5 u v w t q x y z s m := by
  unfold d5 d4 d3 d2; grind
theorem dsw_5_1_3 (u v w t q : Nat → Int) (x y z s m : Nat) : d5 u t w v q x y z s m = -d5 u v w t q x y z s m := by
  unfold d5 d4 d3 d2; grind
theorem dsw_5_1_4 (u v w t q : Nat → Int) (x y z s m : Nat) : d5 u q w t v x y z s m = -d5 u v w t q x y z s m := by
  unfold d5 d4 d3 d2; grind
theorem dsw_5_2_3 (u v w t q : Nat → Int) (x y z s m : Nat) : d5 u v t w q x y z s m = -d5 u v w t q x y z s m := by
  unfold d5 d4 d3 d2; grind
theorem dsw_5_2_4 (u v w t q : Nat → Int) (x y z s m : Nat) : d5 u v q t w x y z s m = -d5 u v w t q x y z s m := by
  unfold d5 d4 d3 d2; grind
theorem dsw_5_3_4 (u v w t q : Nat → Int) (x y z s m : Nat) : d5 u v w q t x y z s m = -d5 u v w t q x y z s m := by
  unfold d5 d4 d3 d2; grind
theorem Dn_sw {n a b : Nat} {R : Nat → Nat → Int} (hn : n ≤ 5) (hab : a < b) (hb : b < n) : Dn n (swR R a b) = -Dn n R := by
  have cn : n = 2 ∨ n = 3 ∨ n = 4 ∨ n = 5 := by omega
  rcases cn with rfl | rfl | rfl | rfl
  · have cb : b = 1 := by omega
    rcases cb with rfl
    · have ca : a = 0 := by omega
      rcases ca with rfl
      · exact dsw_2_0_1 (R 0) (R 1) 0 1
  · have cb : b = 1 ∨ b = 2 := by omega
    rcases cb with rfl | rfl
    · have ca : a = 0 := by omega
      rcases ca with rfl
      · exact dsw_3_0_1 (R 0) (R 1) (R 2) 0 1 2
    · have ca : a = 0 ∨ a = 1 := by omega
      rcases ca with rfl | rfl
      · exact dsw_3_0_2 (R 0) (R 1) (R 2) 0 1 2
      · exact dsw_3_1_2 (R 0) (R 1) (R 2) 0 1 2
  · have cb : b = 1 ∨ b = 2 ∨ b = 3 := by omega
    rcases cb with rfl | rfl | rfl
    · have ca : a = 0 := by omega
      rcases ca with rfl
      · exact dsw_4_0_1 (R 0) (R 1) (R 2) (R 3) 0 1 2 3
    · have ca : a = 0 ∨ a = 1 := by omega
      rcases ca with rfl | rfl
      · exact dsw_4_0_2 (R 0) (R 1) (R 2) (R 3) 0 1 2 3
      · exact dsw_4_1_2 (R 0) (R 1) (R 2) (R 3) 0 1 2 3
    · have ca : a = 0 ∨ a = 1 ∨ a = 2 := by omega
      rcases ca with rfl | rfl | rfl
      · exact dsw_4_0_3 (R 0) (R 1) (R 2) (R 3) 0 1 2 3
      · exact dsw_4_1_3 (R 0) (R 1) (R 2) (R 3) 0 1 2 3
      · exact dsw_4_2_3 (R 0) (R 1) (R 2) (R 3) 0 1 2 3
  · have cb : b = 1 ∨ b = 2 ∨ b = 3 ∨ b = 4 := by omega
    rcases cb with rfl | rfl | rfl | rfl
    · have ca : a = 0 := by omega
      rcases ca with rfl
      · exact dsw_5_0_1 (R 0) (R 1) (R 2) (R 3) (R 4) 0 1 2 3 4
    · have ca : a = 0 ∨ a = 1 := by omega
      rcases ca with rfl | rfl
      · exact dsw_5_0_2 (R 0) (R 1) (R 2) (R 3) (R 4) 0 1 2 3 4
      · exact dsw_5_1_2 (R 0) (R 1) (R 2) (R 3) (R 4) 0 1 2 3 4
    · have ca : a = 0 ∨ a = 1 ∨ a = 2 := by omega
      rcases ca with rfl | rfl | rfl
      · exact dsw_5_0_3 (R 0) (R 1) (R 2) (R 3) (R 4) 0 1 2 3 4
      · exact dsw_5_1_3 (R 0) (R 1) (R 2) (R 3) (R 4) 0 1 2 3 4
      · exact dsw_5_2_3 (R 0) (R 1) (R 2) (R 3) (R 4) 0 1 2 3 4
    · have ca : a = 0 ∨ a = 1 ∨ a = 2 ∨ a = 3 := by omega
      rcases ca with rfl | rfl | rfl | rfl
      · exact dsw_5_0_4 (R 0) (R 1) (R 2) (R 3) (R 4) 0 1 2 3 4
      · exact dsw_5_1_4 (R 0) (R 1) (R 2) (R 3) (R 4) 0 1 2 3 4
      · exact dsw_5_2_4 (R 0) (R 1) (R 2) (R 3) (R 4) 0 1 2 3 4
      · exact dsw_5_3_4 (R 0) (R 1) (R 2) (R 3) (R 4) 0 1 2 3 4
