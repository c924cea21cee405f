def d2 (u v : Nat → Int) (x y : Nat) : Int := v y * u x - v x * u y
def d3 (u v w : Nat → Int) (x y z : Nat) : Int := w z * d2 u v x y - w y * d2 u v x z + w x * d2 u v y z
def d4 (u v w t : Nat → Int) (x y z s : Nat) : Int := t s * d3 u v w x y z - t z * d3 u v w x y s + t y * d3 u v w x z s - t x * d3 u v w y z s
def d5 (u v w t q : Nat → Int) (x y z s m : Nat) : Int := q m * d4 u v w t x y z s - q s * d4 u v w t x y z m + q z * d4 u v w t x y s m - q y * d4 u v w t x z s m + q x * d4 u v w t y z s m
theorem syl1 (u v w : Nat → Int) (x y j : Nat) : d2 u v x y * d2 u w x j - d2 u w x y * d2 u v x j = u x * d3 u v w x y j := by
  unfold d3 d2; grind
theorem plu2 (u v : Nat → Int) (x y z j : Nat) : d2 u v x y * d2 u v z j - d2 u v x z * d2 u v y j + d2 u v x j * d2 u v y z = 0 := by
  unfold d2; grind
theorem syl2 (u v w t : Nat → Int) (x y z j : Nat) : d3 u v w x y z * d3 u v t x y j - d3 u v t x y z * d3 u v w x y j = d2 u v x y * d4 u v w t x y z j := by
  have h := plu2 u v x y z j
  unfold d4 d3
  generalize d2 u v x y = a at *
  generalize d2 u v x z = b at *
  generalize d2 u v x j = c at *
  generalize d2 u v y z = d at *
  generalize d2 u v y j = e at *
  generalize d2 u v z j = f at *
  grind
theorem plu3a (u v w : Nat → Int) (x y z s j : Nat) : d3 u v w x y z * d3 u v w x s j = d3 u v w x y s * d3 u v w x z j - d3 u v w x y j * d3 u v w x z s := by
  unfold d3 d2; grind
theorem plu3b (u v w : Nat → Int) (x y z s j : Nat) : d3 u v w x y z * d3 u v w y s j = d3 u v w x y s * d3 u v w y z j - d3 u v w x y j * d3 u v w y z s := by
  unfold d3 d2; grind
theorem plu3c (u v w : Nat → Int) (x y z s j : Nat) : d3 u v w x y z * d3 u v w z s j = d3 u v w x z s * d3 u v w y z j - d3 u v w x z j * d3 u v w y z s := by
  unfold d3 d2; grind
theorem syl3 (u v w t q : Nat → Int) (x y z s j : Nat) : d4 u v w t x y z s * d4 u v w q x y z j - d4 u v w q x y z s * d4 u v w t x y z j = d3 u v w x y z * d5 u v w t q x y z s j := by
  have h1 := plu3a u v w x y z s j
  have h2 := plu3b u v w x y z s j
  have h3 := plu3c u v w x y z s j
  unfold d5 d4
  generalize d3 u v w x y z = A at *
  generalize d3 u v w x y s = B at *
  generalize d3 u v w x y j = C at *
  generalize d3 u v w x z s = D at *
  generalize d3 u v w x z j = E at *
  generalize d3 u v w y z s = F at *
  generalize d3 u v w y z j = G at *
  generalize d3 u v w x s j = H at *
  generalize d3 u v w y s j = I at *
  generalize d3 u v w z s j = J at *
  have e1 : ∀ k : Int, A * (k * H) = k * (B * E - C * D) := fun k => by rw [← h1]; grind
  have e2 : ∀ k : Int, A * (k * I) = k * (B * G - C * F) := fun k => by rw [← h2]; grind
  have e3 : ∀ k : Int, A * (k * J) = k * (D * G - E * F) := fun k => by rw [← h3]; grind
  have f1 := e1 (q y * t z - q z * t y)
  have f2 := e2 (q z * t x - q x * t z)
  have f3 := e3 (q x * t y - q y * t x)
  grind
