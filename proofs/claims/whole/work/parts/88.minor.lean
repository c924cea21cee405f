/-- one column of a minor's last row -/
def stp5 (s : Int × Int) (b : Bool) (m f : Int) : Int × Int := if b = true then (s.1 + s.2 * m * f, -s.2) else s
theorem stp5_t (s : Int × Int) (m f : Int) : stp5 s true m f = (s.1 + s.2 * m * f, -s.2) := rfl
theorem stp5_f (s : Int × Int) (m f : Int) : stp5 s false m f = s := rfl
def al (M : Nat → Nat → Int) (k S : Nat) (F : Nat → Int) : Nat → Int × Int
  | 0 => (0, 1)
  | t + 1 => stp5 (al M k S F t) (S.testBit (4 - t)) (M k (4 - t)) (F (df S (2 ^ (4 - t))))
def dd (M : Nat → Nat → Int) : Nat → Nat → Int
  | 0, _ => 1
  | k + 1, S => (al M k S (dd M k) 5).1
theorem al5 (M : Nat → Nat → Int) (k S : Nat) (F : Nat → Int) : al M k S F 5 = stp5 (stp5 (stp5 (stp5 (stp5 (0, 1) (S.testBit 4) (M k 4) (F (df S 16))) (S.testBit 3) (M k 3) (F (df S 8))) (S.testBit 2) (M k 2) (F (df S 4))) (S.testBit 1) (M k 1) (F (df S 2))) (S.testBit 0) (M k 0) (F (df S 1)) := rfl
theorem ddv_1 (M : Nat → Nat → Int) : dd M 1 1 = M 0 0 := by
  show (al M 0 1 (dd M 0) 5).1 = _
  rw [al5]
  simp only [stp5_t, stp5_f, show Nat.testBit 1 0 = true from by decide, show df 1 1 = 0 from by decide, show dd M 0 0 = 1 from rfl, show Nat.testBit 1 1 = false from by decide, show Nat.testBit 1 2 = false from by decide, show Nat.testBit 1 3 = false from by decide, show Nat.testBit 1 4 = false from by decide]
  grind
theorem ddv_2 (M : Nat → Nat → Int) : dd M 1 2 = M 0 1 := by
  show (al M 0 2 (dd M 0) 5).1 = _
  rw [al5]
  simp only [stp5_t, stp5_f, show Nat.testBit 2 0 = false from by decide, show Nat.testBit 2 1 = true from by decide, show df 2 2 = 0 from by decide, show dd M 0 0 = 1 from rfl, show Nat.testBit 2 2 = false from by decide, show Nat.testBit 2 3 = false from by decide, show Nat.testBit 2 4 = false from by decide]
  grind
theorem ddv_4 (M : Nat → Nat → Int) : dd M 1 4 = M 0 2 := by
  show (al M 0 4 (dd M 0) 5).1 = _
  rw [al5]
  simp only [stp5_t, stp5_f, show Nat.testBit 4 0 = false from by decide, show Nat.testBit 4 1 = false from by decide, show Nat.testBit 4 2 = true from by decide, show df 4 4 = 0 from by decide, show dd M 0 0 = 1 from rfl, show Nat.testBit 4 3 = false from by decide, show Nat.testBit 4 4 = false from by decide]
  grind
theorem ddv_8 (M : Nat → Nat → Int) : dd M 1 8 = M 0 3 := by
  show (al M 0 8 (dd M 0) 5).1 = _
  rw [al5]
  simp only [stp5_t, stp5_f, show Nat.testBit 8 0 = false from by decide, show Nat.testBit 8 1 = false from by decide, show Nat.testBit 8 2 = false from by decide, show Nat.testBit 8 3 = true from by decide, show df 8 8 = 0 from by decide, show dd M 0 0 = 1 from rfl, show Nat.testBit 8 4 = false from by decide]
  grind
theorem ddv_16 (M : Nat → Nat → Int) : dd M 1 16 = M 0 4 := by
  show (al M 0 16 (dd M 0) 5).1 = _
  rw [al5]
  simp only [stp5_t, stp5_f, show Nat.testBit 16 0 = false from by decide, show Nat.testBit 16 1 = false from by decide, show Nat.testBit 16 2 = false from by decide, show Nat.testBit 16 3 = false from by decide, show Nat.testBit 16 4 = true from by decide, show df 16 16 = 0 from by decide, show dd M 0 0 = 1 from rfl]
  grind
theorem ddv_3 (M : Nat → Nat → Int) : dd M 2 3 = d2 (M 0) (M 1) 0 1 := by
  show (al M 1 3 (dd M 1) 5).1 = _
  rw [al5]
  simp only [stp5_t, stp5_f, show Nat.testBit 3 0 = true from by decide, show df 3 1 = 2 from by decide, ddv_2, show Nat.testBit 3 1 = true from by decide, show df 3 2 = 1 from by decide, ddv_1, show Nat.testBit 3 2 = false from by decide, show Nat.testBit 3 3 = false from by decide, show Nat.testBit 3 4 = false from by decide]
  unfold d2; grind
theorem ddv_5 (M : Nat → Nat → Int) : dd M 2 5 = d2 (M 0) (M 1) 0 2 := by
  show (al M 1 5 (dd M 1) 5).1 = _
  rw [al5]
  simp only [stp5_t, stp5_f, show Nat.testBit 5 0 = true from by decide, show df 5 1 = 4 from by decide, ddv_4, show Nat.testBit 5 1 = false from by decide, show Nat.testBit 5 2 = true from by decide, show df 5 4 = 1 from by decide, ddv_1, show Nat.testBit 5 3 = false from by decide, show Nat.testBit 5 4 = false from by decide]
  unfold d2; grind
theorem ddv_6 (M : Nat → Nat → Int) : dd M 2 6 = d2 (M 0) (M 1) 1 2 := by
  show (al M 1 6 (dd M 1) 5).1 = _
  rw [al5]
  simp only [stp5_t, stp5_f, show Nat.testBit 6 0 = false from by decide, show Nat.testBit 6 1 = true from by decide, show df 6 2 = 4 from by decide, ddv_4, show Nat.testBit 6 2 = true from by decide, show df 6 4 = 2 from by decide, ddv_2, show Nat.testBit 6 3 = false from by decide, show Nat.testBit 6 4 = false from by decide]
  unfold d2; grind
theorem ddv_9 (M : Nat → Nat → Int) : dd M 2 9 = d2 (M 0) (M 1) 0 3 := by
  show (al M 1 9 (dd M 1) 5).1 = _
  rw [al5]
  simp only [stp5_t, stp5_f, show Nat.testBit 9 0 = true from by decide, show df 9 1 = 8 from by decide, ddv_8, show Nat.testBit 9 1 = false from by decide, show Nat.testBit 9 2 = false from by decide, show Nat.testBit 9 3 = true from by decide, show df 9 8 = 1 from by decide, ddv_1, show Nat.testBit 9 4 = false from by decide]
  unfold d2; grind
theorem ddv_10 (M : Nat → Nat → Int) : dd M 2 10 = d2 (M 0) (M 1) 1 3 := by
  show (al M 1 10 (dd M 1) 5).1 = _
  rw [al5]
  simp only [stp5_t, stp5_f, show Nat.testBit 10 0 = false from by decide, show Nat.testBit 10 1 = true from by decide, show df 10 2 = 8 from by decide, ddv_8, show Nat.testBit 10 2 = false from by decide, show Nat.testBit 10 3 = true from by decide, show df 10 8 = 2 from by decide, ddv_2, show Nat.testBit 10 4 = false from by decide]
  unfold d2; grind
theorem ddv_12 (M : Nat → Nat → Int) : dd M 2 12 = d2 (M 0) (M 1) 2 3 := by
  show (al M 1 12 (dd M 1) 5).1 = _
  rw [al5]
  simp only [stp5_t, stp5_f, show Nat.testBit 12 0 = false from by decide, show Nat.testBit 12 1 = false from by decide, show Nat.testBit 12 2 = true from by decide, show df 12 4 = 8 from by decide, ddv_8, show Nat.testBit 12 3 = true from by decide, show df 12 8 = 4 from by decide, ddv_4, show Nat.testBit 12 4 = false from by decide]
  unfold d2; grind
theorem ddv_17 (M : Nat → Nat → Int) : dd M 2 17 = d2 (M 0) (M 1) 0 4 := by
  show (al M 1 17 (dd M 1) 5).1 = _
  rw [al5]
  simp only [stp5_t, stp5_f, show Nat.testBit 17 0 = true from by decide, show df 17 1 = 16 from by decide, ddv_16, show Nat.testBit 17 1 = false from by decide, show Nat.testBit 17 2 = false from by decide, show Nat.testBit 17 3 = false from by decide, show Nat.testBit 17 4 = true from by decide, show df 17 16 = 1 from by decide, ddv_1]
  unfold d2; grind
theorem ddv_18 (M : Nat → Nat → Int) : dd M 2 18 = d2 (M 0) (M 1) 1 4 := by
  show (al M 1 18 (dd M 1) 5).1 = _
  rw [al5]
  simp only [stp5_t, stp5_f, show Nat.testBit 18 0 = false from by decide, show Nat.testBit 18 1 = true from by decide, show df 18 2 = 16 from by decide, ddv_16, show Nat.testBit 18 2 = false from by decide, show Nat.testBit 18 3 = false from by decide, show Nat.testBit 18 4 = true from by decide, show df 18 16 = 2 from by decide, ddv_2]
  unfold d2; grind
theorem ddv_20 (M : Nat → Nat → Int) : dd M 2 20 = d2 (M 0) (M 1) 2 4 := by
  show (al M 1 20 (dd M 1) 5).1 = _
  rw [al5]
  simp only [stp5_t, stp5_f, show Nat.testBit 20 0 = false from by decide, show Nat.testBit 20 1 = false from by decide, show Nat.testBit 20 2 = true from by decide, show df 20 4 = 16 from by decide, ddv_16, show Nat.testBit 20 3 = false from by decide, show Nat.testBit 20 4 = true from by decide, show df 20 16 = 4 from by decide, ddv_4]
  unfold d2; grind
theorem ddv_24 (M : Nat → Nat → Int) : dd M 2 24 = d2 (M 0) (M 1) 3 4 := by
  show (al M 1 24 (dd M 1) 5).1 = _
  rw [al5]
  simp only [stp5_t, stp5_f, show Nat.testBit 24 0 = false from by decide, show Nat.testBit 24 1 = false from by decide, show Nat.testBit 24 2 = false from by decide, show Nat.testBit 24 3 = true from by decide, show df 24 8 = 16 from by decide, ddv_16, show Nat.testBit 24 4 = true from by decide, show df 24 16 = 8 from by decide, ddv_8]
  unfold d2; grind
theorem ddv_7 (M : Nat → Nat → Int) : dd M 3 7 = d3 (M 0) (M 1) (M 2) 0 1 2 := by
  show (al M 2 7 (dd M 2) 5).1 = _
  rw [al5]
  simp only [stp5_t, stp5_f, show Nat.testBit 7 0 = true from by decide, show df 7 1 = 6 from by decide, ddv_6, show Nat.testBit 7 1 = true from by decide, show df 7 2 = 5 from by decide, ddv_5, show Nat.testBit 7 2 = true from by decide, show df 7 4 = 3 from by decide, ddv_3, show Nat.testBit 7 3 = false from by decide, show Nat.testBit 7 4 = false from by decide]
  unfold d3; grind
theorem ddv_11 (M : Nat → Nat → Int) : dd M 3 11 = d3 (M 0) (M 1) (M 2) 0 1 3 := by
  show (al M 2 11 (dd M 2) 5).1 = _
  rw [al5]
  simp only [stp5_t, stp5_f, show Nat.testBit 11 0 = true from by decide, show df 11 1 = 10 from by decide, ddv_10, show Nat.testBit 11 1 = true from by decide, show df 11 2 = 9 from by decide, ddv_9, show Nat.testBit 11 2 = false from by decide, show Nat.testBit 11 3 = true from by decide, show df 11 8 = 3 from by decide, ddv_3, show Nat.testBit 11 4 = false from by decide]
  unfold d3; grind
theorem ddv_13 (M : Nat → Nat → Int) : dd M 3 13 = d3 (M 0) (M 1) (M 2) 0 2 3 := by
  show (al M 2 13 (dd M 2) 5).1 = _
  rw [al5]
  simp only [stp5_t, stp5_f, show Nat.testBit 13 0 = true from by decide, show df 13 1 = 12 from by decide, ddv_12, show Nat.testBit 13 1 = false from by decide, show Nat.testBit 13 2 = true from by decide, show df 13 4 = 9 from by decide, ddv_9, show Nat.testBit 13 3 = true from by decide, show df 13 8 = 5 from by decide, ddv_5, show Nat.testBit 13 4 = false from by decide]
  unfold d3; grind
theorem ddv_14 (M : Nat → Nat → Int) : dd M 3 14 = d3 (M 0) (M 1) (M 2) 1 2 3 := by
  show (al M 2 14 (dd M 2) 5).1 = _
  rw [al5]
  simp only [stp5_t, stp5_f, show Nat.testBit 14 0 = false from by decide, show Nat.testBit 14 1 = true from by decide, show df 14 2 = 12 from by decide, ddv_12, show Nat.testBit 14 2 = true from by decide, show df 14 4 = 10 from by decide, ddv_10, show Nat.testBit 14 3 = true from by decide, show df 14 8 = 6 from by decide, ddv_6, show Nat.testBit 14 4 = false from by decide]
  unfold d3; grind
theorem ddv_19 (M : Nat → Nat → Int) : dd M 3 19 = d3 (M 0) (M 1) (M 2) 0 1 4 := by
  show (al M 2 19 (dd M 2) 5).1 = _
  rw [al5]
  simp only [stp5_t, stp5_f, show Nat.testBit 19 0 = true from by decide, show df 19 1 = 18 from by decide, ddv_18, show Nat.testBit 19 1 = true from by decide, show df 19 2 = 17 from by decide, ddv_17, show Nat.testBit 19 2 = false from by decide, show Nat.testBit 19 3 = false from by decide, show Nat.testBit 19 4 = true from by decide, show df 19 16 = 3 from by decide, ddv_3]
  unfold d3; grind
theorem ddv_21 (M : Nat → Nat → Int) : dd M 3 21 = d3 (M 0) (M 1) (M 2) 0 2 4 := by
  show (al M 2 21 (dd M 2) 5).1 = _
  rw [al5]
  simp only [stp5_t, stp5_f, show Nat.testBit 21 0 = true from by decide, show df 21 1 = 20 from by decide, ddv_20, show Nat.testBit 21 1 = false from by decide, show Nat.testBit 21 2 = true from by decide, show df 21 4 = 17 from by decide, ddv_17, show Nat.testBit 21 3 = false from by decide, show Nat.testBit 21 4 = true from by decide, show df 21 16 = 5 from by decide, ddv_5]
  unfold d3; grind
theorem ddv_22 (M : Nat → Nat → Int) : dd M 3 22 = d3 (M 0) (M 1) (M 2) 1 2 4 := by
  show (al M 2 22 (dd M 2) 5).1 = _
  rw [al5]
  simp only [stp5_t, stp5_f, show Nat.testBit 22 0 = false from by decide, show Nat.testBit 22 1 = true from by decide, show df 22 2 = 20 from by decide, ddv_20, show Nat.testBit 22 2 = true from by decide, show df 22 4 = 18 from by decide, ddv_18, show Nat.testBit 22 3 = false from by decide, show Nat.testBit 22 4 = true from by decide, show df 22 16 = 6 from by decide, ddv_6]
  unfold d3; grind
theorem ddv_25 (M : Nat → Nat → Int) : dd M 3 25 = d3 (M 0) (M 1) (M 2) 0 3 4 := by
  show (al M 2 25 (dd M 2) 5).1 = _
  rw [al5]
  simp only [stp5_t, stp5_f, show Nat.testBit 25 0 = true from by decide, show df 25 1 = 24 from by decide, ddv_24, show Nat.testBit 25 1 = false from by decide, show Nat.testBit 25 2 = false from by decide, show Nat.testBit 25 3 = true from by decide, show df 25 8 = 17 from by decide, ddv_17, show Nat.testBit 25 4 = true from by decide, show df 25 16 = 9 from by decide, ddv_9]
  unfold d3; grind
theorem ddv_26 (M : Nat → Nat → Int) : dd M 3 26 = d3 (M 0) (M 1) (M 2) 1 3 4 := by
  show (al M 2 26 (dd M 2) 5).1 = _
  rw [al5]
  simp only [stp5_t, stp5_f, show Nat.testBit 26 0 = false from by decide, show Nat.testBit 26 1 = true from by decide, show df 26 2 = 24 from by decide, ddv_24, show Nat.testBit 26 2 = false from by decide, show Nat.testBit 26 3 = true from by decide, show df 26 8 = 18 from by decide, ddv_18, show Nat.testBit 26 4 = true from by decide, show df 26 16 = 10 from by decide, ddv_10]
  unfold d3; grind
theorem ddv_28 (M : Nat → Nat → Int) : dd M 3 28 = d3 (M 0) (M 1) (M 2) 2 3 4 := by
  show (al M 2 28 (dd M 2) 5).1 = _
  rw [al5]
  simp only [stp5_t, stp5_f, show Nat.testBit 28 0 = false from by decide, show Nat.testBit 28 1 = false from by decide, show Nat.testBit 28 2 = true from by decide, show df 28 4 = 24 from by decide, ddv_24, show Nat.testBit 28 3 = true from by decide, show df 28 8 = 20 from by decide, ddv_20, show Nat.testBit 28 4 = true from by decide, show df 28 16 = 12 from by decide, ddv_12]
  unfold d3; grind
theorem ddv_15 (M : Nat → Nat → Int) : dd M 4 15 = d4 (M 0) (M 1) (M 2) (M 3) 0 1 2 3 := by
  show (al M 3 15 (dd M 3) 5).1 = _
  rw [al5]
  simp only [stp5_t, stp5_f, show Nat.testBit 15 0 = true from by decide, show df 15 1 = 14 from by decide, ddv_14, show Nat.testBit 15 1 = true from by decide, show df 15 2 = 13 from by decide, ddv_13, show Nat.testBit 15 2 = true from by decide, show df 15 4 = 11 from by decide, ddv_11, show Nat.testBit 15 3 = true from by decide, show df 15 8 = 7 from by decide, ddv_7, show Nat.testBit 15 4 = false from by decide]
  unfold d4; grind
theorem ddv_23 (M : Nat → Nat → Int) : dd M 4 23 = d4 (M 0) (M 1) (M 2) (M 3) 0 1 2 4 := by
  show (al M 3 23 (dd M 3) 5).1 = _
  rw [al5]
  simp only [stp5_t, stp5_f, show Nat.testBit 23 0 = true from by decide, show df 23 1 = 22 from by decide, ddv_22, show Nat.testBit 23 1 = true from by decide, show df 23 2 = 21 from by decide, ddv_21, show Nat.testBit 23 2 = true from by decide, show df 23 4 = 19 from by decide, ddv_19, show Nat.testBit 23 3 = false from by decide, show Nat.testBit 23 4 = true from by decide, show df 23 16 = 7 from by decide, ddv_7]
  unfold d4; grind
theorem ddv_27 (M : Nat → Nat → Int) : dd M 4 27 = d4 (M 0) (M 1) (M 2) (M 3) 0 1 3 4 := by
  show (al M 3 27 (dd M 3) 5).1 = _
  rw [al5]
  simp only [stp5_t, stp5_f, show Nat.testBit 27 0 = true from by decide, show df 27 1 = 26 from by decide, ddv_26, show Nat.testBit 27 1 = true from by decide, show df 27 2 = 25 from by decide, ddv_25, show Nat.testBit 27 2 = false from by decide, show Nat.testBit 27 3 = true from by decide, show df 27 8 = 19 from by decide, ddv_19, show Nat.testBit 27 4 = true from by decide, show df 27 16 = 11 from by decide, ddv_11]
  unfold d4; grind
theorem ddv_29 (M : Nat → Nat → Int) : dd M 4 29 = d4 (M 0) (M 1) (M 2) (M 3) 0 2 3 4 := by
  show (al M 3 29 (dd M 3) 5).1 = _
  rw [al5]
  simp only [stp5_t, stp5_f, show Nat.testBit 29 0 = true from by decide, show df 29 1 = 28 from by decide, ddv_28, show Nat.testBit 29 1 = false from by decide, show Nat.testBit 29 2 = true from by decide, show df 29 4 = 25 from by decide, ddv_25, show Nat.testBit 29 3 = true from by decide, show df 29 8 = 21 from by decide, ddv_21, show Nat.testBit 29 4 = true from by decide, show df 29 16 = 13 from by decide, ddv_13]
  unfold d4; grind
theorem ddv_30 (M : Nat → Nat → Int) : dd M 4 30 = d4 (M 0) (M 1) (M 2) (M 3) 1 2 3 4 := by
  show (al M 3 30 (dd M 3) 5).1 = _
  rw [al5]
  simp only [stp5_t, stp5_f, show Nat.testBit 30 0 = false from by decide, show Nat.testBit 30 1 = true from by decide, show df 30 2 = 28 from by decide, ddv_28, show Nat.testBit 30 2 = true from by decide, show df 30 4 = 26 from by decide, ddv_26, show Nat.testBit 30 3 = true from by decide, show df 30 8 = 22 from by decide, ddv_22, show Nat.testBit 30 4 = true from by decide, show df 30 16 = 14 from by decide, ddv_14]
  unfold d4; grind
theorem ddv_31 (M : Nat → Nat → Int) : dd M 5 31 = d5 (M 0) (M 1) (M 2) (M 3) (M 4) 0 1 2 3 4 := by
  show (al M 4 31 (dd M 4) 5).1 = _
  rw [al5]
  simp only [stp5_t, stp5_f, show Nat.testBit 31 0 = true from by decide, show df 31 1 = 30 from by decide, ddv_30, show Nat.testBit 31 1 = true from by decide, show df 31 2 = 29 from by decide, ddv_29, show Nat.testBit 31 2 = true from by decide, show df 31 4 = 27 from by decide, ddv_27, show Nat.testBit 31 3 = true from by decide, show df 31 8 = 23 from by decide, ddv_23, show Nat.testBit 31 4 = true from by decide, show df 31 16 = 15 from by decide, ddv_15]
  unfold d5; grind
/-- minors by their sets of columns -/
def VD (M : Nat → Nat → Int) (S : Nat) : Int := dd M (pc S 5) S
theorem VD_all {n : Nat} (M : Nat → Nat → Int) (hn : 1 ≤ n ∧ n ≤ 5) : VD M (2 ^ n - 1) = Dn n M := by
  have cs : n = 1 ∨ n = 2 ∨ n = 3 ∨ n = 4 ∨ n = 5 := by omega
  rcases cs with rfl | rfl | rfl | rfl | rfl
  · exact ddv_1 M
  · exact ddv_3 M
  · exact ddv_7 M
  · exact ddv_15 M
  · exact ddv_31 M
theorem al_0 {M : Nat → Nat → Int} {k S n : Nat} {F : Nat → Int} (hS : S < 2 ^ n) : ∀ t, t + n ≤ 5 → al M k S F t = (0, 1) := by
  intro t
  induction t with
  | zero => intro _; rfl
  | succ t ih =>
    intro h
    rw [al, tb_hi hS (show n ≤ 4 - t by omega), stp5_f]
    exact ih (by omega)
/-- a table with a side in place of a column -/
def MX (C : Nat → Nat → Int32) (s : Nat → Int32) (q : Nat) : Nat → Nat → Int := fun i j => if j = q then (s i).toInt else (C i j).toInt
theorem x_minorOf {d n S q : Nat} {rp : Int32} {C : Nat → Nat → Int32} {s : Nat → Int32} {f : Nat → Int64} {h : j_H} {Q : Option Value → j_H → Prop} (hT : xT h n C) (h24 : hI h 24 20 20 s) (h86 : hg h 86 = some (oB 2 [.ref 87])) (h87 : hg h 87 = some (aL 32 f)) (hn : 1 ≤ n ∧ n ≤ 5) (hS : S < 2 ^ n) (hS0 : 0 < S) (hrp : ∀ j, j < n → ((nI j = rp) = (j = q))) (hf : ∀ X, X < S → f X = lI (VD (MX C s q) X)) : WP (d + 1) mX2_minorOf 0 [some (.ref 86), some (.ref 2), some (.int (nI S)), some (.int rp), none, none, none, none, none, none, none, none] [] h Q = Q (some (.long (lI (VD (MX C s q) S)))) h := by
  have x2 := hT.1
  obtain ⟨f24, g24, w24⟩ := h24
  have hS32 : S < 32 := Nat.lt_of_lt_of_le hS (Nat.pow_le_pow_right (by decide) hn.2)
  have hS20 : S < 2 ^ 20 := by omega
  have hp5 : pc S 20 = pc S 5 := pc_n (by decide) (show S < 2 ^ 5 from hS32)
  obtain ⟨e, he⟩ := ex_tb (show S ≠ 0 by omega)
  have hen := tb_bd hS he
  have hpn : pc S 5 = pc S n := by rw [← hp5, pc_n (by omega) hS]
  have hp1 : 1 ≤ pc S 5 := by have := pc_out hS20 hen he; omega
  have hp2 := pc_le S n
  obtain ⟨k, hk⟩ : ∃ k, pc S 5 = k + 1 := ⟨pc S 5 - 1, by omega⟩
  have hkn : k < n := by omega
  have eV : VD (MX C s q) S = (al (MX C s q) k S (dd (MX C s q) k) 5).1 := by
    show dd (MX C s q) (pc S 5) S = _
    rw [hk]; rfl
  obtain ⟨R, fr, q1, q2, q3, q4⟩ := hT.cell (i := k) (by omega)
  have es : f24 k = s k := w24 k (by omega)
  have hn1 : nI n - nI 1 = dI n := by rw [n_sub hn.1]; exact (n_dec (by omega)).symm
  have hpk : nI (pc S 20) - nI 1 = nI k := by rw [hp5, hk, n_sub (by omega)]; rfl
  simp (disch := first | omega | assumption) only [r_X2_minorOf_0, r_X2_minorOf_1, r_X2_minorOf_4, r_X2_minorOf_5, r_X2_minorOf_6, r_X2_minorOf_8, r_X2_minorOf_9, r_X2_minorOf_11, r_X2_minorOf_12, r_X2_minorOf_14, r_X2_minorOf_15, r_X2_minorOf_18, r_X2_minorOf_19, r_X2_minorOf_20, r_X2_minorOf_24, r_X2_minorOf_27, r_X2_minorOf_29, r_X2_minorOf_32, r_X2_minorOf_33, r_X2_minorOf_35, r_X2_minorOf_38, r_X2_minorOf_41, r_X2_minorOf_43, r_X2_minorOf_44, r_X2_minorOf_47, r_X2_minorOf_48, r_X2_minorOf_51, r_X2_minorOf_53, r_X2_minorOf_54, r_X2_minorOf_55, r_X2_minorOf_58, r_X2_minorOf_59, r_X2_minorOf_62, r_X2_minorOf_64, r_X2_minorOf_65, r_X2_minorOf_67, r_X2_minorOf_68, r_X2_minorOf_69, r_X2_minorOf_71, r_X2_minorOf_73, r_X2_minorOf_75, r_X2_minorOf_77, r_X2_minorOf_78, r_X2_minorOf_79, r_X2_minorOf_82, r_X2_minorOf_83, r_X2_minorOf_85, r_X2_minorOf_88, r_X2_minorOf_89, r_X2_minorOf_90, r_X2_minorOf_91, r_X2_minorOf_92, r_X2_minorOf_93, r_X2_minorOf_94, r_X2_minorOf_96, r_X2_minorOf_98, r_X2_minorOf_99, r_X2_minorOf_101, r_X2_minorOf_104, r_X2_minorOf_107, r_X2_minorOf_109, gF_0, gF_1, gF_2, gF_3, gF_4, gF_5, gF_6, gF_7, gF_8, gF_9, gF_10, gF_11, gF_12, gF_13, gF_14, gF_15, gF_16, gF_17, pF_0, pF_1, pF_2, pF_3, pF_4, pF_5, pF_6, pF_7, pF_8, pF_9, pF_10, pF_11, pF_12, pF_13, pF_14, pF_15, pF_16, pF_17, gI_of, gL_of, gR_of, sI_of, sL_of, gN_of, gO_of, cl_i, cl_r, cl_l, cl_n, pu_s, pu_n, rV_s, hg_same, hg_ne, if_true, if_false, true_and, and_true, ne_eq, not_false_eq_true, not_true_eq_false, eq_self, reduceCtorEq, Nat.reduceAdd, x_bitCount, x2, hpk, hn1, lN_lI]
  have key : ∀ t, t ≤ n → ∀ x10 x11, WP (d + 1) mX2_minorOf 22 [some (.ref 86), some (.ref 2), some (.int (nI S)), some (.int rp), some (.int (nI k)), some (.long (lI (al (MX C s q) k S (dd (MX C s q) k) (5 - t)).1)), none, some (.long (lI (al (MX C s q) k S (dd (MX C s q) k) (5 - t)).2)), none, some (.int (dI t)), x10, x11] [] h Q = Q (some (.long (lI (VD (MX C s q) S)))) h := by
    intro t
    induction t with
    | zero =>
      intro _ x10 x11
      rw [r_X2_minorOf_22, dI_0, eV]
      simp (disch := first | omega | assumption) only [r_X2_minorOf_0, r_X2_minorOf_1, r_X2_minorOf_4, r_X2_minorOf_5, r_X2_minorOf_6, r_X2_minorOf_8, r_X2_minorOf_9, r_X2_minorOf_11, r_X2_minorOf_12, r_X2_minorOf_14, r_X2_minorOf_15, r_X2_minorOf_18, r_X2_minorOf_19, r_X2_minorOf_20, r_X2_minorOf_24, r_X2_minorOf_27, r_X2_minorOf_29, r_X2_minorOf_32, r_X2_minorOf_33, r_X2_minorOf_35, r_X2_minorOf_38, r_X2_minorOf_41, r_X2_minorOf_43, r_X2_minorOf_44, r_X2_minorOf_47, r_X2_minorOf_48, r_X2_minorOf_51, r_X2_minorOf_53, r_X2_minorOf_54, r_X2_minorOf_55, r_X2_minorOf_58, r_X2_minorOf_59, r_X2_minorOf_62, r_X2_minorOf_64, r_X2_minorOf_65, r_X2_minorOf_67, r_X2_minorOf_68, r_X2_minorOf_69, r_X2_minorOf_71, r_X2_minorOf_73, r_X2_minorOf_75, r_X2_minorOf_77, r_X2_minorOf_78, r_X2_minorOf_79, r_X2_minorOf_82, r_X2_minorOf_83, r_X2_minorOf_85, r_X2_minorOf_88, r_X2_minorOf_89, r_X2_minorOf_90, r_X2_minorOf_91, r_X2_minorOf_92, r_X2_minorOf_93, r_X2_minorOf_94, r_X2_minorOf_96, r_X2_minorOf_98, r_X2_minorOf_99, r_X2_minorOf_101, r_X2_minorOf_104, r_X2_minorOf_107, r_X2_minorOf_109, gF_0, gF_1, gF_2, gF_3, gF_4, gF_5, gF_6, gF_7, gF_8, gF_9, gF_10, gF_11, gF_12, gF_13, gF_14, gF_15, gF_16, gF_17, pF_0, pF_1, pF_2, pF_3, pF_4, pF_5, pF_6, pF_7, pF_8, pF_9, pF_10, pF_11, pF_12, pF_13, pF_14, pF_15, pF_16, pF_17, gI_of, gL_of, gR_of, sI_of, sL_of, gN_of, gO_of, cl_i, cl_r, cl_l, cl_n, pu_s, pu_n, rV_s, hg_same, hg_ne, if_true, if_false, true_and, and_true, ne_eq, not_false_eq_true, not_true_eq_false, eq_self, reduceCtorEq, Nat.reduceAdd, nI_add, n_mul, n_sub, n_div, n_dec, n_dif, n_shl1, n_bit, n_eq0, n_0eq, n_eq, n_lt, n_le, n_lt0, n_ge0, n_gt0, n_le0, n_em1, n_m1e, n_m1lt0, n_m1ge0, n_m1gt0, n_m1eq0, n_m1lt, bI_eq0, bI_ne0, tb_eq0, tb_eq1, x2]
    | succ t ih =>
      intro ht x10 x11
      have ih := ih (by omega)
      have htn : t < n := by omega
      have ec : fr t = C k t := q4 t (by omega)
      have hd : nI t + (-1) = dI t := rfl
      have e5 : 5 - t = (5 - (t + 1)) + 1 := by omega
      have e4 : 4 - (5 - (t + 1)) = t := by omega
      rw [e5, al, e4] at ih
      generalize al (MX C s q) k S (dd (MX C s q) k) (5 - (t + 1)) = A at *
      obtain ⟨A1, A2⟩ := A
      rw [r_X2_minorOf_22, dI_s]
      cases hb : S.testBit t with
      | false =>
        rw [hb, stp5_f] at ih
        simp (disch := first | omega | assumption) only [r_X2_minorOf_0, r_X2_minorOf_1, r_X2_minorOf_4, r_X2_minorOf_5, r_X2_minorOf_6, r_X2_minorOf_8, r_X2_minorOf_9, r_X2_minorOf_11, r_X2_minorOf_12, r_X2_minorOf_14, r_X2_minorOf_15, r_X2_minorOf_18, r_X2_minorOf_19, r_X2_minorOf_20, r_X2_minorOf_24, r_X2_minorOf_27, r_X2_minorOf_29, r_X2_minorOf_32, r_X2_minorOf_33, r_X2_minorOf_35, r_X2_minorOf_38, r_X2_minorOf_41, r_X2_minorOf_43, r_X2_minorOf_44, r_X2_minorOf_47, r_X2_minorOf_48, r_X2_minorOf_51, r_X2_minorOf_53, r_X2_minorOf_54, r_X2_minorOf_55, r_X2_minorOf_58, r_X2_minorOf_59, r_X2_minorOf_62, r_X2_minorOf_64, r_X2_minorOf_65, r_X2_minorOf_67, r_X2_minorOf_68, r_X2_minorOf_69, r_X2_minorOf_71, r_X2_minorOf_73, r_X2_minorOf_75, r_X2_minorOf_77, r_X2_minorOf_78, r_X2_minorOf_79, r_X2_minorOf_82, r_X2_minorOf_83, r_X2_minorOf_85, r_X2_minorOf_88, r_X2_minorOf_89, r_X2_minorOf_90, r_X2_minorOf_91, r_X2_minorOf_92, r_X2_minorOf_93, r_X2_minorOf_94, r_X2_minorOf_96, r_X2_minorOf_98, r_X2_minorOf_99, r_X2_minorOf_101, r_X2_minorOf_104, r_X2_minorOf_107, r_X2_minorOf_109, gF_0, gF_1, gF_2, gF_3, gF_4, gF_5, gF_6, gF_7, gF_8, gF_9, gF_10, gF_11, gF_12, gF_13, gF_14, gF_15, gF_16, gF_17, pF_0, pF_1, pF_2, pF_3, pF_4, pF_5, pF_6, pF_7, pF_8, pF_9, pF_10, pF_11, pF_12, pF_13, pF_14, pF_15, pF_16, pF_17, gI_of, gL_of, gR_of, sI_of, sL_of, gN_of, gO_of, cl_i, cl_r, cl_l, cl_n, pu_s, pu_n, rV_s, hg_same, hg_ne, if_true, if_false, true_and, and_true, ne_eq, not_false_eq_true, not_true_eq_false, eq_self, reduceCtorEq, Nat.reduceAdd, n_lt0, x_has, hb, Bool.false_eq_true, bI_eq0, bI_ne0, hd]
        exact ih _ _
      | true =>
        rw [hb, stp5_t] at ih
        have hlt : df S (2 ^ t) < S := by
          have h1 := df_le S (2 ^ t)
          have h2 : df S (2 ^ t) ≠ S := fun e => by
            have : (df S (2 ^ t)).testBit t = true := by rw [e]; exact hb
            have := ((df_tb hS20).mp this).2
            rw [tb_pow] at this
            simp at this
          omega
        have hpd : pc (df S (2 ^ t)) 5 = k := by
          have := pc_out (n := 5) hS20 (by omega) hb
          omega
        have hfm : f (df S (2 ^ t)) = lI (dd (MX C s q) k (df S (2 ^ t))) := by
          rw [hf _ hlt]
          show lI (dd (MX C s q) (pc (df S (2 ^ t)) 5) (df S (2 ^ t))) = _
          rw [hpd]
        have hrt := hrp t htn
        by_cases hq : t = q
        · have em : MX C s q k t = (s k).toInt := if_pos hq
          rw [em] at ih
          have hrt' : nI t = rp := by rw [hrt]; exact hq
          simp (disch := first | omega | assumption) only [r_X2_minorOf_0, r_X2_minorOf_1, r_X2_minorOf_4, r_X2_minorOf_5, r_X2_minorOf_6, r_X2_minorOf_8, r_X2_minorOf_9, r_X2_minorOf_11, r_X2_minorOf_12, r_X2_minorOf_14, r_X2_minorOf_15, r_X2_minorOf_18, r_X2_minorOf_19, r_X2_minorOf_20, r_X2_minorOf_24, r_X2_minorOf_27, r_X2_minorOf_29, r_X2_minorOf_32, r_X2_minorOf_33, r_X2_minorOf_35, r_X2_minorOf_38, r_X2_minorOf_41, r_X2_minorOf_43, r_X2_minorOf_44, r_X2_minorOf_47, r_X2_minorOf_48, r_X2_minorOf_51, r_X2_minorOf_53, r_X2_minorOf_54, r_X2_minorOf_55, r_X2_minorOf_58, r_X2_minorOf_59, r_X2_minorOf_62, r_X2_minorOf_64, r_X2_minorOf_65, r_X2_minorOf_67, r_X2_minorOf_68, r_X2_minorOf_69, r_X2_minorOf_71, r_X2_minorOf_73, r_X2_minorOf_75, r_X2_minorOf_77, r_X2_minorOf_78, r_X2_minorOf_79, r_X2_minorOf_82, r_X2_minorOf_83, r_X2_minorOf_85, r_X2_minorOf_88, r_X2_minorOf_89, r_X2_minorOf_90, r_X2_minorOf_91, r_X2_minorOf_92, r_X2_minorOf_93, r_X2_minorOf_94, r_X2_minorOf_96, r_X2_minorOf_98, r_X2_minorOf_99, r_X2_minorOf_101, r_X2_minorOf_104, r_X2_minorOf_107, r_X2_minorOf_109, gF_0, gF_1, gF_2, gF_3, gF_4, gF_5, gF_6, gF_7, gF_8, gF_9, gF_10, gF_11, gF_12, gF_13, gF_14, gF_15, gF_16, gF_17, pF_0, pF_1, pF_2, pF_3, pF_4, pF_5, pF_6, pF_7, pF_8, pF_9, pF_10, pF_11, pF_12, pF_13, pF_14, pF_15, pF_16, pF_17, gI_of, gL_of, gR_of, sI_of, sL_of, gN_of, gO_of, cl_i, cl_r, cl_l, cl_n, pu_s, pu_n, rV_s, hg_same, hg_ne, if_true, if_false, true_and, and_true, ne_eq, not_false_eq_true, not_true_eq_false, eq_self, reduceCtorEq, Nat.reduceAdd, n_lt0, x_has, hb, bI_eq0, bI_ne0, hrt, eq_true hq, x2, g24, es, i_lI, h86, h87, x_bit, n_dif, hfm, lI_mul, lI_add, lI_neg]
          rw [← hrt', hd]
          rw [← hrt'] at ih
          exact ih _ _
        · have em : MX C s q k t = (C k t).toInt := if_neg hq
          rw [em] at ih
          simp (disch := first | omega | assumption) only [r_X2_minorOf_0, r_X2_minorOf_1, r_X2_minorOf_4, r_X2_minorOf_5, r_X2_minorOf_6, r_X2_minorOf_8, r_X2_minorOf_9, r_X2_minorOf_11, r_X2_minorOf_12, r_X2_minorOf_14, r_X2_minorOf_15, r_X2_minorOf_18, r_X2_minorOf_19, r_X2_minorOf_20, r_X2_minorOf_24, r_X2_minorOf_27, r_X2_minorOf_29, r_X2_minorOf_32, r_X2_minorOf_33, r_X2_minorOf_35, r_X2_minorOf_38, r_X2_minorOf_41, r_X2_minorOf_43, r_X2_minorOf_44, r_X2_minorOf_47, r_X2_minorOf_48, r_X2_minorOf_51, r_X2_minorOf_53, r_X2_minorOf_54, r_X2_minorOf_55, r_X2_minorOf_58, r_X2_minorOf_59, r_X2_minorOf_62, r_X2_minorOf_64, r_X2_minorOf_65, r_X2_minorOf_67, r_X2_minorOf_68, r_X2_minorOf_69, r_X2_minorOf_71, r_X2_minorOf_73, r_X2_minorOf_75, r_X2_minorOf_77, r_X2_minorOf_78, r_X2_minorOf_79, r_X2_minorOf_82, r_X2_minorOf_83, r_X2_minorOf_85, r_X2_minorOf_88, r_X2_minorOf_89, r_X2_minorOf_90, r_X2_minorOf_91, r_X2_minorOf_92, r_X2_minorOf_93, r_X2_minorOf_94, r_X2_minorOf_96, r_X2_minorOf_98, r_X2_minorOf_99, r_X2_minorOf_101, r_X2_minorOf_104, r_X2_minorOf_107, r_X2_minorOf_109, gF_0, gF_1, gF_2, gF_3, gF_4, gF_5, gF_6, gF_7, gF_8, gF_9, gF_10, gF_11, gF_12, gF_13, gF_14, gF_15, gF_16, gF_17, pF_0, pF_1, pF_2, pF_3, pF_4, pF_5, pF_6, pF_7, pF_8, pF_9, pF_10, pF_11, pF_12, pF_13, pF_14, pF_15, pF_16, pF_17, gI_of, gL_of, gR_of, sI_of, sL_of, gN_of, gO_of, cl_i, cl_r, cl_l, cl_n, pu_s, pu_n, rV_s, hg_same, hg_ne, if_true, if_false, true_and, and_true, ne_eq, not_false_eq_true, not_true_eq_false, eq_self, reduceCtorEq, Nat.reduceAdd, n_lt0, x_has, hb, bI_eq0, bI_ne0, hrt, hq, x2, q1, q2, q3, ec, i_lI, h86, h87, x_bit, n_dif, hfm, lI_mul, lI_add, lI_neg, hd]
          exact ih _ _
  have := key n (Nat.le_refl n) none none
  rw [al_0 hS (5 - n) (by omega)] at this
  exact this
theorem x_determinantWith {d n q : Nat} {rp : Int32} {C : Nat → Nat → Int32} {s : Nat → Int32} {h : j_H} {Q : Option Value → j_H → Prop} (hT : xT h n C) (h24 : hI h 24 20 20 s) (hF : xF h) (hn : 1 ≤ n ∧ n ≤ 5) (hrp : ∀ j, j < n → ((nI j = rp) = (j = q)))
    (k : ∀ h1, xF h1 → Sm (fun b => b = 87) h h1 → Q (some (.long (lI (Dn n (MX C s q))))) h1) : WP (d + 2) mX2_determinantWith 0 [some (.ref 86), some (.ref 2), some (.int rp), none, none] [] h Q := by
  have x2 := hT.1
  obtain ⟨h86, f87, e87⟩ := hF
  have hp32 : 2 ^ n ≤ 32 := Nat.pow_le_pow_right (show 0 < 2 by decide) hn.2
  have hp1 : 2 ≤ 2 ^ n := by
    have := Nat.pow_le_pow_right (show 0 < 2 by decide) hn.1
    simpa using this
  simp (disch := first | omega | assumption) only [r_X2_determinantWith_0, r_X2_determinantWith_1, r_X2_determinantWith_4, r_X2_determinantWith_5, r_X2_determinantWith_6, r_X2_determinantWith_7, r_X2_determinantWith_10, r_X2_determinantWith_11, r_X2_determinantWith_12, r_X2_determinantWith_13, r_X2_determinantWith_16, r_X2_determinantWith_17, r_X2_determinantWith_18, r_X2_determinantWith_19, r_X2_determinantWith_20, r_X2_determinantWith_24, r_X2_determinantWith_25, r_X2_determinantWith_28, r_X2_determinantWith_31, r_X2_determinantWith_32, r_X2_determinantWith_35, r_X2_determinantWith_37, r_X2_determinantWith_38, r_X2_determinantWith_39, r_X2_determinantWith_41, r_X2_determinantWith_42, r_X2_determinantWith_45, r_X2_determinantWith_46, r_X2_determinantWith_49, r_X2_determinantWith_52, r_X2_determinantWith_53, r_X2_determinantWith_56, r_X2_determinantWith_57, r_X2_determinantWith_60, r_X2_determinantWith_61, r_X2_determinantWith_62, r_X2_determinantWith_63, gF_0, gF_1, gF_2, gF_3, gF_4, gF_5, gF_6, gF_7, gF_8, gF_9, gF_10, gF_11, gF_12, gF_13, gF_14, gF_15, gF_16, gF_17, pF_0, pF_1, pF_2, pF_3, pF_4, pF_5, pF_6, pF_7, pF_8, pF_9, pF_10, pF_11, pF_12, pF_13, pF_14, pF_15, pF_16, pF_17, gI_of, gL_of, gR_of, sI_of, sL_of, gN_of, gO_of, cl_i, cl_r, cl_l, cl_n, pu_s, pu_n, rV_s, hg_same, hg_ne, if_true, if_false, true_and, and_true, ne_eq, not_false_eq_true, not_true_eq_false, eq_self, reduceCtorEq, Nat.reduceAdd, nI_add, n_mul, n_sub, n_div, n_dec, n_dif, n_shl1, n_bit, n_eq0, n_0eq, n_eq, n_lt, n_le, n_lt0, n_ge0, n_gt0, n_le0, n_em1, n_m1e, n_m1lt0, n_m1ge0, n_m1gt0, n_m1eq0, n_m1lt, bI_eq0, bI_ne0, tb_eq0, tb_eq1, x2, show n ≤ 5 by omega, h86, e87]
  have key : ∀ S, S ≤ 2 ^ n → 0 < S → ∀ h' f, Sm (fun b => b = 87) h h' → hg h' 87 = some (aL 32 f) → (∀ X, X < S → f X = lI (VD (MX C s q) X)) → WP (d + 2) mX2_determinantWith 22 [some (.ref 86), some (.ref 2), some (.int rp), some (.int (nI n)), some (.int (nI S))] [] h' Q := by
    refine lup (P := fun S => 0 < S → ∀ h' f, Sm (fun b => b = 87) h h' → hg h' 87 = some (aL 32 f) → (∀ X, X < S → f X = lI (VD (MX C s q) X)) → WP (d + 2) mX2_determinantWith 22 [some (.ref 86), some (.ref 2), some (.int rp), some (.int (nI n)), some (.int (nI S))] [] h' Q) ?_ ?_
    · intro _ h' f hS y87 wf
      have y86 := (hS.at (b := 86) (by omega)).trans h86
      have el := wf (2 ^ n - 1) (by omega)
      rw [VD_all _ hn] at el
      rw [r_X2_determinantWith_22]
      simp (disch := first | omega | assumption) only [r_X2_determinantWith_0, r_X2_determinantWith_1, r_X2_determinantWith_4, r_X2_determinantWith_5, r_X2_determinantWith_6, r_X2_determinantWith_7, r_X2_determinantWith_10, r_X2_determinantWith_11, r_X2_determinantWith_12, r_X2_determinantWith_13, r_X2_determinantWith_16, r_X2_determinantWith_17, r_X2_determinantWith_18, r_X2_determinantWith_19, r_X2_determinantWith_20, r_X2_determinantWith_24, r_X2_determinantWith_25, r_X2_determinantWith_28, r_X2_determinantWith_31, r_X2_determinantWith_32, r_X2_determinantWith_35, r_X2_determinantWith_37, r_X2_determinantWith_38, r_X2_determinantWith_39, r_X2_determinantWith_41, r_X2_determinantWith_42, r_X2_determinantWith_45, r_X2_determinantWith_46, r_X2_determinantWith_49, r_X2_determinantWith_52, r_X2_determinantWith_53, r_X2_determinantWith_56, r_X2_determinantWith_57, r_X2_determinantWith_60, r_X2_determinantWith_61, r_X2_determinantWith_62, r_X2_determinantWith_63, gF_0, gF_1, gF_2, gF_3, gF_4, gF_5, gF_6, gF_7, gF_8, gF_9, gF_10, gF_11, gF_12, gF_13, gF_14, gF_15, gF_16, gF_17, pF_0, pF_1, pF_2, pF_3, pF_4, pF_5, pF_6, pF_7, pF_8, pF_9, pF_10, pF_11, pF_12, pF_13, pF_14, pF_15, pF_16, pF_17, gI_of, gL_of, gR_of, sI_of, sL_of, gN_of, gO_of, cl_i, cl_r, cl_l, cl_n, pu_s, pu_n, rV_s, hg_same, hg_ne, if_true, if_false, true_and, and_true, ne_eq, not_false_eq_true, not_true_eq_false, eq_self, reduceCtorEq, Nat.reduceAdd, nI_add, n_mul, n_sub, n_div, n_dec, n_dif, n_shl1, n_bit, n_eq0, n_0eq, n_eq, n_lt, n_le, n_lt0, n_ge0, n_gt0, n_le0, n_em1, n_m1e, n_m1lt0, n_m1ge0, n_m1gt0, n_m1eq0, n_m1lt, bI_eq0, bI_ne0, tb_eq0, tb_eq1, x_bit, Nat.le_refl, y86, y87, el]
      exact k h' ⟨y86, ⟨f, y87⟩⟩ hS
    · intro S hS ih hS0 h' f hS' y87 wf
      have y86 := (hS'.at (b := 86) (by omega)).trans h86
      have T' := hT.keep hS' (fun b q => by omega)
      have y24 := h24.keep (hS'.at (b := 24) (by omega))
      rw [r_X2_determinantWith_22]
      simp (disch := first | omega | assumption) only [r_X2_determinantWith_0, r_X2_determinantWith_1, r_X2_determinantWith_4, r_X2_determinantWith_5, r_X2_determinantWith_6, r_X2_determinantWith_7, r_X2_determinantWith_10, r_X2_determinantWith_11, r_X2_determinantWith_12, r_X2_determinantWith_13, r_X2_determinantWith_16, r_X2_determinantWith_17, r_X2_determinantWith_18, r_X2_determinantWith_19, r_X2_determinantWith_20, r_X2_determinantWith_24, r_X2_determinantWith_25, r_X2_determinantWith_28, r_X2_determinantWith_31, r_X2_determinantWith_32, r_X2_determinantWith_35, r_X2_determinantWith_37, r_X2_determinantWith_38, r_X2_determinantWith_39, r_X2_determinantWith_41, r_X2_determinantWith_42, r_X2_determinantWith_45, r_X2_determinantWith_46, r_X2_determinantWith_49, r_X2_determinantWith_52, r_X2_determinantWith_53, r_X2_determinantWith_56, r_X2_determinantWith_57, r_X2_determinantWith_60, r_X2_determinantWith_61, r_X2_determinantWith_62, r_X2_determinantWith_63, gF_0, gF_1, gF_2, gF_3, gF_4, gF_5, gF_6, gF_7, gF_8, gF_9, gF_10, gF_11, gF_12, gF_13, gF_14, gF_15, gF_16, gF_17, pF_0, pF_1, pF_2, pF_3, pF_4, pF_5, pF_6, pF_7, pF_8, pF_9, pF_10, pF_11, pF_12, pF_13, pF_14, pF_15, pF_16, pF_17, gI_of, gL_of, gR_of, sI_of, sL_of, gN_of, gO_of, cl_i, cl_r, cl_l, cl_n, pu_s, pu_n, rV_s, hg_same, hg_ne, if_true, if_false, true_and, and_true, ne_eq, not_false_eq_true, not_true_eq_false, eq_self, reduceCtorEq, Nat.reduceAdd, nI_add, n_mul, n_sub, n_div, n_dec, n_dif, n_shl1, n_bit, n_eq0, n_0eq, n_eq, n_lt, n_le, n_lt0, n_ge0, n_gt0, n_le0, n_em1, n_m1e, n_m1lt0, n_m1ge0, n_m1gt0, n_m1eq0, n_m1lt, bI_eq0, bI_ne0, tb_eq0, tb_eq1, x_bit, show ¬ 2 ^ n ≤ S by omega, y86]
      rw [x_minorOf T' y24 y86 y87 hn hS hS0 hrp wf]
      simp (disch := first | omega | assumption) only [r_X2_determinantWith_0, r_X2_determinantWith_1, r_X2_determinantWith_4, r_X2_determinantWith_5, r_X2_determinantWith_6, r_X2_determinantWith_7, r_X2_determinantWith_10, r_X2_determinantWith_11, r_X2_determinantWith_12, r_X2_determinantWith_13, r_X2_determinantWith_16, r_X2_determinantWith_17, r_X2_determinantWith_18, r_X2_determinantWith_19, r_X2_determinantWith_20, r_X2_determinantWith_24, r_X2_determinantWith_25, r_X2_determinantWith_28, r_X2_determinantWith_31, r_X2_determinantWith_32, r_X2_determinantWith_35, r_X2_determinantWith_37, r_X2_determinantWith_38, r_X2_determinantWith_39, r_X2_determinantWith_41, r_X2_determinantWith_42, r_X2_determinantWith_45, r_X2_determinantWith_46, r_X2_determinantWith_49, r_X2_determinantWith_52, r_X2_determinantWith_53, r_X2_determinantWith_56, r_X2_determinantWith_57, r_X2_determinantWith_60, r_X2_determinantWith_61, r_X2_determinantWith_62, r_X2_determinantWith_63, gF_0, gF_1, gF_2, gF_3, gF_4, gF_5, gF_6, gF_7, gF_8, gF_9, gF_10, gF_11, gF_12, gF_13, gF_14, gF_15, gF_16, gF_17, pF_0, pF_1, pF_2, pF_3, pF_4, pF_5, pF_6, pF_7, pF_8, pF_9, pF_10, pF_11, pF_12, pF_13, pF_14, pF_15, pF_16, pF_17, gI_of, gL_of, gR_of, sI_of, sL_of, gN_of, gO_of, cl_i, cl_r, cl_l, cl_n, pu_s, pu_n, rV_s, hg_same, hg_ne, if_true, if_false, true_and, and_true, ne_eq, not_false_eq_true, not_true_eq_false, eq_self, reduceCtorEq, Nat.reduceAdd, nI_add, n_mul, n_sub, n_div, n_dec, n_dif, n_shl1, n_bit, n_eq0, n_0eq, n_eq, n_lt, n_le, n_lt0, n_ge0, n_gt0, n_le0, n_em1, n_m1e, n_m1lt0, n_m1ge0, n_m1gt0, n_m1eq0, n_m1lt, bI_eq0, bI_ne0, tb_eq0, tb_eq1, y86, y87]
      refine ih (by omega) _ _ (hS'.set rfl) (hg_same _ _ _) (fun X hX => ?_)
      by_cases e : X = S
      · rw [e, up_same]
      · rw [up_ne e]; exact wf X (by omega)
  refine key 1 (by omega) (by decide) _ _ ((Sm.rf _ h).set rfl) (hg_same _ _ _) (fun X hX => ?_)
  rw [show X = 0 by omega, up_same]
  rfl
