def xM (h : j_H) : Prop := (∃ v, hg h 27 = some (oB 5 [.int v, .ref 28, .ref 29, .ref 30, .ref 31])) ∧ isI h 28 20 ∧ isI h 29 20 ∧ isI h 30 20 ∧ isI h 31 20
def xB (h : j_H) : Prop := (∃ v, hg h 32 = some (oB 0 [.int v, .ref 33, .ref 34])) ∧ isI h 33 20 ∧ isI h 34 20
def xO (h : j_H) (n : Nat) (o : Nat → Nat) : Prop := hg h 35 = some (oB 8 [.ref 36]) ∧ hI h 36 20 n (fun i => nI (o i))
def xE (h : j_H) : Prop := (∃ a b c e, hg h 37 = some (oB 1 [.int a, .int b, .int c, .int e, .ref 38, .ref 40, .ref 41, .ref 42, .ref 43])) ∧ (∃ v, hg h 38 = some (oB 3 [.int v, .ref 39])) ∧ isI h 39 20 ∧ isI h 40 20 ∧ isI h 41 20 ∧ isI h 42 20 ∧ isI h 43 20
def xD (h : j_H) : Prop := hg h 44 = some (oB 6 [.ref 45]) ∧ (∃ v, hg h 45 = some (oB 3 [.int v, .ref 46])) ∧ isI h 46 20
def xL (h : j_H) : Prop := (∃ v, hg h 47 = some (oB 4 [.int v, .ref 48, .ref 49])) ∧ isI h 48 4096 ∧ (∃ R, hg h 49 = some (aR 13 R) ∧ ∀ i, i < 13 → R i = some (50 + i)) ∧ ∀ i, i < 13 → isI h (50 + i) 12
def xR (h : j_H) (p : Nat) : Prop := (∃ v, hg h 63 = some (oB 7 [.int (nI p), .int v, .ref 64, .ref 85])) ∧ (∃ (R : Nat → Option Nat) (q : Nat → Nat), hg h 64 = some (aR 20 R) ∧ (∀ i, i < 20 → R i = some (65 + q i) ∧ q i < 20) ∧ ∀ i j, i < 20 → j < 20 → q i = q j → i = j) ∧ (∀ i, i < 20 → isI h (65 + i) 21) ∧ isI h 85 20
def xF (h : j_H) : Prop := hg h 86 = some (oB 2 [.ref 87]) ∧ isL h 87 32
/-- a state of the tables: rows, cells, side, order, prime -/
abbrev j_G : Type := Nat × (Nat → Nat → Int32) × (Nat → Int32) × (Nat → Nat) × Nat
def XI (h : j_H) (s : j_G) : Prop := hg h 1 = some (oB 10 [.ref 2, .ref 27, .ref 32, .ref 35, .ref 37, .ref 44, .ref 47, .ref 63, .ref 86]) ∧ xT h s.1 s.2.1 ∧ hI h 24 20 20 s.2.2.1 ∧ xM h ∧ xB h ∧ xO h s.1 s.2.2.2.1 ∧ xE h ∧ xD h ∧ xL h ∧ xR h s.2.2.2.2 ∧ xF h
def mO (h : j_H) (n p : Nat) : Prop := ∃ a b c, hg h 88 = some (oB 11 [.int (nI n), .ref 89, .ref 90, .ref 91, .int (nI p), .ref 92, .ref 93, .ref 94, .ref 95, .int a, .ref 96, .ref 97, .ref 98, .ref 99, .ref 100, .int b, .int c, .ref 101])
def mC (h : j_H) (C : Nat → Nat → Int32) : Prop := ∃ f, hg h 89 = some (aI 400 f) ∧ ∀ i j, i < 20 → j < 20 → f (20 * i + j) = C i j
def mS (h : j_H) : Prop := isI h 92 20 ∧ isI h 93 20 ∧ isI h 94 21 ∧ isI h 95 20 ∧ isI h 96 20 ∧ isI h 97 20 ∧ isI h 98 20 ∧ isI h 99 4096 ∧ isL h 100 800 ∧ isL h 101 25
def MI (h : j_H) (s : j_G) : Prop := mO h s.1 s.2.2.2.2 ∧ mC h s.2.1 ∧ hI h 90 20 20 s.2.2.1 ∧ hI h 91 20 s.1 (fun i => nI (s.2.2.2.1 i)) ∧ mS h
def isP (p : Nat) : Prop := 2 ≤ p ∧ p ≤ 46337 ∧ ∀ d, 2 ≤ d → d * d ≤ p → p % d ≠ 0
/-- a value of a cell -/
def vl (v : Int32) : Prop := -99 ≤ v.toInt ∧ v.toInt ≤ 99
def Gd (s : j_G) : Prop := (1 ≤ s.1 ∧ s.1 ≤ 20) ∧ (∀ i j, (s.1 ≤ i ∨ s.1 ≤ j) → s.2.1 i j = 0) ∧ (∀ i j, vl (s.2.1 i j)) ∧ (∀ i, vl (s.2.2.1 i)) ∧ ((∀ i, i < s.1 → s.2.2.2.1 i < s.1) ∧ ∀ i j, i < s.1 → j < s.1 → s.2.2.2.1 i = s.2.2.2.1 j → i = j) ∧ isP s.2.2.2.2
def sx (b : Nat) : Prop := 1 ≤ b ∧ b < 88
def sy (b : Nat) : Prop := 88 ≤ b ∧ b < 102
theorem xM.keep {S : Nat → Prop} {h h' : j_H} (H : xM h) (hS : Sm S h h') (hb : ∀ b, S b → b < 27 ∨ 32 ≤ b) : xM h' := by
  obtain ⟨⟨v, h0⟩, h1, h2, h3, h4⟩ := H
  have k : ∀ b, 27 ≤ b → b < 32 → hg h' b = hg h b := fun b h1 h2 => hS.at (fun q => by have := hb b q; omega)
  exact ⟨⟨v, (k 27 (by omega) (by omega)).trans h0⟩, h1.keep (k _ (by omega) (by omega)), h2.keep (k _ (by omega) (by omega)), h3.keep (k _ (by omega) (by omega)), h4.keep (k _ (by omega) (by omega))⟩
theorem xB.keep {S : Nat → Prop} {h h' : j_H} (H : xB h) (hS : Sm S h h') (hb : ∀ b, S b → b < 32 ∨ 35 ≤ b) : xB h' := by
  obtain ⟨⟨v, h0⟩, h1, h2⟩ := H
  have k : ∀ b, 32 ≤ b → b < 35 → hg h' b = hg h b := fun b h1 h2 => hS.at (fun q => by have := hb b q; omega)
  exact ⟨⟨v, (k 32 (by omega) (by omega)).trans h0⟩, h1.keep (k _ (by omega) (by omega)), h2.keep (k _ (by omega) (by omega))⟩
theorem xO.keep {S : Nat → Prop} {h h' : j_H} {n : Nat} {o : Nat → Nat} (H : xO h n o) (hS : Sm S h h') (hb : ∀ b, S b → b < 35 ∨ 37 ≤ b) : xO h' n o := by
  have k : ∀ b, 35 ≤ b → b < 37 → hg h' b = hg h b := fun b h1 h2 => hS.at (fun q => by have := hb b q; omega)
  exact ⟨(k 35 (by omega) (by omega)).trans H.1, H.2.keep (k _ (by omega) (by omega))⟩
theorem xE.keep {S : Nat → Prop} {h h' : j_H} (H : xE h) (hS : Sm S h h') (hb : ∀ b, S b → b < 37 ∨ 44 ≤ b) : xE h' := by
  obtain ⟨⟨a, b, c, e, h0⟩, ⟨v, h1⟩, h2, h3, h4, h5, h6⟩ := H
  have k : ∀ b, 37 ≤ b → b < 44 → hg h' b = hg h b := fun b h1 h2 => hS.at (fun q => by have := hb b q; omega)
  exact ⟨⟨a, b, c, e, (k 37 (by omega) (by omega)).trans h0⟩, ⟨v, (k 38 (by omega) (by omega)).trans h1⟩, h2.keep (k _ (by omega) (by omega)), h3.keep (k _ (by omega) (by omega)), h4.keep (k _ (by omega) (by omega)), h5.keep (k _ (by omega) (by omega)), h6.keep (k _ (by omega) (by omega))⟩
theorem xD.keep {S : Nat → Prop} {h h' : j_H} (H : xD h) (hS : Sm S h h') (hb : ∀ b, S b → b < 44 ∨ 47 ≤ b) : xD h' := by
  obtain ⟨h0, ⟨v, h1⟩, h2⟩ := H
  have k : ∀ b, 44 ≤ b → b < 47 → hg h' b = hg h b := fun b h1 h2 => hS.at (fun q => by have := hb b q; omega)
  exact ⟨(k 44 (by omega) (by omega)).trans h0, ⟨v, (k 45 (by omega) (by omega)).trans h1⟩, h2.keep (k _ (by omega) (by omega))⟩
theorem xL.keep {S : Nat → Prop} {h h' : j_H} (H : xL h) (hS : Sm S h h') (hb : ∀ b, S b → b < 47 ∨ 63 ≤ b) : xL h' := by
  obtain ⟨⟨v, h0⟩, h1, ⟨R, h2, h3⟩, h4⟩ := H
  have k : ∀ b, 47 ≤ b → b < 63 → hg h' b = hg h b := fun b h1 h2 => hS.at (fun q => by have := hb b q; omega)
  exact ⟨⟨v, (k 47 (by omega) (by omega)).trans h0⟩, h1.keep (k _ (by omega) (by omega)), ⟨R, (k 49 (by omega) (by omega)).trans h2, h3⟩, fun i hi => (h4 i hi).keep (k _ (by omega) (by omega))⟩
theorem xR.keep {S : Nat → Prop} {h h' : j_H} {p : Nat} (H : xR h p) (hS : Sm S h h') (hb : ∀ b, S b → b < 63 ∨ 86 ≤ b) : xR h' p := by
  obtain ⟨⟨v, h0⟩, ⟨R, q, h1, h2, h3⟩, h4, h5⟩ := H
  have k : ∀ b, 63 ≤ b → b < 86 → hg h' b = hg h b := fun b h1 h2 => hS.at (fun q => by have := hb b q; omega)
  exact ⟨⟨v, (k 63 (by omega) (by omega)).trans h0⟩, ⟨R, q, (k 64 (by omega) (by omega)).trans h1, h2, h3⟩, fun i hi => (h4 i hi).keep (k _ (by omega) (by omega)), h5.keep (k _ (by omega) (by omega))⟩
theorem xF.keep {S : Nat → Prop} {h h' : j_H} (H : xF h) (hS : Sm S h h') (hb : ∀ b, S b → b < 86 ∨ 88 ≤ b) : xF h' := by
  have k : ∀ b, 86 ≤ b → b < 88 → hg h' b = hg h b := fun b h1 h2 => hS.at (fun q => by have := hb b q; omega)
  exact ⟨(k 86 (by omega) (by omega)).trans H.1, H.2.keep (k _ (by omega) (by omega))⟩
theorem XI.keep {S : Nat → Prop} {h h' : j_H} {s : j_G} (H : XI h s) (hS : Sm S h h') (hb : ∀ b, S b → b < 1 ∨ 88 ≤ b) : XI h' s := by
  obtain ⟨h0, h1, h2, h3, h4, h5, h6, h7, h8, h9, h10⟩ := H
  exact ⟨(hS.at (fun q => by have := hb _ q; omega)).trans h0, h1.keep hS (fun b q => by have := hb _ q; omega), h2.keep (hS.at (fun q => by have := hb _ q; omega)), h3.keep hS (fun b q => by have := hb _ q; omega), h4.keep hS (fun b q => by have := hb _ q; omega), h5.keep hS (fun b q => by have := hb _ q; omega), h6.keep hS (fun b q => by have := hb _ q; omega), h7.keep hS (fun b q => by have := hb _ q; omega), h8.keep hS (fun b q => by have := hb _ q; omega), h9.keep hS (fun b q => by have := hb _ q; omega), h10.keep hS (fun b q => by have := hb _ q; omega)⟩
theorem mS.keep {S : Nat → Prop} {h h' : j_H} (H : mS h) (hS : Sm S h h') (hb : ∀ b, S b → b < 92 ∨ 102 ≤ b) : mS h' := by
  obtain ⟨h0, h1, h2, h3, h4, h5, h6, h7, h8, h9⟩ := H
  have k : ∀ b, 92 ≤ b → b < 102 → hg h' b = hg h b := fun b h1 h2 => hS.at (fun q => by have := hb b q; omega)
  exact ⟨h0.keep (k _ (by omega) (by omega)), h1.keep (k _ (by omega) (by omega)), h2.keep (k _ (by omega) (by omega)), h3.keep (k _ (by omega) (by omega)), h4.keep (k _ (by omega) (by omega)), h5.keep (k _ (by omega) (by omega)), h6.keep (k _ (by omega) (by omega)), h7.keep (k _ (by omega) (by omega)), h8.keep (k _ (by omega) (by omega)), h9.keep (k _ (by omega) (by omega))⟩
theorem MI.keep {S : Nat → Prop} {h h' : j_H} {s : j_G} (H : MI h s) (hS : Sm S h h') (hb : ∀ b, S b → b < 88 ∨ 102 ≤ b) : MI h' s := by
  obtain ⟨⟨a, b, c, h0⟩, ⟨f, h1, h2⟩, h3, h4, h5⟩ := H
  exact ⟨⟨a, b, c, (hS.at (fun q => by have := hb _ q; omega)).trans h0⟩, ⟨f, (hS.at (fun q => by have := hb _ q; omega)).trans h1, h2⟩, h3.keep (hS.at (fun q => by have := hb _ q; omega)), h4.keep (hS.at (fun q => by have := hb _ q; omega)), h5.keep hS (fun b q => by have := hb _ q; omega)⟩
/-- class and reference answer alike, and come to states that are alike -/
def Pv (r : Value) (x m : Nat) (xl ml : List (Option Value)) (s : j_G) : Prop := ∃ s' : j_G, Gd s' ∧ (∀ h, XI h s → WP 500 x 0 (some (.ref 1) :: xl) [] h (fun v h1 => v = some r ∧ XI h1 s' ∧ Sm sx h h1)) ∧ (∀ h, MI h s → WP 500 m 0 (some (.ref 88) :: ml) [] h (fun v h1 => v = some r ∧ MI h1 s' ∧ Sm sy h h1))
def Pr (x m : Nat) (xl ml : List (Option Value)) (s : j_G) : Prop := ∃ r : Int32, Pv (.int r) x m xl ml s
def PrL (x m : Nat) (xl ml : List (Option Value)) (s : j_G) : Prop := ∃ r : Int64, Pv (.long r) x m xl ml s
def AllP : Prop := ∀ s, Gd s →
  (∀ (a1 : Int32), Pr mX10_size mX11_size [some (.int a1), none] [some (.int a1), none] s) ∧
  (∀ (a1 a2 a3 : Int32), Pr mX10_set mX11_set [some (.int a1), some (.int a2), some (.int a3), none] [some (.int a1), some (.int a2), some (.int a3), none] s) ∧
  (∀ (a1 a2 : Int32), Pr mX10_cell mX11_cell [some (.int a1), some (.int a2)] [some (.int a1), some (.int a2)] s) ∧
  (∀ (a1 a2 : Int32), Pr mX10_side mX11_side [some (.int a1), some (.int a2), none] [some (.int a1), some (.int a2), none] s) ∧
  (∀ (a1 : Int32), Pr mX10_count mX11_count [some (.int a1)] [some (.int a1)] s) ∧
  (∀ (a1 : Int32), Pr mX10_matched mX11_matched [some (.int a1)] [some (.int a1)] s) ∧
  (Pr mX10_heap mX11_heap [] [none, none, none, none] s) ∧
  (∀ (a1 : Int32), Pr mX10_columns mX11_columns [some (.int a1), none, none] [some (.int a1)] s) ∧
  (∀ (a1 : Int32), Pr mX10_block mX11_block [some (.int a1)] [some (.int a1)] s) ∧
  (∀ (a1 : Int32), Pr mX10_rows mX11_rows [some (.int a1)] [some (.int a1), none, none] s) ∧
  (∀ (a1 : Int32), Pr mX10_joined mX11_joined [some (.int a1)] [some (.int a1)] s) ∧
  (∀ (a1 : Int32), Pr mX10_order mX11_order [some (.int a1)] [some (.int a1), none] s) ∧
  (∀ (a1 a2 : Int32), Pr mX10_change mX11_change [some (.int a1), some (.int a2)] [some (.int a1), some (.int a2), none] s) ∧
  (∀ (a1 a2 : Int32), Pr mX10_node mX11_node [some (.int a1), some (.int a2), none] [some (.int a1), some (.int a2), none] s) ∧
  (∀ (a1 : Int32), Pr mX10_going mX11_going [some (.int a1)] [some (.int a1)] s) ∧
  (∀ (a1 : Int32), Pr mX10_prime mX11_prime [some (.int a1), none] [some (.int a1), none] s) ∧
  (Pr mX10_stop mX11_stop [] [] s) ∧
  (∀ (a1 a2 a3 : Int32), Pr mX10_factor mX11_factor [some (.int a1), some (.int a2), some (.int a3), none, none] [some (.int a1), some (.int a2), some (.int a3), none, none] s) ∧
  (Pr mX10_full mX11_full [] [none, none, none] s) ∧
  (Pr mX10_determinant mX11_determinant [] [] s) ∧
  (Pr mX10_rank mX11_rank [] [none, none] s) ∧
  (∀ (a1 : Int32), Pr mX10_solution mX11_solution [some (.int a1), none] [some (.int a1)] s) ∧
  (∀ (a1 a2 : Int32), Pr mX10_inverse mX11_inverse [some (.int a1), some (.int a2), none] [some (.int a1), some (.int a2)] s) ∧
  (∀ (a1 a2 a3 : Int32), Pr mX10_changed mX11_changed [some (.int a1), some (.int a2), some (.int a3)] [some (.int a1), some (.int a2), some (.int a3)] s) ∧
  (∀ (a1 a2 : Int32), PrL mX10_exact mX11_exact [some (.int a1), some (.int a2), none, none, none, none] [some (.int a1), some (.int a2), none, none, none, none, none, none] s)
