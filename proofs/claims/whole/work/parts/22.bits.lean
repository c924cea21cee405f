/-- how many of the first k bits are set -/
def pc (S : Nat) : Nat → Nat
  | 0 => 0
  | k + 1 => pc S k + tb S k
theorem and_split {y m T M : Nat} (hy : y < 256) (hm : m < 256) : (y + 256 * T) &&& (m + 256 * M) = (y &&& m) + 256 * (T &&& M) := by
  apply tb_ext
  intro i
  have e : ∀ {u : Nat} (V : Nat), u < 256 → (u + 256 * V).testBit i = if i < 8 then u.testBit i else V.testBit (i - 8) := by
    intro u V hu
    rw [Nat.add_comm]
    exact Nat.testBit_two_pow_mul_add (i := 8) V hu i
  have hlt : y &&& m < 256 := Nat.lt_of_le_of_lt Nat.and_le_left hy
  rw [Nat.testBit_and, e T hy, e M hm, e (T &&& M) hlt]
  by_cases hi : i < 8
  · simp [hi]
  · simp [hi]
def f1 (S : Nat) : Nat := S - (S / 2 &&& 1431655765)
def f2 (x : Nat) : Nat := (x &&& 858993459) + (x / 4 &&& 858993459)
def f3 (x : Nat) : Nat := (x + x / 16) &&& 252645135
def b1 (y : Nat) : Nat := y - (y / 2 &&& 85)
def b2 (y : Nat) : Nat := (y &&& 51) + (y / 4 &&& 51)
def b3 (y : Nat) : Nat := (y + y / 16) &&& 15
theorem b_tab : ∀ y, y < 256 → b1 y < 256 ∧ b2 (b1 y) ≤ 68 ∧ b2 (b1 y) % 16 ≤ 4 ∧ (y / 2 &&& 85) ≤ y ∧ b3 (b2 (b1 y)) = pc y 8 := by decide +kernel
theorem b_l1 : ∀ y, y < 256 → ∀ t, t < 2 → (y / 2 + 128 * t) &&& 85 = y / 2 &&& 85 := by decide +kernel
theorem b_l2 : ∀ y, y < 256 → ∀ t, t < 4 → (y / 4 + 64 * t) &&& 51 = y / 4 &&& 51 := by decide +kernel
theorem b_l3 : ∀ y, y < 69 → ∀ t, t < 5 → (y + y / 16 + 16 * t) &&& 15 = (y + y / 16) &&& 15 := by decide +kernel
theorem f1_split {y T M : Nat} (hy : y < 256) (hT : (T / 2 &&& M) ≤ T) : (y + 256 * T) - ((y + 256 * T) / 2 &&& (85 + 256 * M)) = b1 y + 256 * (T - (T / 2 &&& M)) := by
  have e : (y + 256 * T) / 2 = (y / 2 + 128 * (T % 2)) + 256 * (T / 2) := by omega
  have h1 := b_l1 y hy (T % 2) (Nat.mod_lt _ (by decide))
  rw [e, and_split (by omega) (by decide), h1]
  have := (b_tab y hy).2.2.2.1
  unfold b1
  omega
theorem f2_split {y T M : Nat} (hy : y < 256) : ((y + 256 * T) &&& (51 + 256 * M)) + ((y + 256 * T) / 4 &&& (51 + 256 * M)) = b2 y + 256 * ((T &&& M) + (T / 4 &&& M)) := by
  have e : (y + 256 * T) / 4 = (y / 4 + 64 * (T % 4)) + 256 * (T / 4) := by omega
  have h1 := b_l2 y hy (T % 4) (Nat.mod_lt _ (by decide))
  rw [e, and_split hy (by decide), and_split (by omega) (by decide), h1]
  unfold b2
  omega
theorem f3_split {y T M : Nat} (hy : y ≤ 68) (hT : T % 16 ≤ 4) : ((y + 256 * T) + (y + 256 * T) / 16) &&& (15 + 256 * M) = b3 y + 256 * ((T + T / 16) &&& M) := by
  have e : (y + 256 * T) + (y + 256 * T) / 16 = (y + y / 16 + 16 * (T % 16)) + 256 * (T + T / 16) := by omega
  have h1 := b_l3 y (by omega) (T % 16) (by omega)
  rw [e, and_split (by omega) (by decide), h1]
  rfl
theorem tb_split {y T i : Nat} (hy : y < 256) : tb (y + 256 * T) i = if i < 8 then tb y i else tb T (i - 8) := by
  unfold tb
  have : (y + 256 * T).testBit i = if i < 8 then y.testBit i else T.testBit (i - 8) := by
    rw [Nat.add_comm]
    exact Nat.testBit_two_pow_mul_add (i := 8) T hy i
  rw [this]
  split <;> rfl
theorem pc_split {y T : Nat} (hy : y < 256) (k : Nat) : pc (y + 256 * T) (8 + k) = pc y 8 + pc T k := by
  have lo : ∀ j, j ≤ 8 → pc (y + 256 * T) j = pc y j := by
    intro j
    induction j with
    | zero => intro _; rfl
    | succ j ih => intro hj; rw [pc, pc, ih (by omega), tb_split hy, if_pos (by omega)]
  induction k with
  | zero => rw [Nat.add_zero, lo 8 (by omega)]; rfl
  | succ k ih =>
    rw [← Nat.add_assoc, show pc (y + 256 * T) (8 + k + 1) = pc (y + 256 * T) (8 + k) + tb (y + 256 * T) (8 + k) from rfl, ih, tb_split hy, if_neg (by omega), show pc T (k + 1) = pc T k + tb T k from rfl, show 8 + k - 8 = k by omega]
    omega
theorem b_sum : ∀ A, A < 9 → ∀ B, B < 9 → ∀ C, C < 5 → ((A + 256 * (B + 256 * C) + (A + 256 * (B + 256 * C)) / 256 + (A + 256 * (B + 256 * C) + (A + 256 * (B + 256 * C)) / 256) / 65536) &&& 63) = A + (B + C) := by decide +kernel
/-- the sum that Integer.bitCount makes -/
theorem sw_pc {S : Nat} (hS : S < 2 ^ 20) : f1 S ≤ S ∧ (S / 2 &&& 1431655765) ≤ S ∧ f2 (f1 S) < 2 ^ 30 ∧ f3 (f2 (f1 S)) < 2 ^ 30 ∧ ((f3 (f2 (f1 S)) + f3 (f2 (f1 S)) / 256 + (f3 (f2 (f1 S)) + f3 (f2 (f1 S)) / 256) / 65536) &&& 63) = pc S 20 := by
  obtain ⟨a, b, c, ha, hb, hc, rfl⟩ : ∃ a b c, a < 256 ∧ b < 256 ∧ c < 16 ∧ S = a + 256 * (b + 256 * c) := ⟨S % 256, S / 256 % 256, S / 65536, Nat.mod_lt _ (by decide), Nat.mod_lt _ (by decide), by omega, by omega⟩
  have ta := b_tab a ha
  have tb' := b_tab b hb
  have tc := b_tab c (by omega)
  have c1 : c - (c / 2 &&& 21845) = b1 c := (by decide +kernel : ∀ c, c < 16 → c - (c / 2 &&& 21845) = b1 c) c hc
  have c2 : (b1 c &&& 13107) + (b1 c / 4 &&& 13107) = b2 (b1 c) := (by decide +kernel : ∀ c, c < 16 → (b1 c &&& 13107) + (b1 c / 4 &&& 13107) = b2 (b1 c)) c hc
  have c3 : (b2 (b1 c) + b2 (b1 c) / 16) &&& 3855 = b3 (b2 (b1 c)) := (by decide +kernel : ∀ c, c < 16 → (b2 (b1 c) + b2 (b1 c) / 16) &&& 3855 = b3 (b2 (b1 c))) c hc
  have c4 : pc c 4 = pc c 8 := (by decide +kernel : ∀ c, c < 16 → pc c 4 = pc c 8) c hc
  have c5 : (c / 2 &&& 21845) ≤ c := (by decide +kernel : ∀ c, c < 16 → (c / 2 &&& 21845) ≤ c) c hc
  have c6 : b2 (b1 c) ≤ 4 ∧ b1 c < 16 ∧ pc c 8 ≤ 4 := (by decide +kernel : ∀ c, c < 16 → b2 (b1 c) ≤ 4 ∧ b1 c < 16 ∧ pc c 8 ≤ 4) c hc
  have pa : pc a 8 ≤ 8 := (by decide +kernel : ∀ y, y < 256 → pc y 8 ≤ 8) a ha
  have pb : pc b 8 ≤ 8 := (by decide +kernel : ∀ y, y < 256 → pc y 8 ≤ 8) b hb
  have q1 : (b + 256 * c) - ((b + 256 * c) / 2 &&& (85 + 256 * 21845)) = b1 b + 256 * b1 c := by rw [f1_split hb c5, c1]
  have q0 : ((b + 256 * c) / 2 &&& (85 + 256 * 21845)) ≤ b + 256 * c := Nat.le_trans Nat.and_le_left (Nat.div_le_self _ _)
  have e1 : f1 (a + 256 * (b + 256 * c)) = b1 a + 256 * (b1 b + 256 * b1 c) := by
    unfold f1
    rw [show (1431655765 : Nat) = 85 + 256 * (85 + 256 * 21845) from rfl, f1_split ha q0, q1]
  have e2 : f2 (b1 a + 256 * (b1 b + 256 * b1 c)) = b2 (b1 a) + 256 * (b2 (b1 b) + 256 * b2 (b1 c)) := by
    unfold f2
    rw [show (858993459 : Nat) = 51 + 256 * (51 + 256 * 13107) from rfl, f2_split ta.1, f2_split tb'.1, c2]
  have e3 : f3 (b2 (b1 a) + 256 * (b2 (b1 b) + 256 * b2 (b1 c))) = pc a 8 + 256 * (pc b 8 + 256 * pc c 8) := by
    unfold f3
    rw [show (252645135 : Nat) = 15 + 256 * (15 + 256 * 3855) from rfl, f3_split ta.2.1 (by omega), f3_split tb'.2.1 (by omega), c3, ta.2.2.2.2, tb'.2.2.2.2, tc.2.2.2.2]
  refine ⟨?_, Nat.le_trans Nat.and_le_left (Nat.div_le_self _ _), ?_, ?_, ?_⟩
  · unfold f1; exact Nat.sub_le _ _
  · rw [e1, e2]; omega
  · rw [e1, e2, e3]; omega
  · rw [e1, e2, e3, pc_split ha 12, show (12 : Nat) = 8 + 4 from rfl, pc_split hb 4, c4]
    exact b_sum (pc a 8) (by omega) (pc b 8) (by omega) (pc c 8) (by omega)
theorem n_ushr {n k : Nat} (hn : n < 2 ^ 32) (hk : k < 32) : ((nI n).toUInt32 >>> ((nI k).toUInt32 &&& Int32.toUInt32 31)).toInt32 = nI (n / 2 ^ k) := pk_ushrN hn _ k ((by decide +kernel : ∀ n, n < 32 → (((nI n).toUInt32 &&& Int32.toUInt32 31).toBitVec % 32).toNat = n) k hk)
theorem x_bitCount {d S : Nat} {h : j_H} {Q : Option Value → j_H → Prop} (hS : S < 2 ^ 20) : WP d mJ_bitCount 0 [some (.int (nI S))] [] h Q = Q (some (.int (nI (pc S 20)))) h := by
  obtain ⟨h1, h2, h3, h4, h5⟩ := sw_pc hS
  simp (disch := first | omega | assumption) only [r_J_bitCount_0, r_J_bitCount_1, r_J_bitCount_2, r_J_bitCount_3, r_J_bitCount_4, r_J_bitCount_7, r_J_bitCount_8, r_J_bitCount_9, r_J_bitCount_10, r_J_bitCount_11, r_J_bitCount_14, r_J_bitCount_15, r_J_bitCount_16, r_J_bitCount_17, r_J_bitCount_18, r_J_bitCount_21, r_J_bitCount_22, r_J_bitCount_23, r_J_bitCount_24, r_J_bitCount_25, r_J_bitCount_26, r_J_bitCount_27, r_J_bitCount_28, r_J_bitCount_29, r_J_bitCount_32, r_J_bitCount_33, r_J_bitCount_34, r_J_bitCount_35, r_J_bitCount_36, r_J_bitCount_38, r_J_bitCount_39, r_J_bitCount_40, r_J_bitCount_41, r_J_bitCount_42, r_J_bitCount_43, r_J_bitCount_45, r_J_bitCount_46, r_J_bitCount_47, r_J_bitCount_48, r_J_bitCount_49, r_J_bitCount_51, r_J_bitCount_52, gF_0, gF_1, gF_2, gF_3, gF_4, gF_5, gF_6, gF_7, gF_8, gF_9, gF_10, gF_11, gF_12, gF_13, gF_14, gF_15, gF_16, gF_17, pF_0, pF_1, pF_2, pF_3, pF_4, pF_5, pF_6, pF_7, pF_8, pF_9, pF_10, pF_11, pF_12, pF_13, pF_14, pF_15, pF_16, pF_17, gI_of, gL_of, gR_of, sI_of, sL_of, gN_of, gO_of, cl_i, cl_r, cl_l, cl_n, pu_s, pu_n, rV_s, hg_same, hg_ne, if_true, if_false, true_and, and_true, ne_eq, not_false_eq_true, not_true_eq_false]
  rw [n_ushr (by omega) (by decide), n_and, n_sub (by rw [Nat.pow_one]; exact h2)]
  have e1 : S - (S / 2 ^ 1 &&& 1431655765) = f1 S := by rw [Nat.pow_one]; rfl
  rw [e1, n_and, n_ushr (by omega) (by decide), n_and, nI_add]
  have e2 : (f1 S &&& 858993459) + (f1 S / 2 ^ 2 &&& 858993459) = f2 (f1 S) := rfl
  rw [e2, n_ushr (by omega) (by decide), nI_add, n_and]
  have e3 : (f2 (f1 S) + f2 (f1 S) / 2 ^ 4) &&& 252645135 = f3 (f2 (f1 S)) := rfl
  rw [e3, n_ushr (by omega) (by decide), nI_add, n_ushr (by omega) (by decide), nI_add, n_and]
  have e4 : (f3 (f2 (f1 S)) + f3 (f2 (f1 S)) / 2 ^ 8 + (f3 (f2 (f1 S)) + f3 (f2 (f1 S)) / 2 ^ 8) / 2 ^ 16) &&& 63 = pc S 20 := h5
  rw [e4]
