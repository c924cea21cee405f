theorem n_sl : ∀ n, n < 32 → ((nI n &&& 31).toBitVec.smod 32).toNat = n := by decide +kernel
theorem n_and (a b : Nat) : nI a &&& nI b = nI (a &&& b) := by
  apply Int32.toBitVec_inj.1
  show BitVec.ofNat 32 a &&& BitVec.ofNat 32 b = BitVec.ofNat 32 (a &&& b)
  apply BitVec.eq_of_getLsbD_eq
  intro i hi
  simp [hi]
theorem n_or (a b : Nat) : nI a ||| nI b = nI (a ||| b) := by
  apply Int32.toBitVec_inj.1
  show BitVec.ofNat 32 a ||| BitVec.ofNat 32 b = BitVec.ofNat 32 (a ||| b)
  apply BitVec.eq_of_getLsbD_eq
  intro i hi
  simp [hi]
theorem n_xor (a b : Nat) : nI a ^^^ nI b = nI (a ^^^ b) := by
  apply Int32.toBitVec_inj.1
  show BitVec.ofNat 32 a ^^^ BitVec.ofNat 32 b = BitVec.ofNat 32 (a ^^^ b)
  apply BitVec.eq_of_getLsbD_eq
  intro i hi
  simp [hi]
theorem n_m1 : (-1 : Int32) = nI 4294967295 := by decide +kernel
/-- a set without another -/
def df (b a : Nat) : Nat := b &&& (a ^^^ 4294967295)
theorem n_dif (b a : Nat) : nI b &&& (nI a ^^^ (-1)) = nI (df b a) := by rw [n_m1, n_xor, n_and]; rfl
theorem tb_full (i : Nat) : Nat.testBit 4294967295 i = decide (i < 32) := by
  rw [show (4294967295 : Nat) = 2 ^ 32 - 1 from rfl, Nat.testBit_two_pow_sub_one]
theorem tb_df {b a i : Nat} (hb : b < 2 ^ 32) : (df b a).testBit i = (b.testBit i && !(a.testBit i)) := by
  unfold df
  rw [Nat.testBit_and, Nat.testBit_xor, tb_full]
  by_cases hi : i < 32
  · simp [hi]
  · have : b.testBit i = false := Nat.testBit_lt_two_pow (Nat.lt_of_lt_of_le hb (Nat.pow_le_pow_right (by decide) (by omega)))
    simp [this]
theorem df_le (b a : Nat) : df b a ≤ b := Nat.and_le_left
theorem n_shl1 {k : Nat} (hk : k < 32) : nI 1 <<< (nI k &&& 31) = nI (2 ^ k) := by
  have := pk_shlN (n := 1) (nI k &&& 31) k (n_sl k hk) (by rw [Nat.one_mul]; exact Nat.pow_lt_pow_right (by decide) hk)
  rw [Nat.one_mul] at this
  exact this
theorem n_shr {S k : Nat} (hS : S < 2 ^ 31) (hk : k < 32) : nI S >>> (nI k &&& 31) = nI (S / 2 ^ k) := pk_shrN hS _ k (n_sl k hk)
/-- bit k of a set, as a number -/
def tb (S k : Nat) : Nat := (S.testBit k).toNat
theorem tb_mod (S k : Nat) : S / 2 ^ k % 2 = tb S k := by
  unfold tb
  rw [Nat.testBit_eq_decide_div_mod_eq]
  have h : S / 2 ^ k % 2 < 2 := Nat.mod_lt _ (by decide)
  by_cases e : S / 2 ^ k % 2 = 1
  · simp [e]
  · have : S / 2 ^ k % 2 = 0 := by omega
    simp [this]
theorem n_bit {S k : Nat} (hS : S < 2 ^ 31) (hk : k < 32) : (nI S >>> (nI k &&& 31)) &&& nI 1 = nI (tb S k) := by
  rw [n_shr hS hk, n_and, Nat.and_one_is_mod, tb_mod]
theorem n_bit0 (S : Nat) : nI S &&& nI 1 = nI (tb S 0) := by
  rw [n_and, Nat.and_one_is_mod]
  have := tb_mod S 0
  rw [Nat.pow_zero, Nat.div_one] at this
  rw [this]
theorem n_half {S : Nat} (hS : S < 2 ^ 31) : nI S >>> (nI 1 &&& 31) = nI (S / 2) := by
  have := n_shr (k := 1) hS (by decide)
  rwa [Nat.pow_one] at this
theorem tb_lt (S k : Nat) : tb S k < 2 := by unfold tb; cases S.testBit k <;> decide
theorem n_eq0 {a : Nat} (ha : a < 2 ^ 31) : (nI a = 0) = (a = 0) := propext (nI_eq (b := 0) ha (by decide))
theorem n_0eq {a : Nat} (ha : a < 2 ^ 31) : (0 = nI a) = (a = 0) := by rw [← n_eq0 ha]; exact propext ⟨Eq.symm, Eq.symm⟩
theorem n_eq {a b : Nat} (ha : a < 2 ^ 31) (hb : b < 2 ^ 31) : (nI a = nI b) = (a = b) := propext (nI_eq ha hb)
theorem n_lt {a b : Nat} (ha : a < 2 ^ 31) (hb : b < 2 ^ 31) : (nI a < nI b) = (a < b) := propext (nI_ltI ha hb)
theorem n_le {a b : Nat} (ha : a < 2 ^ 31) (hb : b < 2 ^ 31) : (nI a ≤ nI b) = (a ≤ b) := propext (nI_leI ha hb)
theorem n_lt0 {a : Nat} (ha : a < 2 ^ 31) : (nI a < 0) = False := eq_false (nI_pos ha)
theorem n_ge0 {a : Nat} (ha : a < 2 ^ 31) : (0 ≤ nI a) = True := eq_true (nI_pos' ha)
theorem n_gt0 {a : Nat} (ha : a < 2 ^ 31) : (0 < nI a) = (0 < a) := propext (nI_ltI (a := 0) (by decide) ha)
theorem n_le0 {a : Nat} (ha : a < 2 ^ 31) : (nI a ≤ 0) = (a = 0) := by
  rw [show (nI a ≤ 0) = (nI a ≤ nI 0) from rfl, n_le ha (by decide)]
  exact propext ⟨fun h => by omega, fun h => by omega⟩
theorem n_em1 {a : Nat} (ha : a < 2 ^ 31) : (nI a = -1) = False := eq_false (fun h => by
  have h1 := nI_toInt ha
  rw [h] at h1
  have : (-1 : Int32).toInt = -1 := by decide +kernel
  omega)
theorem n_m1e {a : Nat} (ha : a < 2 ^ 31) : ((-1 : Int32) = nI a) = False := by rw [← n_em1 ha]; exact propext ⟨Eq.symm, Eq.symm⟩
theorem n_m1lt0 : ((-1 : Int32) < 0) = True := eq_true (by decide +kernel)
theorem n_m1ge0 : ((0 : Int32) ≤ -1) = False := eq_false (by decide +kernel)
theorem n_m1gt0 : ((0 : Int32) < -1) = False := eq_false (by decide +kernel)
theorem n_m1eq0 : ((-1 : Int32) = 0) = False := eq_false (by decide +kernel)
theorem n_m1lt {a : Nat} (ha : a < 2 ^ 31) : ((-1 : Int32) < nI a) = True := eq_true (by
  rw [Int32.lt_iff_toInt_lt, nI_toInt ha]
  have : (-1 : Int32).toInt = -1 := by decide +kernel
  omega)
theorem n_dec {a : Nat} (ha : 0 < a) : nI a + (-1) = nI (a - 1) := by
  obtain ⟨k, rfl⟩ := Nat.exists_eq_add_of_le ha
  rw [show 0 + 1 + k = k + 1 by omega, pk_m1]; rfl
theorem n_sub {a b : Nat} (h : b ≤ a) : nI a - nI b = nI (a - b) := pk_sub h
theorem n_mul (a b : Nat) : nI a * nI b = nI (a * b) := pk_mul a b
theorem n_div {a b : Nat} (ha : a < 2 ^ 31) (h0 : 0 < b) (hb : b < 2 ^ 31) : nI a / nI b = nI (a / b) := pk_div ha h0 hb
theorem bI_eq0 (b : Bool) : (bI b = 0) = (b = false) := by cases b <;> simp [bI]
theorem bI_ne0 (b : Bool) : (¬ bI b = 0) = (b = true) := by cases b <;> simp [bI]
theorem bI_nI (b : Bool) : bI b = nI b.toNat := by cases b <;> rfl
theorem tb_eq0 (S k : Nat) : (tb S k = 0) = (S.testBit k = false) := by unfold tb; cases S.testBit k <;> simp
theorem tb_eq1 (S k : Nat) : (tb S k = 1) = (S.testBit k = true) := by unfold tb; cases S.testBit k <;> simp
theorem tb_pow (k i : Nat) : Nat.testBit (2 ^ k) i = decide (i = k) := by
  rw [Nat.testBit_two_pow]; exact decide_eq_decide.mpr ⟨Eq.symm, Eq.symm⟩
theorem tb_ext {a b : Nat} (h : ∀ i, a.testBit i = b.testBit i) : a = b := Nat.eq_of_testBit_eq h
theorem or_lt {a b n : Nat} (ha : a < 2 ^ n) (hb : b < 2 ^ n) : a ||| b < 2 ^ n := Nat.or_lt_two_pow ha hb
theorem pow_lt {k n : Nat} (h : k < n) : 2 ^ k < 2 ^ n := Nat.pow_lt_pow_right (by decide) h
theorem lt_of_tb {a n : Nat} (h : ∀ i, n ≤ i → a.testBit i = false) : a < 2 ^ n := Nat.lt_pow_two_of_testBit _ h
theorem tb_hi {a n i : Nat} (ha : a < 2 ^ n) (hi : n ≤ i) : a.testBit i = false := Nat.testBit_lt_two_pow (Nat.lt_of_lt_of_le ha (Nat.pow_le_pow_right (by decide) hi))
