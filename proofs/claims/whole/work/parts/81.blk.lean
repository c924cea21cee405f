theorem fp_low {A : Nat → Nat → Nat} {c n : Nat} : ∀ r, r ≤ n → ∀ i, r ≤ i → i < fp A c n r → A i c = 0 := by
  refine lup (P := fun r => ∀ i, r ≤ i → i < fp A c n r → A i c = 0) ?_ ?_
  · intro i h1 h2; rw [fp_end] at h2; omega
  · intro r hr ih i h1 h2
    by_cases hz : A r c = 0
    · by_cases e : i = r
      · rw [e]; exact hz
      · rw [fp_skip hr hz] at h2; exact ih i (by omega) h2
    · rw [fp_hit hr hz] at h2; omega
theorem fp_at {A : Nat → Nat → Nat} {c n m : Nat} (hm : m < n) (h1 : A m c ≠ 0) (h2 : ∀ i, i < m → A i c = 0) : fp A c n 0 = m := by
  obtain ⟨⟨-, a1⟩, a2⟩ := fp_spec A c n 0 (Nat.zero_le n)
  have a3 := fp_low (A := A) (c := c) (n := n) 0 (Nat.zero_le n)
  by_cases h : fp A c n 0 < m
  · exact absurd (h2 _ h) (a2 (by omega))
  · by_cases h' : m < fp A c n 0
    · exact absurd (a3 m (Nat.zero_le m) h') h1
    · omega
def R0 (n : Nat) (E : Nat → Nat → Bool) (c : Nat → Nat) (i : Nat) : Nat := mk (fun k => E i (c k)) n
/-- what is reached through rows below k -/
def ws (R : Nat → Nat) : Nat → Nat → Nat
  | 0 => R
  | k + 1 => fun i => if (ws R k i).testBit k = true then ws R k i ||| ws R k k else ws R k i
theorem ws_rc (R : Nat → Nat) : ∀ k i v, (ws R k i).testBit v = true ↔ Rc (fun a b => (R a).testBit b = true) (fun x => x < k) i v := by
  intro k
  induction k with
  | zero =>
    intro i v
    refine ⟨fun h => Rc.base h, fun h => h (fun x => (R i).testBit x = true) (fun w hw => hw) (fun k _ hk => absurd hk (Nat.not_lt_zero k))⟩
  | succ k ih =>
    intro i v
    rw [Rc_add (S := fun x => x < k) (g := k) (T := fun x => x < k + 1) (fun x => ⟨fun h => by have h : x < k + 1 := h; omega, fun h => by show x < k + 1; omega⟩), ← ih i v, ← ih i k, ← ih k v, ws]
    dsimp only
    by_cases hk : (ws R k i).testBit k = true
    · rw [if_pos hk, Nat.testBit_or, Bool.or_eq_true]
      exact ⟨fun h => h.elim Or.inl (fun h => Or.inr ⟨hk, h⟩), fun h => h.elim Or.inl (fun h => Or.inr h.2)⟩
    · rw [if_neg hk]
      exact ⟨Or.inl, fun h => h.elim id (fun h => absurd h.1 hk)⟩
theorem ws_lt {n : Nat} {R : Nat → Nat} (h : ∀ i, R i < 2 ^ n) : ∀ k i, ws R k i < 2 ^ n := by
  intro k
  induction k with
  | zero => exact h
  | succ k ih =>
    intro i
    show (if (ws R k i).testBit k = true then ws R k i ||| ws R k k else ws R k i) < 2 ^ n
    split
    · exact or_lt (ih i) (ih k)
    · exact ih i
theorem ws_kk (R : Nat → Nat) (k : Nat) : ws R (k + 1) k = ws R k k := by
  show (if (ws R k k).testBit k = true then ws R k k ||| ws R k k else ws R k k) = ws R k k
  split
  · exact Nat.or_self _
  · rfl
def okL (n : Nat) (L : Nat → Nat) : Prop := (∀ i k v, k < n → (L i).testBit k = true → (L k).testBit v = true → (L i).testBit v = true) ∧ (∀ i, i < n → (L i).testBit i = true) ∧ ∀ i, L i < 2 ^ n
theorem ws_ok {n : Nat} {E : Nat → Nat → Bool} {c : Nat → Nat} (h : ∀ i, i < n → E i (c i) = true) : okL n (ws (R0 n E c) n) := by
  refine ⟨fun i k v hk h1 h2 => ?_, fun i hi => ?_, ws_lt (fun i => mk_lt _ _) n⟩
  · rw [ws_rc] at h1 h2 ⊢
    exact h1.trans hk h2
  · rw [ws_rc]
    apply Rc.base
    show (mk _ n).testBit i = true
    rw [mk_tb, h i hi]; simp [hi]
def tg (n : Nat) (L : Nat → Nat) (i : Nat) : Nat := mk (fun o => (L i).testBit o && (L o).testBit i) n
theorem tg_tb (n : Nat) (L : Nat → Nat) (i o : Nat) : (tg n L i).testBit o = true ↔ o < n ∧ (L i).testBit o = true ∧ (L o).testBit i = true := by
  unfold tg
  rw [mk_tb, Bool.and_eq_true, Bool.and_eq_true, decide_eq_true_iff]
theorem tg_lt (n : Nat) (L : Nat → Nat) (i : Nat) : tg n L i < 2 ^ n := mk_lt _ _
theorem tg_self {n : Nat} {L : Nat → Nat} (hL : okL n L) {i : Nat} (hi : i < n) : (tg n L i).testBit i = true := (tg_tb n L i i).mpr ⟨hi, hL.2.1 i hi, hL.2.1 i hi⟩
theorem tg_or {n : Nat} {L : Nat → Nat} (hL : okL n L) {i : Nat} (hi : i < n) : 2 ^ i ||| tg n L i = tg n L i := by
  apply tb_iff
  intro v
  rw [Nat.testBit_or, Bool.or_eq_true, tb_pow, decide_eq_true_iff]
  exact ⟨fun h => h.elim (fun e => by rw [e]; exact tg_self hL hi) id, Or.inr⟩
/-- the next block's first row; n if there is none -/
def nxr (n : Nat) (L : Nat → Nat) (D : Nat) : Nat := fp (fun i _ => if D.testBit i = false ∧ df (L i) (D ||| tg n L i) = 0 then 1 else 0) 0 n 0
def bs (n : Nat) (L : Nat → Nat) : Nat → Nat
  | 0 => 0
  | t + 1 => if nxr n L (bs n L t) < n then bs n L t ||| tg n L (nxr n L (bs n L t)) else bs n L t
def bM (n : Nat) (L : Nat → Nat) : Nat := fp (fun t _ => if nxr n L (bs n L t) < n then 0 else 1) 0 n 0
def mem (n : Nat) (L : Nat → Nat) (t : Nat) : Nat := tg n L (nxr n L (bs n L t))
def num (n : Nat) (L : Nat → Nat) (i : Nat) : Nat := fp (fun m _ => tb (mem n L m) i) 0 (bM n L) 0
theorem lo_min {q : Nat → Bool} {w : Nat → Nat} : ∀ k b, lo q w k = some b → ∀ i, i < k → q i = true → w b ≤ w i := by
  intro k
  induction k with
  | zero => intro b h; cases h
  | succ k ih =>
    intro b h i hi hq
    rw [lo] at h
    by_cases hk : q k = true
    · rw [if_pos hk] at h
      cases hl : lo q w k with
      | none =>
        rw [hl] at h; simp only at h; cases h
        by_cases e : i = k
        · rw [e]; exact Nat.le_refl _
        · obtain ⟨b', hb'⟩ := lo_some (q := q) (w := w) k i (by omega) hq
          rw [hl] at hb'; cases hb'
      | some c =>
        rw [hl] at h
        simp only at h
        have := ih c hl
        by_cases hw : w k < w c
        · rw [if_pos hw] at h; cases h
          by_cases e : i = k
          · rw [e]; exact Nat.le_refl _
          · have := this i (by omega) hq; omega
        · rw [if_neg hw] at h; cases h
          by_cases e : i = k
          · rw [e]; omega
          · exact this i (by omega) hq
    · rw [if_neg hk] at h
      by_cases e : i = k
      · rw [e] at hq; exact absurd hq hk
      · exact ih b h i (by omega) hq
theorem pc_sub {A B n j : Nat} (h : ∀ i, i < n → A.testBit i = true → B.testBit i = true) (hj : j < n) (hB : B.testBit j = true) (hA : A.testBit j = false) : pc A n + 1 ≤ pc B n := by
  have h1 : sm (fun i => tb A i + (if i = j then 1 else 0)) n ≤ sm (fun i => tb B i) n := sm_mono n (fun i hi => by
    by_cases e : i = j
    · rw [e, if_pos rfl, tb_0 hA, tb_1 hB]; exact Nat.le_refl 1
    · rw [if_neg e]
      cases ha : A.testBit i with
      | true => rw [tb_1 ha, tb_1 (h i hi ha)]; exact Nat.le_refl 1
      | false => rw [tb_0 ha]; exact Nat.zero_le _)
  rw [sm_add, sm_one, if_pos hj, ← pc_sm, ← pc_sm] at h1
  exact h1
theorem nxr_at {n : Nat} {L : Nat → Nat} {D : Nat} (h : nxr n L D < n) : D.testBit (nxr n L D) = false := by
  have := (fp_spec (fun i _ => if D.testBit i = false ∧ df (L i) (D ||| tg n L i) = 0 then 1 else 0) 0 n 0 (Nat.zero_le n)).2 h
  by_cases hc : D.testBit (nxr n L D) = false ∧ df (L (nxr n L D)) (D ||| tg n L (nxr n L D)) = 0
  · exact hc.1
  · exact absurd (if_neg hc) this
theorem nxr_some {n : Nat} {L : Nat → Nat} {D i : Nat} (hL : okL n L) (hn : n ≤ 20) (hi : i < n) (hD : D.testBit i = false) : nxr n L D < n := by
  obtain ⟨b, hb⟩ := lo_some (q := fun i => !D.testBit i) (w := fun i => pc (L i) n) n i hi (by rw [hD]; rfl)
  have h1 := lo_lt n b hb
  have h2 := lo_min n b hb
  have hDb : D.testBit b = false := by simpa using h1.2
  have hcand : df (L b) (D ||| tg n L b) = 0 := by
    apply tb_ext
    intro k
    rw [Nat.zero_testBit]
    cases hk : (df (L b) (D ||| tg n L b)).testBit k with
    | false => rfl
    | true =>
      exfalso
      have hlt := hL.2.2 b
      rw [df_tb (pow20 hn hlt), Nat.testBit_or, Bool.or_eq_false_iff] at hk
      obtain ⟨k1, k2, k3⟩ := hk
      have hkn := tb_bd hlt k1
      have hmin := h2 k hkn (by rw [k2]; rfl)
      -- k leads back to b, else its reach were smaller
      have hbk : (L k).testBit b = true := by
        cases hx : (L k).testBit b with
        | true => rfl
        | false =>
          have := pc_sub (A := L k) (B := L b) (fun v _ hv => hL.1 b k v hkn k1 hv) h1.1 (hL.2.1 b h1.1) hx
          omega
      rw [(tg_tb n L b k).mpr ⟨hkn, k1, hbk⟩] at k3
      cases k3
  apply Nat.lt_of_not_le
  intro hc
  have h3 := fp_low (A := fun i _ => if D.testBit i = false ∧ df (L i) (D ||| tg n L i) = 0 then 1 else 0) (c := 0) (n := n) 0 (Nat.zero_le n) b (Nat.zero_le b) (Nat.lt_of_lt_of_le h1.1 hc)
  rw [if_pos ⟨hDb, hcand⟩] at h3
  omega
theorem bs_ok {n : Nat} {L : Nat → Nat} (hL : okL n L) : ∀ t, bs n L t < 2 ^ n ∧ ∀ i, (bs n L t).testBit i = true → ∀ k, (tg n L i).testBit k = true → (bs n L t).testBit k = true := by
  intro t
  induction t with
  | zero => exact ⟨Nat.two_pow_pos n, fun i h => by rw [show bs n L 0 = 0 from rfl, Nat.zero_testBit] at h; cases h⟩
  | succ t ih =>
    rw [bs]
    by_cases h : nxr n L (bs n L t) < n
    · rw [if_pos h]
      refine ⟨or_lt ih.1 (tg_lt _ _ _), fun i hi k hk => ?_⟩
      rw [Nat.testBit_or, Bool.or_eq_true] at hi ⊢
      rcases hi with hi | hi
      · exact Or.inl (ih.2 i hi k hk)
      · rw [tg_tb] at hi hk
        exact Or.inr ((tg_tb _ _ _ _).mpr ⟨hk.1, hL.1 _ i k hi.1 hi.2.1 hk.2.1, hL.1 k i _ hi.1 hk.2.2 hi.2.2⟩)
    · rw [if_neg h]; exact ih
theorem bM_lt {n t : Nat} {L : Nat → Nat} (ht : t < bM n L) : nxr n L (bs n L t) < n := by
  have h := fp_low (A := fun t _ => if nxr n L (bs n L t) < n then 0 else 1) (c := 0) (n := n) 0 (Nat.zero_le n) t (Nat.zero_le t) ht
  by_cases hc : nxr n L (bs n L t) < n
  · exact hc
  · rw [if_neg hc] at h; omega
theorem bM_le (n : Nat) (L : Nat → Nat) : bM n L ≤ n := (fp_spec _ 0 n 0 (Nat.zero_le n)).1.2
theorem bM_no {n : Nat} {L : Nat → Nat} (h : bM n L < n) : ¬ nxr n L (bs n L (bM n L)) < n := fun hc => (fp_spec (fun t _ => if nxr n L (bs n L t) < n then 0 else 1) 0 n 0 (Nat.zero_le n)).2 h (if_pos hc)
theorem bs_s {n t : Nat} {L : Nat → Nat} (ht : t < bM n L) : bs n L (t + 1) = bs n L t ||| mem n L t := by rw [bs, if_pos (bM_lt ht)]; rfl
theorem bs_pc {n : Nat} {L : Nat → Nat} (hL : okL n L) : ∀ t, t ≤ bM n L → t ≤ pc (bs n L t) n := by
  intro t
  induction t with
  | zero => intro _; exact Nat.zero_le _
  | succ t ih =>
    intro ht
    have h := bM_lt (show t < bM n L by omega)
    have := pc_sub (A := bs n L t) (B := bs n L (t + 1)) (n := n) (j := nxr n L (bs n L t)) (fun i _ hi => by rw [bs_s (by omega), Nat.testBit_or, hi, Bool.true_or]) h (by
      rw [bs_s (by omega), Nat.testBit_or]
      show (_ || (tg n L (nxr n L (bs n L t))).testBit _) = true
      rw [tg_self hL h, Bool.or_true]) (nxr_at h)
    have := ih (by omega)
    omega
theorem bs_all {n : Nat} {L : Nat → Nat} (hL : okL n L) (hn : n ≤ 20) : bs n L (bM n L) = 2 ^ n - 1 := by
  have hlt := (bs_ok hL (bM n L)).1
  have hall : ∀ i, i < n → (bs n L (bM n L)).testBit i = true := by
    by_cases h : bM n L < n
    · intro i hi
      cases hb : (bs n L (bM n L)).testBit i with
      | true => rfl
      | false => exact absurd (nxr_some hL hn hi hb) (bM_no h)
    · have h1 := bM_le n L
      have h2 := bs_pc hL (bM n L) (Nat.le_refl _)
      have h3 := pc_le (bs n L (bM n L)) n
      exact all_pc (by omega)
  apply tb_ext
  intro i
  rw [Nat.testBit_two_pow_sub_one]
  by_cases hi : i < n
  · rw [hall i hi]; simp [hi]
  · rw [tb_hi hlt (by omega)]; simp [hi]
theorem bs_ne {n t : Nat} {L : Nat → Nat} (ht : t < bM n L) : bs n L t ≠ 2 ^ n - 1 := fun e => by
  have h := bM_lt ht
  have h2 := nxr_at h
  rw [e, Nat.testBit_two_pow_sub_one] at h2
  simp only [decide_eq_false_iff_not] at h2
  rw [e] at h
  exact h2 h
theorem bs_in {n : Nat} {L : Nat → Nat} {i : Nat} : ∀ t, t ≤ bM n L → ((bs n L t).testBit i = true ↔ ∃ m, m < t ∧ (mem n L m).testBit i = true) := by
  intro t
  induction t with
  | zero =>
    intro _
    rw [show bs n L 0 = 0 from rfl, Nat.zero_testBit]
    exact ⟨fun h => Bool.noConfusion h, fun ⟨m, h, _⟩ => absurd h (Nat.not_lt_zero m)⟩
  | succ t ih =>
    intro ht
    rw [bs_s (by omega), Nat.testBit_or, Bool.or_eq_true, ih (by omega)]
    constructor
    · rintro (⟨m, h1, h2⟩ | h)
      · exact ⟨m, by omega, h2⟩
      · exact ⟨t, by omega, h⟩
    · rintro ⟨m, h1, h2⟩
      by_cases e : m = t
      · rw [e] at h2; exact Or.inr h2
      · exact Or.inl ⟨m, by omega, h2⟩
theorem mem_new {n t i : Nat} {L : Nat → Nat} (hL : okL n L) (ht : t < bM n L) (h : (mem n L t).testBit i = true) : (bs n L t).testBit i = false := by
  cases hb : (bs n L t).testBit i with
  | false => rfl
  | true =>
    exfalso
    have h1 := bM_lt ht
    have h2 := nxr_at h1
    have h3 : (tg n L (nxr n L (bs n L t))).testBit i = true := h
    rw [tg_tb] at h3
    have h4 := (bs_ok hL t).2 i hb (nxr n L (bs n L t)) ((tg_tb _ _ _ _).mpr ⟨h1, h3.2.2, h3.2.1⟩)
    rw [h2] at h4; cases h4
theorem num_eq {n m i : Nat} {L : Nat → Nat} (hL : okL n L) (hm : m < bM n L) (h : (mem n L m).testBit i = true) : num n L i = m := by
  refine fp_at hm (by show tb (mem n L m) i ≠ 0; rw [tb_1 h]; decide) (fun m' hm' => ?_)
  show tb (mem n L m') i = 0
  cases hb : (mem n L m').testBit i with
  | false => exact tb_0 hb
  | true =>
    have h1 := mem_new hL hm h
    rw [(bs_in m (by omega)).mpr ⟨m', hm', hb⟩] at h1; cases h1
theorem num_lt {n i : Nat} {L : Nat → Nat} (hL : okL n L) (hn : n ≤ 20) (hi : i < n) : num n L i < bM n L ∧ (mem n L (num n L i)).testBit i = true := by
  have h : (bs n L (bM n L)).testBit i = true := by rw [bs_all hL hn, Nat.testBit_two_pow_sub_one]; simp [hi]
  obtain ⟨m, h1, h2⟩ := (bs_in (bM n L) (Nat.le_refl _)).mp h
  rw [num_eq hL h1 h2]
  exact ⟨h1, h2⟩
theorem mem_num {n i b : Nat} {L : Nat → Nat} (hL : okL n L) (hn : n ≤ 20) : mk (fun i => decide (num n L i = b)) n = if b < bM n L then mem n L b else 0 := by
  apply tb_iff
  intro v
  rw [mk_tb, Bool.and_eq_true, decide_eq_true_iff, decide_eq_true_iff]
  by_cases hb : b < bM n L
  · rw [if_pos hb]
    constructor
    · rintro ⟨h1, h2⟩
      have := num_lt hL hn h1
      rw [h2] at this; exact this.2
    · intro h; exact ⟨tb_bd (tg_lt _ _ _) h, num_eq hL hb h⟩
  · rw [if_neg hb, Nat.zero_testBit]
    constructor
    · rintro ⟨h1, h2⟩
      have := (num_lt hL hn h1).1
      omega
    · intro h; cases h
theorem mdS_full {n : Nat} {E : Nat → Nat → Bool} (h : (mdS n E n).2 = n) : ∀ i, i < n → md n E i < n := by
  have key : ∀ i, i ≤ n → (mdS n E i).2 = i := by
    refine lup (P := fun i => (mdS n E i).2 = i) h ?_
    intro i hi ih
    have h1 := (mdS_ok n E i).2
    rw [mdS] at ih
    split at ih
    · have ih : (mdS n E i).2 + 1 = i + 1 := ih; omega
    · omega
  intro i hi
  have h1 := key i (by omega)
  have h2 := key (i + 1) hi
  rw [mdS] at h2
  by_cases hc : mj n E (nu n E 0 0) i (mdS n E i).1 (mdS n E i).2 < n
  · exact hc
  · rw [if_neg hc] at h2; omega
theorem md_E {n : Nat} {E : Nat → Nat → Bool} {i : Nat} (h : md n E i < n) : E i (md n E i) = true := by
  have := (fp_spec (fun j _ => bn (cnd n E (nu n E 0 0) i (mdS n E i).1 (mdS n E i).2 j)) 0 n 0 (Nat.zero_le n)).2 h
  by_cases hc : cnd n E (nu n E 0 0) i (mdS n E i).1 (mdS n E i).2 (md n E i)
  · exact hc.1
  · exact absurd (bn_0 hc) this
