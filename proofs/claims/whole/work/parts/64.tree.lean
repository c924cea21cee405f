section TREE
variable {n : Nat} {pa : Nat → Nat}
/-- the place reached from k when it moves on from places below c -/
def fr (pa : Nat → Nat) : Nat → Nat → Nat
  | 0, k => k
  | c + 1, k => if fr pa c k = c then pa c else fr pa c k
/-- .. and how often it has moved -/
def mv (pa : Nat → Nat) : Nat → Nat → Nat
  | 0, _ => 0
  | c + 1, k => if fr pa c k = c then mv pa c k + 1 else mv pa c k
def okP (n : Nat) (pa : Nat → Nat) : Prop := ∀ k, k < n → k < pa k ∧ pa k ≤ n
theorem fr_ge {c m : Nat} (h : c ≤ m) : fr pa c m = m := by
  induction c with
  | zero => rfl
  | succ c ih => rw [fr, ih (by omega), if_neg (by omega)]
theorem fr_bd (hp : okP n pa) {c k : Nat} (hc : c ≤ n) (hk : k ≤ n) : c ≤ fr pa c k ∧ fr pa c k ≤ n := by
  induction c with
  | zero => exact ⟨Nat.zero_le _, hk⟩
  | succ c ih =>
    have ih := ih (by omega)
    rw [fr]
    by_cases e : fr pa c k = c
    · rw [if_pos e]; have := hp c (by omega); omega
    · rw [if_neg e]; omega
theorem fr_up (hp : okP n pa) {c p : Nat} (hc : c ≤ n) (h : p < c) : fr pa c p = fr pa c (pa p) := by
  induction c with
  | zero => omega
  | succ c ih =>
    by_cases e : p = c
    · subst e
      have := hp p (by omega)
      rw [fr, fr_ge (Nat.le_refl p), if_pos rfl, fr_ge (by omega)]
    · rw [fr, fr, ih (by omega) (by omega)]
/-- what hangs, as the class adds it up -/
def Hg (pa : Nat → Nat) (n : Nat) : Nat → Nat → Nat
  | 0, _ => 1
  | c + 1, m => if pa c < n ∧ m = pa c then Hg pa n c m + Hg pa n c c else Hg pa n c m
theorem Hg_cnt (hp : okP n pa) : ∀ c, c ≤ n → ∀ m, c ≤ m → m < n → Hg pa n c m = sm (fun k => if fr pa c k = m then 1 else 0) n := by
  intro c
  induction c with
  | zero =>
    intro _ m _ hm
    rw [Hg]
    have := sm_one (g := m) 1 n
    rw [if_pos hm] at this
    exact this.symm
  | succ c ih =>
    intro hc m h1 h2
    have ih := ih (by omega)
    rw [Hg]
    by_cases e : m = pa c
    · rw [if_pos ⟨by omega, e⟩, ih m (by omega) h2, ih c (Nat.le_refl c) (by omega), ← sm_add]
      refine sm_ext (fun k hk => ?_)
      rw [fr]
      by_cases e1 : fr pa c k = c
      · rw [if_pos e1, if_pos e1, if_neg (by omega), if_pos e.symm]
      · rw [if_neg e1, if_neg e1]; rfl
    · rw [if_neg (fun q => e q.2), ih m (by omega) h2]
      refine sm_ext (fun k hk => ?_)
      rw [fr]
      by_cases e1 : fr pa c k = c
      · rw [if_pos e1, if_neg (by omega), if_neg (fun q => e q.symm)]
      · rw [if_neg e1]
theorem Hg_keep (hp : okP n pa) {m : Nat} (hm : m < n) : ∀ c, m ≤ c → c ≤ n → Hg pa n c m = Hg pa n m m := by
  intro c h1
  induction h1 with
  | refl => intro _; rfl
  | step h ih =>
    rename_i c
    intro h2
    have := hp c (by omega)
    have h3 : m ≤ c := h
    rw [Hg, if_neg (by omega), ih (by omega)]
/-- tallness, as the class finds it -/
def Tl (pa : Nat → Nat) (n : Nat) : Nat → Nat → Nat
  | 0, _ => 1
  | c + 1, m => if pa c < n ∧ m = pa c then max (Tl pa n c m) (Tl pa n c c + 1) else Tl pa n c m
def ht (pa : Nat → Nat) (n : Nat) : Nat → Nat
  | 0 => 0
  | c + 1 => max (ht pa n c) (Tl pa n c c)
theorem Tl_le : ∀ c m, Tl pa n c m ≤ c + 1 := by
  intro c
  induction c with
  | zero => intro m; exact Nat.le_refl 1
  | succ c ih =>
    intro m
    rw [Tl]
    have h1 := ih m
    have h2 := ih c
    split
    · omega
    · omega
theorem ht_le : ∀ c, ht pa n c ≤ c := by
  intro c
  induction c with
  | zero => exact Nat.le_refl 0
  | succ c ih =>
    rw [ht]
    have := Tl_le (pa := pa) (n := n) c c
    omega
theorem Tl_mv (hp : okP n pa) : ∀ c, c ≤ n → ∀ m, c ≤ m → m < n → (∀ k, k < n → fr pa c k = m → mv pa c k + 1 ≤ Tl pa n c m) ∧ ∃ k, k < n ∧ fr pa c k = m ∧ mv pa c k + 1 = Tl pa n c m := by
  intro c
  induction c with
  | zero => intro _ m _ hm; exact ⟨fun k _ _ => Nat.le_refl 1, m, hm, rfl, rfl⟩
  | succ c ih =>
    intro hc m h1 h2
    have ih := ih (by omega)
    obtain ⟨a1, k1, b1, b2, b3⟩ := ih m (by omega) h2
    obtain ⟨a2, k2, c1, c2, c3⟩ := ih c (Nat.le_refl c) (by omega)
    rw [Tl]
    by_cases e : m = pa c
    · rw [if_pos ⟨by omega, e⟩]
      refine ⟨fun k hk hf => ?_, ?_⟩
      · rw [fr] at hf
        rw [mv]
        by_cases e1 : fr pa c k = c
        · rw [if_pos e1]; have := a2 k hk e1; omega
        · rw [if_neg e1] at hf ⊢; have := a1 k hk hf; omega
      · by_cases hmx : Tl pa n c m ≤ Tl pa n c c + 1
        · refine ⟨k2, c1, ?_, ?_⟩
          · rw [fr, if_pos c2]; exact e.symm
          · rw [mv, if_pos c2]; omega
        · refine ⟨k1, b1, ?_, ?_⟩
          · rw [fr, if_neg (by omega)]; exact b2
          · rw [mv, if_neg (by omega)]; omega
    · rw [if_neg (fun q => e q.2)]
      refine ⟨fun k hk hf => ?_, k1, b1, ?_, ?_⟩
      · rw [fr] at hf
        rw [mv]
        by_cases e1 : fr pa c k = c
        · rw [if_pos e1] at hf; exact absurd hf.symm e
        · rw [if_neg e1] at hf ⊢; exact a1 k hk hf
      · rw [fr, if_neg (by omega)]; exact b2
      · rw [mv, if_neg (by omega)]; exact b3
theorem ht_mv (hp : okP n pa) : ∀ c, c ≤ n → (∀ k, k < n → mv pa c k ≤ ht pa n c) ∧ (ht pa n c = 0 ∨ ∃ k, k < n ∧ mv pa c k = ht pa n c) := by
  intro c
  induction c with
  | zero => intro _; exact ⟨fun k _ => Nat.le_refl 0, Or.inl rfl⟩
  | succ c ih =>
    intro hc
    obtain ⟨i1, i2⟩ := ih (by omega)
    obtain ⟨a2, k2, c1, c2, c3⟩ := Tl_mv hp c (by omega) c (Nat.le_refl c) (by omega)
    rw [ht]
    refine ⟨fun k hk => ?_, Or.inr ?_⟩
    · rw [mv]
      by_cases e1 : fr pa c k = c
      · rw [if_pos e1]; have := a2 k hk e1; omega
      · rw [if_neg e1]; have := i1 k hk; omega
    · by_cases hmx : ht pa n c ≤ Tl pa n c c
      · exact ⟨k2, c1, by rw [mv, if_pos c2]; omega⟩
      · cases i2 with
        | inl h => omega
        | inr h =>
          obtain ⟨k, h1, h2⟩ := h
          refine ⟨k, h1, ?_⟩
          rw [mv]
          by_cases e1 : fr pa c k = c
          · have := a2 k h1 e1; omega
          · rw [if_neg e1]; omega
/-- how many stand on the way up from p -/
def dpf (pa : Nat → Nat) (n : Nat) : Nat → Nat → Nat
  | 0, _ => 0
  | f + 1, p => if p < n then dpf pa n f (pa p) + 1 else 0
def dp (pa : Nat → Nat) (n p : Nat) : Nat := dpf pa n (n - p) p
theorem dpf_eq (hp : okP n pa) : ∀ f f' p, n - p ≤ f → n - p ≤ f' → dpf pa n f p = dpf pa n f' p := by
  intro f
  induction f with
  | zero =>
    intro f' p h1 _
    cases f' with
    | zero => rfl
    | succ f' => rw [dpf, dpf, if_neg (by omega)]
  | succ f ih =>
    intro f' p h1 h2
    cases f' with
    | zero => rw [dpf, dpf, if_neg (by omega)]
    | succ f' =>
      rw [dpf, dpf]
      by_cases h : p < n
      · have := hp p h
        rw [if_pos h, if_pos h, ih f' (pa p) (by omega) (by omega)]
      · rw [if_neg h, if_neg h]
theorem dp_s (hp : okP n pa) {p : Nat} (h : p < n) : dp pa n p = dp pa n (pa p) + 1 := by
  have h1 := hp p h
  unfold dp
  rw [show n - p = (n - p - 1) + 1 by omega, dpf, if_pos h, dpf_eq hp (n - p - 1) (n - pa p) (pa p) (by omega) (Nat.le_refl _)]
theorem dp_n : dp pa n n = 0 := by unfold dp; rw [Nat.sub_self]; rfl
theorem dp_mv (hp : okP n pa) : ∀ c, c ≤ n → ∀ k, k ≤ n → mv pa c k + dp pa n (fr pa c k) = dp pa n k := by
  intro c
  induction c with
  | zero => intro _ k _; rw [mv, fr, Nat.zero_add]
  | succ c ih =>
    intro hc k hk
    have ih := ih (by omega) k hk
    rw [mv, fr]
    by_cases e : fr pa c k = c
    · rw [if_pos e, if_pos e]
      rw [e, dp_s hp (show c < n by omega)] at ih
      omega
    · rw [if_neg e, if_neg e]; exact ih
theorem dp_end (hp : okP n pa) {k : Nat} (hk : k < n) : mv pa n k = dp pa n k := by
  have h1 := dp_mv hp n (Nat.le_refl n) k (by omega)
  have h2 := fr_bd hp (Nat.le_refl n) (show k ≤ n by omega)
  rw [show fr pa n k = n by omega, dp_n] at h1
  omega
/-- the most of numbers below n, as the reference finds it -/
def mxk (f : Nat → Nat) : Nat → Nat
  | 0 => 0
  | k + 1 => if mxk f k < f k then f k else mxk f k
theorem mxk_spec (f : Nat → Nat) : ∀ n, (∀ k, k < n → f k ≤ mxk f n) ∧ (mxk f n = 0 ∨ ∃ k, k < n ∧ f k = mxk f n) := by
  intro n
  induction n with
  | zero => exact ⟨fun k hk => by omega, Or.inl rfl⟩
  | succ n ih =>
    obtain ⟨i1, i2⟩ := ih
    rw [mxk]
    by_cases h : mxk f n < f n
    · rw [if_pos h]
      refine ⟨fun k hk => ?_, Or.inr ⟨n, by omega, rfl⟩⟩
      by_cases e : k = n
      · rw [e]; exact Nat.le_refl _
      · have := i1 k (by omega); omega
    · rw [if_neg h]
      refine ⟨fun k hk => ?_, ?_⟩
      · by_cases e : k = n
        · rw [e]; omega
        · exact i1 k (by omega)
      · cases i2 with
        | inl h => exact Or.inl h
        | inr h => obtain ⟨k, h1, h2⟩ := h; exact Or.inr ⟨k, by omega, h2⟩
theorem ht_dp (hp : okP n pa) : mxk (dp pa n) n = ht pa n n := by
  obtain ⟨a1, a2⟩ := mxk_spec (dp pa n) n
  obtain ⟨b1, b2⟩ := ht_mv hp n (Nat.le_refl n)
  apply Nat.le_antisymm
  · cases a2 with
    | inl h => omega
    | inr h =>
      obtain ⟨k, h1, h2⟩ := h
      have := b1 k h1
      rw [dp_end hp h1] at this
      omega
  · cases b2 with
    | inl h => omega
    | inr h =>
      obtain ⟨k, h1, h2⟩ := h
      have := a1 k h1
      rw [dp_end hp h1] at h2
      omega
end TREE
