abbrev j_W : Type := (Nat × Nat) × va_G × (ClassId × ClassId × ClassId)
def ad (w : j_W) (a : Nat) : Nat := if a = 0 then w.1.1 else w.1.2 + (a - 1)
def cv (w : j_W) (v : Value) : Value := match v with
  | .ref a => .ref (ad w a)
  | v => v
def cE (w : j_W) (c : j_C) : va_E := match c with
  | .inl (n, f) => .inl (w.2.2.1, n, .inl f)
  | .inr (.inl (n, f)) => .inl (w.2.2.2.1, n, .inr (.inl f))
  | .inr (.inr (.inl (n, f))) => .inl (w.2.2.2.2, n, .inr (.inr (.inr (.inr (fun j => (f j).map (ad w))))))
  | .inr (.inr (.inr (k, fs))) => .inr (k, fs.map (cv w))
def j_nst (q : Cond) : Bool := match q with
  | .fieldLinkNest .. => true
  | .methodLinkNest .. => true
  | _ => false
def j_tys (w : j_W) : List (ClassId × FieldType) := [(w.2.2.1, .int), (w.2.2.2.1, .long), (w.2.2.2.2, .array .int)]
def j_KC (w : j_W) (U : State) : Prop := va_K w.2.1 vwCl (j_tys w) U ∧ (Cond.arrayOver (.array .int)).before #[] U = true ∧ ∀ q ∈ lw_tbl, j_nst q = true → va_Nw q U
def j_Rel (w : j_W) (U : State) (h : j_H) (H : Heap) : Prop := 1 ≤ h.1 ∧ H.size = w.1.2 + (h.1 - 1) ∧ w.1.1 < w.1.2 ∧ ∀ a c, hg h a = some c → a < h.1 ∧ (if a = 0 then ∃ L xs, c = aI L xs ∧ va_X w.1.1 L xs U H else va_at w.2.1 vwCl (ad w a, cE w c) H)
def j_L (w : j_W) (ls : List (Option Value)) (lsA : Array Slot) (n : Nat) : Prop := lsA.size = n ∧ lv_wf lsA ∧ ∀ (i : Nat) (v : Value), ls[i]? = some (some v) → lsA[i]? = some (.val (cv w v))
def j_Fr (w : j_W) (p : Program) (R : Room) (s : State) (m : MethodId) (args : Array Value) (meth : Method) (c : Code) (f d : Nat) : Prop := p.tables.exec = Jvm.exec ∧ c.code = j_code f ∧ c.maxLocals = j_ml f ∧ s.vm.findClass (j_y f).cls = some m.cls ∧ (∀ q ∈ lw_tbl, (goodWord q || j_nst q) = true → q.before args s = true) ∧ ((j_y f).name = "<init>" → meth.name = "<init>") ∧ j_KC w s ∧ d + 1 ≤ R.frames ∧ 64 * d + 64 ≤ R.locals
theorem cv_rV (w : j_W) (r : Option Nat) : cv w (rV r) = va_rf (r.map (ad w)) := by cases r <;> rfl
theorem cv_cat (w : j_W) (v : Value) : (cv w v).category = v.category := by cases v <;> rfl
theorem j_word {w : j_W} {p : Program} {R : Room} {s : State} {m : MethodId} {args : Array Value} {meth : Method} {c : Code} {f d i : Nat} {q : Cond} (hF : j_Fr w p R s m args meth c f d) (h : j_wd i q = true) (hq : (goodWord q || j_nst q) = true) : q.before args s = true :=
  hF.2.2.2.2.1 q (List.mem_of_getElem? (of_decide_eq_true h)) hq
theorem j_dec {f pc : Nat} {i : Instr} {n : Nat} (h : j_dc f pc i n = true) : decode (j_code f) pc = .ok (i, n) := of_decide_eq_true h
/-- the moving of what is known of classes -/
theorem j_KC.moved {w : j_W} {u U : State} (hW : u.WarmedH U.vm) (h : j_KC w u) : j_KC w U := by
  refine ⟨va_K.moved hW.alike h.1, over_moved hW.alike h.2.1, fun q hq hn => ?_⟩
  have h1 := h.2.2 q hq hn
  cases q with
  | fieldLinkNest a i b n d e => exact va_Nw.warmF hW h1
  | methodLinkNest a i x e => exact va_Nw.warmM hW h1
  | _ => simp [j_nst] at hn
theorem j_KC.same {w : j_W} {u U : State} (hW : u.vm = U.vm) (h : j_KC w u) : j_KC w U := by
  refine ⟨va_K.moved (by rw [hW]; exact Vm.Alike.refl _) h.1, over_moved (by rw [hW]; exact Vm.Alike.refl _) h.2.1, fun q hq hn => ?_⟩
  have h1 := h.2.2 q hq hn
  refine va_Nw.same ?_ hW h1
  cases q with
  | fieldLinkNest a i b n d e => rfl
  | methodLinkNest a i x e => rfl
  | _ => simp [j_nst] at hn
theorem j_X_moved {u U : State} {b L : Nat} {xs : Nat → Int32} {H : Heap} (hW : u.vm.Alike U.vm) (h : va_X b L xs u H) : va_X b L xs U H := by
  obtain ⟨scr, h1, h2, h3⟩ := h
  exact ⟨scr, h1, State.isArrayOf_alike hW h2, h3⟩
theorem j_Rel.moved {w : j_W} {u U : State} {h : j_H} {H : Heap} (hW : u.vm.Alike U.vm) (hR : j_Rel w u h H) : j_Rel w U h H := by
  refine ⟨hR.1, hR.2.1, hR.2.2.1, fun a c hc => ?_⟩
  obtain ⟨h1, h2⟩ := hR.2.2.2 a c hc
  refine ⟨h1, ?_⟩
  by_cases ha : a = 0
  · rw [if_pos ha] at h2 ⊢
    obtain ⟨L, xs, e, hx⟩ := h2
    exact ⟨L, xs, e, j_X_moved hW hx⟩
  · rw [if_neg ha] at h2 ⊢
    exact h2
theorem j_Rel.at {w : j_W} {U : State} {h : j_H} {H : Heap} (hR : j_Rel w U h H) {a : Nat} {c : j_C} (ha : a ≠ 0) (hc : hg h a = some c) : va_at w.2.1 vwCl (ad w a, cE w c) H := by
  have h2 := (hR.2.2.2 a c hc).2
  rw [if_neg ha] at h2
  exact h2
theorem j_one {w : j_W} {q : Nat × va_E} {H : Heap} (h : va_at w.2.1 vwCl q H) : va_P w.2.1 vwCl [q] H := fun k x hx => by
  have h0 : k < 1 := (List.getElem?_eq_some_iff.mp hx).1
  rw [show k = 0 by omega] at hx
  cases hx
  exact h
theorem ad_pos {w : j_W} {a : Nat} (ha : a ≠ 0) : w.1.2 ≤ ad w a := by unfold ad; rw [if_neg ha]; omega
theorem ad_inj {w : j_W} {a b : Nat} (hb : w.1.1 < w.1.2) (ha : a ≠ 0) (h : ad w a = ad w b) : a = b := by
  unfold ad at h
  rw [if_neg ha] at h
  by_cases e : b = 0
  · rw [if_pos e] at h; omega
  · rw [if_neg e] at h; omega
/-- a cell is written -/
theorem j_Rel.set {w : j_W} {U : State} {h : j_H} {H H' : Heap} {a : Nat} {c c' : j_C} (hR : j_Rel w U h H) (ha : a ≠ 0) (hc : hg h a = some c') (e1 : va_at w.2.1 vwCl (ad w a, cE w c) H') (e2 : H'.size = H.size) (e3 : ∀ q : Nat, q ≠ ad w a → H'[q]? = H[q]?) : j_Rel w U (hs h a c) H' := by
  refine ⟨hR.1, by rw [e2]; exact hR.2.1, hR.2.2.1, fun x k hk => ?_⟩
  rw [hg_hs] at hk
  by_cases hx : x = a
  · rw [if_pos hx] at hk
    cases hk
    subst hx
    exact ⟨(hR.2.2.2 x c' hc).1, by rw [if_neg ha]; exact e1⟩
  · rw [if_neg hx] at hk
    obtain ⟨h1, h2⟩ := hR.2.2.2 x k hk
    refine ⟨h1, ?_⟩
    have hne : ad w x ≠ ad w a := fun q => hx (ad_inj hR.2.2.1 ha q.symm).symm
    by_cases h0 : x = 0
    · rw [if_pos h0] at h2 ⊢
      obtain ⟨L, xs, e, scr, g1, g2⟩ := h2
      have hb0 : w.1.1 ≠ ad w a := by
        have := ad_pos (w := w) ha
        have := hR.2.2.1
        omega
      exact ⟨L, xs, e, scr, by rw [e3 _ hb0]; exact g1, g2⟩
    · rw [if_neg h0] at h2 ⊢
      exact h2.kept (e3 _ hne)
/-- a cell is made -/
theorem j_Rel.new {w : j_W} {U : State} {h : j_H} {H H' : Heap} {c : j_C} {n : Nat} (hR : j_Rel w U h H) (e1 : va_at w.2.1 vwCl (H.size, cE w c) H') (e2 : H'.size = H.size + 1) (e3 : ∀ q : Nat, q < H.size → H'[q]? = H[q]?) : j_Rel w U (hn h n c) H' ∧ ad w h.1 = H.size := by
  have hz := hR.2.1
  have h1 := hR.1
  have hb := hR.2.2.1
  have hadr : ad w h.1 = H.size := by unfold ad; rw [if_neg (by omega), hz]
  refine ⟨⟨Nat.le_add_left 1 h.1, by rw [e2, hz]; show _ = w.1.2 + (h.1 + 1 - 1); omega, hb, fun x k hk => ?_⟩, hadr⟩
  have hk' : (if x = h.1 then some c else hg h x) = some k := hk
  by_cases hx : x = h.1
  · rw [if_pos hx] at hk'
    cases hk'
    refine ⟨by show x < h.1 + 1; omega, ?_⟩
    rw [if_neg (by omega), hx, hadr]
    exact e1
  · rw [if_neg hx] at hk'
    obtain ⟨g1, g2⟩ := hR.2.2.2 x k hk'
    refine ⟨by show x < h.1 + 1; omega, ?_⟩
    by_cases h0 : x = 0
    · rw [if_pos h0] at g2 ⊢
      obtain ⟨L, xs, e, scr, q1, q2⟩ := g2
      exact ⟨L, xs, e, scr, by rw [e3 _ (by omega)]; exact q1, q2⟩
    · rw [if_neg h0] at g2 ⊢
      have := g2.lt
      exact g2.kept (e3 _ this)
/-- locals -/
theorem j_L.get {w : j_W} {ls : List (Option Value)} {lsA : Array Slot} {n i : Nat} {v : Value} (h : j_L w ls lsA n) (hi : ls[i]? = some (some v)) : lsA[i]? = some (.val (cv w v)) := h.2.2 i v hi
def j_kn (w : j_W) : Nat → List (Option Value) → List (Nat × Value)
  | _, [] => []
  | i, none :: t => j_kn w (i + 1) t
  | i, some v :: t => (i, cv w v) :: j_kn w (i + 1) t
theorem j_kn_mem (w : j_W) : ∀ (ls : List (Option Value)) (i : Nat) (q : Nat × Value), q ∈ j_kn w i ls ↔ ∃ j v, ls[j]? = some (some v) ∧ q = (i + j, cv w v) := by
  intro ls
  induction ls with
  | nil => intro i q; simp [j_kn]
  | cons a t ih =>
    intro i q
    cases a with
    | none =>
      rw [j_kn, ih]
      constructor
      · rintro ⟨j, v, h1, h2⟩
        exact ⟨j + 1, v, by simpa using h1, by rw [h2]; congr 1; omega⟩
      · rintro ⟨j, v, h1, h2⟩
        cases j with
        | zero => simp at h1
        | succ j => exact ⟨j, v, by simpa using h1, by rw [h2]; congr 1; omega⟩
    | some x =>
      rw [j_kn, List.mem_cons, ih]
      constructor
      · rintro (h | ⟨j, v, h1, h2⟩)
        · exact ⟨0, x, rfl, by rw [h]; rfl⟩
        · exact ⟨j + 1, v, by simpa using h1, by rw [h2]; congr 1; omega⟩
      · rintro ⟨j, v, h1, h2⟩
        cases j with
        | zero => simp at h1; subst h1; exact Or.inl h2
        | succ j => exact Or.inr ⟨j, v, by simpa using h1, by rw [h2]; congr 1; omega⟩
theorem j_L.has {w : j_W} {ls : List (Option Value)} {lsA : Array Slot} {n : Nat} (h : j_L w ls lsA n) : lv_has lsA n (j_kn w 0 ls) := by
  refine ⟨h.1, h.2.1, fun q hq => ?_⟩
  obtain ⟨j, v, h1, rfl⟩ := (j_kn_mem w ls 0 q).mp hq
  simpa using h.2.2 j v h1
theorem sto_get : ∀ (ls : List (Option Value)) (i : Nat) (v : Value) (j : Nat) (u : Value), (sto ls i v)[j]? = some (some u) → (j = i ∧ u = v) ∨ (j ≠ i ∧ ls[j]? = some (some u) ∧ ¬ (j + 1 = i ∧ u.category = 2))
  | [], i, v, j, u, h => by simp [sto] at h
  | a :: t, 0, v, j, u, h => by
    cases j with
    | zero => simp [sto] at h; exact Or.inl ⟨rfl, h.symm⟩
    | succ j => exact Or.inr ⟨by omega, by simpa [sto] using h, by omega⟩
  | [a], i + 1, v, j, u, h => by simp [sto] at h
  | a :: b :: t, 1, v, j, u, h => by
    match j with
    | 0 =>
      have h' : cl a = some u := by simpa [sto] using h
      refine Or.inr ⟨by omega, ?_, ?_⟩
      · cases a with
        | none => simp [cl] at h'
        | some x => cases x <;> simp [cl] at h' <;> simp [h']
      · intro q
        cases a with
        | none => simp [cl] at h'
        | some x => cases x <;> simp [cl] at h' <;> (rw [← h'] at q; simp [Value.category] at q)
    | 1 => simp [sto] at h; exact Or.inl ⟨rfl, h.symm⟩
    | j + 2 => exact Or.inr ⟨by omega, by simpa [sto] using h, by omega⟩
  | a :: b :: t, i + 2, v, j, u, h => by
    cases j with
    | zero => exact Or.inr ⟨by omega, by simpa [sto] using h, by omega⟩
    | succ j =>
      have h' : (sto (b :: t) (i + 1) v)[j]? = some (some u) := by simpa [sto] using h
      rcases sto_get (b :: t) (i + 1) v j u h' with ⟨h1, h2⟩ | ⟨h1, h2, h3⟩
      · exact Or.inl ⟨by omega, h2⟩
      · exact Or.inr ⟨by omega, by simpa using h2, by omega⟩
theorem st2_get : ∀ (ls : List (Option Value)) (i : Nat) (v : Value) (j : Nat) (u : Value), (st2 ls i v)[j]? = some (some u) → (j = i ∧ u = v) ∨ (j ≠ i ∧ j ≠ i + 1 ∧ ls[j]? = some (some u) ∧ ¬ (j + 1 = i ∧ u.category = 2))
  | [], i, v, j, u, h => by simp [st2] at h
  | [a], i, v, j, u, h => by simp [st2] at h
  | [a, b], i + 1, v, j, u, h => by simp [st2] at h
  | a :: b :: t, 0, v, j, u, h => by
    match j with
    | 0 => simp [st2] at h; exact Or.inl ⟨rfl, h.symm⟩
    | 1 => simp [st2] at h
    | j + 2 => exact Or.inr ⟨by omega, by omega, by simpa [st2] using h, by omega⟩
  | a :: b :: c :: t, 1, v, j, u, h => by
    match j with
    | 0 =>
      have h' : cl a = some u := by simpa [st2] using h
      refine Or.inr ⟨by omega, by omega, ?_, ?_⟩
      · cases a with
        | none => simp [cl] at h'
        | some x => cases x <;> simp [cl] at h' <;> simp [h']
      · intro q
        cases a with
        | none => simp [cl] at h'
        | some x => cases x <;> simp [cl] at h' <;> (rw [← h'] at q; simp [Value.category] at q)
    | 1 => simp [st2] at h; exact Or.inl ⟨rfl, h.symm⟩
    | 2 => simp [st2] at h
    | j + 3 => exact Or.inr ⟨by omega, by omega, by simpa [st2] using h, by omega⟩
  | a :: b :: c :: t, i + 2, v, j, u, h => by
    cases j with
    | zero => exact Or.inr ⟨by omega, by omega, by simpa [st2] using h, by omega⟩
    | succ j =>
      have h' : (st2 (b :: c :: t) (i + 1) v)[j]? = some (some u) := by simpa [st2] using h
      rcases st2_get (b :: c :: t) (i + 1) v j u h' with ⟨h1, h2⟩ | ⟨h1, h2, h3, h4⟩
      · exact Or.inl ⟨by omega, h2⟩
      · exact Or.inr ⟨by omega, by omega, by simpa using h3, by omega⟩
theorem j_L.sto {w : j_W} {ls : List (Option Value)} {lsA : Array Slot} {n i : Nat} {v : Value} (h : lv_has lsA n ((i, cv w v) :: (j_kn w 0 ls).filter (fun q => !(q.1 == i) && !(q.1 + 1 == i && q.2.category == 2)))) : j_L w (sto ls i v) lsA n := by
  refine ⟨h.1, h.2.1, fun j u hj => ?_⟩
  rcases sto_get ls i v j u hj with ⟨rfl, rfl⟩ | ⟨h1, h2, h3⟩
  · exact h.2.2 (j, cv w u) List.mem_cons_self
  · refine h.2.2 (j, cv w u) (List.mem_cons_of_mem _ (List.mem_filter.mpr ⟨(j_kn_mem w ls 0 _).mpr ⟨j, u, h2, by simp⟩, ?_⟩))
    simp only [cv_cat, Bool.and_eq_true, Bool.not_eq_true', beq_eq_false_iff_ne, ne_eq, Bool.and_eq_false_iff]
    refine ⟨h1, ?_⟩
    by_cases e : j + 1 = i
    · exact Or.inr (fun q => h3 ⟨e, q⟩)
    · exact Or.inl e
theorem j_L.st2 {w : j_W} {ls : List (Option Value)} {lsA : Array Slot} {n i : Nat} {v : Value} (h : lv_has lsA n ((i, cv w v) :: (j_kn w 0 ls).filter (fun q => !(q.1 == i) && (!(q.1 == i + 1) && !(q.1 + 1 == i && q.2.category == 2))))) : j_L w (st2 ls i v) lsA n := by
  refine ⟨h.1, h.2.1, fun j u hj => ?_⟩
  rcases st2_get ls i v j u hj with ⟨rfl, rfl⟩ | ⟨h1, h0, h2, h3⟩
  · exact h.2.2 (j, cv w u) List.mem_cons_self
  · refine h.2.2 (j, cv w u) (List.mem_cons_of_mem _ (List.mem_filter.mpr ⟨(j_kn_mem w ls 0 _).mpr ⟨j, u, h2, by simp⟩, ?_⟩))
    simp only [cv_cat, Bool.and_eq_true, Bool.not_eq_true', beq_eq_false_iff_ne, ne_eq, Bool.and_eq_false_iff]
    refine ⟨h1, h0, ?_⟩
    by_cases e : j + 1 = i
    · exact Or.inr (fun q => h3 ⟨e, q⟩)
    · exact Or.inl e
