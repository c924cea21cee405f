/-- one step: of the picture, so of the machine -/
def j_Step (f pc : Nat) (ls : List (Option Value)) (st : List Value) (h : j_H) (s' : j_S) : Prop :=
  (h.1 ≤ s'.2.2.2.1 ∧ h.2.1 ≤ s'.2.2.2.2.1) ∧ ∀ (w : j_W) (p : Program) (l : Launch) (e : Env) (R : Room) (s : State) (m : MethodId) (args : Array Value) (below : List Frame) (meth : Method) (c : Code) (d : Nat) (H : Heap) (locs : List Loc) (cells slots : Nat) (Q : State → Prop) (lsA : Array Slot),
    j_Fr w p R s m args meth c f d → j_Rel w s h H → j_L w ls lsA (j_ml f) → (∀ q ∈ locs, w.1.2 ≤ q.base) → cells + (s'.2.2.2.1 - h.1) ≤ R.cells → slots + (s'.2.2.2.2.1 - h.2.1) ≤ R.slots →
    (∀ (H' : Heap) (locs' : List Loc) (lsA' : Array Slot), j_Rel w s s'.2.2.2 H' → j_L w s'.2.1 lsA' (j_ml f) → (∀ q ∈ locs', w.1.2 ≤ q.base) → W p l e R s m args below meth c H' locs' (cells + (s'.2.2.2.1 - h.1)) (slots + (s'.2.2.2.2.1 - h.2.1)) Q (F0 m s'.1 lsA' (s'.2.2.1.map (cv w)))) →
    W p l e R s m args below meth c H locs cells slots Q (F0 m pc lsA (st.map (cv w)))
/-- a step that makes nothing -/
def j_Stp (f pc : Nat) (ls : List (Option Value)) (st : List Value) (h : j_H) (s' : j_S) : Prop :=
  ∀ (w : j_W) (p : Program) (l : Launch) (e : Env) (R : Room) (s : State) (m : MethodId) (args : Array Value) (below : List Frame) (meth : Method) (c : Code) (d : Nat) (H : Heap) (locs : List Loc) (cells slots : Nat) (Q : State → Prop) (lsA : Array Slot),
    j_Fr w p R s m args meth c f d → j_Rel w s h H → j_L w ls lsA (j_ml f) → (∀ q ∈ locs, w.1.2 ≤ q.base) →
    (∀ (H' : Heap) (locs' : List Loc) (lsA' : Array Slot), j_Rel w s s'.2.2.2 H' → j_L w s'.2.1 lsA' (j_ml f) → (∀ q ∈ locs', w.1.2 ≤ q.base) → W p l e R s m args below meth c H' locs' cells slots Q (F0 m s'.1 lsA' (s'.2.2.1.map (cv w)))) →
    W p l e R s m args below meth c H locs cells slots Q (F0 m pc lsA (st.map (cv w)))
theorem j_Stp.step {f pc : Nat} {ls : List (Option Value)} {st : List Value} {h : j_H} {s' : j_S} (hk : j_Stp f pc ls st h s') (e1 : s'.2.2.2.1 = h.1) (e2 : s'.2.2.2.2.1 = h.2.1) : j_Step f pc ls st h s' := by
  refine ⟨⟨Nat.le_of_eq e1.symm, Nat.le_of_eq e2.symm⟩, ?_⟩
  intro w p l e R s m args below meth c d H locs cells slots Q lsA hF hR hL hlo _ _ kk
  refine hk w p l e R s m args below meth c d H locs cells slots Q lsA hF hR hL hlo (fun H' locs' lsA' a1 a2 a3 => ?_)
  have := kk H' locs' lsA' a1 a2 a3
  rw [e1, e2, Nat.sub_self, Nat.sub_self] at this
  exact this
def j_RetAt (f pc : Nat) (r : Option Value) : Prop := match r with
  | none => j_rt f = none ∧ decode (j_code f) pc = .ok (.return_, 1)
  | some (.int v) => decode (j_code f) pc = .ok (.ireturn, 1) ∧ (j_rt f = some .int ∨ (j_rt f = some .boolean ∧ (v = 0 ∨ v = 1)))
  | some (.long _) => j_rt f = some .long ∧ decode (j_code f) pc = .ok (.lreturn, 1)
  | _ => False
def j_ws (g : Nat) : List Cond := .code (j_y g) (j_code g) (j_ml g) (j_rt g) :: lw_tbl.filter goodWord
def j_rm (d mc ms : Nat) : Room := { frames := d + 1, cells := mc, slots := ms, locals := 64 * d + 64 }
def j_Pc (w : j_W) (h : j_H) (as : List Value) : Array Value → State → Prop := fun v U => v = (as.map (cv w)).toArray ∧ j_Rel w U h U.heap ∧ j_KC w U
/-- a call: of the picture, so of the machine -/
def j_Cal (f pc : Nat) (ls : List (Option Value)) (st : List Value) (h : j_H) (g : Nat) (as : List Value) (s' : j_S) : Prop :=
  g < 166 ∧ s'.1 = pc + 3 ∧ s'.2.1 = ls ∧ s'.2.2.2 = h ∧ (fl as).length ≤ j_ml g ∧ ∀ (w : j_W) (p : Program) (l : Launch) (e : Env) (R : Room) (s : State) (m : MethodId) (args : Array Value) (below : List Frame) (meth : Method) (c : Code) (d : Nat) (H : Heap) (locs : List Loc) (cells slots mc ms : Nat) (lsA : Array Slot) (Qc : Array Value → State → Outcome → State → Prop) (free : Addr → Prop),
    j_Fr w p R s m args meth c f (d + 1) → j_Rel w s h H → lsA.size = j_ml f → cells + mc ≤ R.cells → slots + ms ≤ R.slots → Met l (j_y g) (j_ws g) (j_rm d mc ms) (j_Pc w h as) Qc mc ms free →
    va_Run p l e R s m args below meth c H locs cells slots mc ms (F0 m pc lsA (st.map (cv w))) (s'.2.2.1.map (cv w)) (Qc (as.map (cv w)).toArray) free
def j_Snd (q : j_T × j_K) : Prop := ∀ (f pc : Nat) (o : j_O) (ls : List (Option Value)) (st : List Value) (h : j_H), q.2 f pc o = true → match q.1 o (pc, ls, st, h) with
  | none => True
  | some (.inl s') => j_Step f pc ls st h s'
  | some (.inr (.inl r)) => r.2 = h ∧ st = pu r.1 [] ∧ j_RetAt f pc r.1
  | some (.inr (.inr q)) => j_Cal f pc ls st h q.1 q.2.1 q.2.2

theorem z_iload : j_Snd (h_iload, c_iload) := by
  intro f pc o ls st h hc
  show match h_iload o (pc, ls, st, h) with | none => True | some (.inl s') => j_Step f pc ls st h s' | some (.inr (.inl r)) => r.2 = h ∧ st = pu r.1 [] ∧ j_RetAt f pc r.1 | some (.inr (.inr q)) => j_Cal f pc ls st h q.1 q.2.1 q.2.2
  simp only [h_iload]
  split <;> rename_i hm <;> split at hm
  all_goals first | trivial | (cases hm; done) | skip
  all_goals (first | (simp only [j_go] at hm; cases hm) | skip)
  rename_i v hv
  refine j_Stp.step ?_ rfl rfl
  intro w p l e R s m args below meth c d H locs cells slots Q lsA hF hR hL hlo kk
  have hg := hL.get hv
  simp only [c_iload, Bool.or_eq_true, Bool.and_eq_true, beq_iff_eq] at hc
  rcases hc with ⟨h1, h2⟩ | h1
  · exact lv_iload hF.1 hF.2.1 (j_dec h1) hg (by have := kk H locs lsA hR hL hlo; rw [h2] at this; exact this)
  · split at h1
    · rename_i hx
      simp only [Bool.and_eq_true, beq_iff_eq] at h1
      exact lv_iload_n hF.1 hF.2.1 (j_dec h1.1) rfl hg (by have := kk H locs lsA hR hL hlo; rw [h1.2] at this; exact this)
    · cases h1

theorem z_lload : j_Snd (h_lload, c_lload) := by
  intro f pc o ls st h hc
  show match h_lload o (pc, ls, st, h) with | none => True | some (.inl s') => j_Step f pc ls st h s' | some (.inr (.inl r)) => r.2 = h ∧ st = pu r.1 [] ∧ j_RetAt f pc r.1 | some (.inr (.inr q)) => j_Cal f pc ls st h q.1 q.2.1 q.2.2
  simp only [h_lload]
  split <;> rename_i hm <;> split at hm
  all_goals first | trivial | (cases hm; done) | skip
  all_goals (first | (simp only [j_go] at hm; cases hm) | skip)
  rename_i v hv
  refine j_Stp.step ?_ rfl rfl
  intro w p l e R s m args below meth c d H locs cells slots Q lsA hF hR hL hlo kk
  have hg := hL.get hv
  simp only [c_lload, Bool.or_eq_true, Bool.and_eq_true, beq_iff_eq] at hc
  rcases hc with ⟨h1, h2⟩ | h1
  · exact lv_lload hF.1 hF.2.1 (j_dec h1) hg (by have := kk H locs lsA hR hL hlo; rw [h2] at this; exact this)
  · split at h1
    · rename_i hx
      simp only [Bool.and_eq_true, beq_iff_eq] at h1
      exact lv_lload_n hF.1 hF.2.1 (j_dec h1.1) rfl hg (by have := kk H locs lsA hR hL hlo; rw [h1.2] at this; exact this)
    · cases h1

theorem z_aload : j_Snd (h_aload, c_aload) := by
  intro f pc o ls st h hc
  show match h_aload o (pc, ls, st, h) with | none => True | some (.inl s') => j_Step f pc ls st h s' | some (.inr (.inl r)) => r.2 = h ∧ st = pu r.1 [] ∧ j_RetAt f pc r.1 | some (.inr (.inr q)) => j_Cal f pc ls st h q.1 q.2.1 q.2.2
  simp only [h_aload]
  split <;> rename_i hm <;> split at hm
  all_goals first | trivial | (cases hm; done) | skip
  all_goals (first | (simp only [j_go] at hm; cases hm) | skip)
  rename_i v hv
  refine j_Stp.step ?_ rfl rfl
  intro w p l e R s m args below meth c d H locs cells slots Q lsA hF hR hL hlo kk
  have hg := hL.get hv
  simp only [c_aload, Bool.or_eq_true, Bool.and_eq_true, beq_iff_eq] at hc
  rcases hc with ⟨h1, h2⟩ | h1
  · exact lv_aload hF.1 hF.2.1 (j_dec h1) hg (by have := kk H locs lsA hR hL hlo; rw [h2] at this; exact this)
  · split at h1
    · rename_i hx
      simp only [Bool.and_eq_true, beq_iff_eq] at h1
      exact lv_aload_n hF.1 hF.2.1 (j_dec h1.1) rfl hg (by have := kk H locs lsA hR hL hlo; rw [h1.2] at this; exact this)
    · cases h1

theorem z_istore : j_Snd (h_istore, c_istore) := by
  intro f pc o ls st h hc
  show match (h_istore) o (pc, ls, st, h) with | none => True | some (.inl s') => j_Step f pc ls st h s' | some (.inr (.inl r)) => r.2 = h ∧ st = pu r.1 [] ∧ j_RetAt f pc r.1 | some (.inr (.inr q)) => j_Cal f pc ls st h q.1 q.2.1 q.2.2
  simp only [h_istore]
  split <;> rename_i hm <;> (repeat' split at hm)
  all_goals first | trivial | (cases hm; done) | skip
  all_goals (try simp only [j_go] at hm)
  all_goals cases hm
  refine j_Stp.step ?_ rfl rfl
  intro w p l e R s m args below meth c d H locs cells slots Q lsA hF hR hL hlo kk
  simp only [c_istore, Bool.or_eq_true, Bool.and_eq_true, beq_iff_eq, decide_eq_true_eq] at hc
  obtain ⟨hx, hc⟩ := hc
  rcases hc with ⟨h1, h2⟩ | h1
  · refine lv_istore hF.1 hF.2.1 (j_dec h1) hL.has hx rfl (fun ls' hl' => ?_)
    have := kk H locs ls' hR (j_L.sto hl') hlo
    rw [h2] at this
    exact this
  · split at h1
    · simp only [Bool.and_eq_true, beq_iff_eq] at h1
      refine lv_istore_n hF.1 hF.2.1 (j_dec h1.1) rfl hL.has hx rfl (fun ls' hl' => ?_)
      have := kk H locs ls' hR (j_L.sto hl') hlo
      rw [h1.2] at this
      exact this
    · cases h1

theorem z_lstore : j_Snd (h_lstore, c_lstore) := by
  intro f pc o ls st h hc
  show match (h_lstore) o (pc, ls, st, h) with | none => True | some (.inl s') => j_Step f pc ls st h s' | some (.inr (.inl r)) => r.2 = h ∧ st = pu r.1 [] ∧ j_RetAt f pc r.1 | some (.inr (.inr q)) => j_Cal f pc ls st h q.1 q.2.1 q.2.2
  simp only [h_lstore]
  split <;> rename_i hm <;> (repeat' split at hm)
  all_goals first | trivial | (cases hm; done) | skip
  all_goals (try simp only [j_go] at hm)
  all_goals cases hm
  refine j_Stp.step ?_ rfl rfl
  intro w p l e R s m args below meth c d H locs cells slots Q lsA hF hR hL hlo kk
  simp only [c_lstore, Bool.or_eq_true, Bool.and_eq_true, beq_iff_eq, decide_eq_true_eq] at hc
  obtain ⟨hx, hc⟩ := hc
  rcases hc with ⟨h1, h2⟩ | h1
  · refine lv_lstore hF.1 hF.2.1 (j_dec h1) hL.has hx rfl (fun ls' hl' => ?_)
    have := kk H locs ls' hR (j_L.st2 hl') hlo
    rw [h2] at this
    exact this
  · split at h1
    · simp only [Bool.and_eq_true, beq_iff_eq] at h1
      refine lv_lstore_n hF.1 hF.2.1 (j_dec h1.1) rfl hL.has hx rfl (fun ls' hl' => ?_)
      have := kk H locs ls' hR (j_L.st2 hl') hlo
      rw [h1.2] at this
      exact this
    · cases h1

theorem z_astore : j_Snd (h_astore, c_astore) := by
  intro f pc o ls st h hc
  show match (h_astore) o (pc, ls, st, h) with | none => True | some (.inl s') => j_Step f pc ls st h s' | some (.inr (.inl r)) => r.2 = h ∧ st = pu r.1 [] ∧ j_RetAt f pc r.1 | some (.inr (.inr q)) => j_Cal f pc ls st h q.1 q.2.1 q.2.2
  simp only [h_astore]
  split <;> rename_i hm <;> (repeat' split at hm)
  all_goals first | trivial | (cases hm; done) | skip
  all_goals (try simp only [j_go] at hm)
  all_goals cases hm
  refine j_Stp.step ?_ rfl rfl
  intro w p l e R s m args below meth c d H locs cells slots Q lsA hF hR hL hlo kk
  simp only [c_astore, Bool.or_eq_true, Bool.and_eq_true, beq_iff_eq, decide_eq_true_eq] at hc
  obtain ⟨hx, hc⟩ := hc
  rcases hc with ⟨h1, h2⟩ | h1
  · refine lv_astore hF.1 hF.2.1 (j_dec h1) hL.has hx rfl (fun ls' hl' => ?_)
    have := kk H locs ls' hR (j_L.sto hl') hlo
    rw [h2] at this
    exact this
  · split at h1
    · simp only [Bool.and_eq_true, beq_iff_eq] at h1
      refine lv_astore_n hF.1 hF.2.1 (j_dec h1.1) rfl hL.has hx rfl (fun ls' hl' => ?_)
      have := kk H locs ls' hR (j_L.sto hl') hlo
      rw [h1.2] at this
      exact this
    · cases h1

theorem z_iinc : j_Snd (h_iinc, c_iinc) := by
  intro f pc o ls st h hc
  show match (h_iinc) o (pc, ls, st, h) with | none => True | some (.inl s') => j_Step f pc ls st h s' | some (.inr (.inl r)) => r.2 = h ∧ st = pu r.1 [] ∧ j_RetAt f pc r.1 | some (.inr (.inr q)) => j_Cal f pc ls st h q.1 q.2.1 q.2.2
  simp only [h_iinc]
  split <;> rename_i hm <;> (repeat' split at hm)
  all_goals first | trivial | (cases hm; done) | skip
  all_goals (try simp only [j_go] at hm)
  all_goals cases hm
  rename_i v hv
  refine j_Stp.step ?_ rfl rfl
  intro w p l e R s m args below meth c d H locs cells slots Q lsA hF hR hL hlo kk
  simp only [c_iinc, Bool.and_eq_true, beq_iff_eq, decide_eq_true_eq] at hc
  obtain ⟨⟨hx, h1⟩, h2⟩ := hc
  obtain ⟨k, hk⟩ := List.getElem?_of_mem ((j_kn_mem w ls 0 (j_x o, cv w (.int v))).mpr ⟨j_x o, v |> Value.int, hv, by simp⟩)
  refine lv_iinc hF.1 hF.2.1 (j_dec h1) hL.has hk rfl hx rfl (fun ls' hl' => ?_)
  have := kk H locs ls' hR (j_L.sto hl') hlo
  rw [h2] at this
  exact this

theorem z_pushi : j_Snd (h_pushi, c_pushi) := by
  intro f pc o ls st h hc
  refine j_Stp.step ?_ rfl rfl
  intro w p l e R s m args below meth c d H locs cells slots Q lsA hF hR hL hlo kk
  have k2 := kk H locs lsA hR hL hlo
  simp only [c_pushi, Bool.or_eq_true, Bool.and_eq_true, beq_iff_eq, decide_eq_true_eq] at hc
  rcases hc with ⟨h1, h2⟩ | ⟨⟨h1, h2⟩, h3⟩ | ⟨⟨h1, h2⟩, h3⟩ | ⟨⟨h1, h2⟩, h3⟩ | ⟨⟨h1, h2⟩, h3⟩
  · exact lv_iconst hF.1 hF.2.1 (j_dec h1) rfl (by rw [h2] at k2; exact k2)
  · exact lv_bipush hF.1 hF.2.1 (j_dec h1) h3 (by rw [h2] at k2; exact k2)
  · exact lv_sipush hF.1 hF.2.1 (j_dec h1) h3 (by rw [h2] at k2; exact k2)
  · exact lv_ldc hF.1 hF.2.1 hF.2.2.2.1 (j_word hF h3 rfl) (j_dec h1) (by rw [h2] at k2; exact k2)
  · exact lv_ldcw hF.1 hF.2.1 hF.2.2.2.1 (j_word hF h3 rfl) (j_dec h1) (by rw [h2] at k2; exact k2)
theorem z_pushl : j_Snd (h_pushl, c_pushl) := by
  intro f pc o ls st h hc
  refine j_Stp.step ?_ rfl rfl
  intro w p l e R s m args below meth c d H locs cells slots Q lsA hF hR hL hlo kk
  have k2 := kk H locs lsA hR hL hlo
  simp only [c_pushl, Bool.or_eq_true, Bool.and_eq_true, beq_iff_eq, decide_eq_true_eq] at hc
  rcases hc with h1 | ⟨⟨h1, h2⟩, h3⟩
  · split at h1
    · simp only [Bool.and_eq_true, beq_iff_eq, decide_eq_true_eq] at h1
      exact lv_lconst hF.1 hF.2.1 (j_dec h1.1.1) h1.2 (by rw [h1.1.2] at k2; exact k2)
    · cases h1
  · exact lv_ldc2 hF.1 hF.2.1 hF.2.2.2.1 (j_word hF h3 rfl) (j_dec h1) (by rw [h2] at k2; exact k2)

theorem z_iadd : j_Snd (h_i2 (fun x y => x + y), c_one .iadd) := by
  intro f pc o ls st h hc
  show match (h_i2 (fun x y => x + y)) o (pc, ls, st, h) with | none => True | some (.inl s') => j_Step f pc ls st h s' | some (.inr (.inl r)) => r.2 = h ∧ st = pu r.1 [] ∧ j_RetAt f pc r.1 | some (.inr (.inr q)) => j_Cal f pc ls st h q.1 q.2.1 q.2.2
  simp only [h_i2]
  split <;> rename_i hm <;> (repeat' split at hm)
  all_goals first | trivial | (cases hm; done) | skip
  all_goals (try simp only [j_go] at hm)
  all_goals cases hm
  refine j_Stp.step ?_ rfl rfl
  intro w p l e R s m args below meth c d H locs cells slots Q lsA hF hR hL hlo kk
  have k2 := kk H locs lsA hR hL hlo
  simp only [c_one, Bool.and_eq_true, beq_iff_eq] at hc
  rw [hc.2] at k2
  exact lv_iadd hF.1 hF.2.1 (j_dec hc.1) k2

theorem z_isub : j_Snd (h_i2 (fun x y => x - y), c_one .isub) := by
  intro f pc o ls st h hc
  show match (h_i2 (fun x y => x - y)) o (pc, ls, st, h) with | none => True | some (.inl s') => j_Step f pc ls st h s' | some (.inr (.inl r)) => r.2 = h ∧ st = pu r.1 [] ∧ j_RetAt f pc r.1 | some (.inr (.inr q)) => j_Cal f pc ls st h q.1 q.2.1 q.2.2
  simp only [h_i2]
  split <;> rename_i hm <;> (repeat' split at hm)
  all_goals first | trivial | (cases hm; done) | skip
  all_goals (try simp only [j_go] at hm)
  all_goals cases hm
  refine j_Stp.step ?_ rfl rfl
  intro w p l e R s m args below meth c d H locs cells slots Q lsA hF hR hL hlo kk
  have k2 := kk H locs lsA hR hL hlo
  simp only [c_one, Bool.and_eq_true, beq_iff_eq] at hc
  rw [hc.2] at k2
  exact lv_isub hF.1 hF.2.1 (j_dec hc.1) k2

theorem z_imul : j_Snd (h_i2 (fun x y => x * y), c_one .imul) := by
  intro f pc o ls st h hc
  show match (h_i2 (fun x y => x * y)) o (pc, ls, st, h) with | none => True | some (.inl s') => j_Step f pc ls st h s' | some (.inr (.inl r)) => r.2 = h ∧ st = pu r.1 [] ∧ j_RetAt f pc r.1 | some (.inr (.inr q)) => j_Cal f pc ls st h q.1 q.2.1 q.2.2
  simp only [h_i2]
  split <;> rename_i hm <;> (repeat' split at hm)
  all_goals first | trivial | (cases hm; done) | skip
  all_goals (try simp only [j_go] at hm)
  all_goals cases hm
  refine j_Stp.step ?_ rfl rfl
  intro w p l e R s m args below meth c d H locs cells slots Q lsA hF hR hL hlo kk
  have k2 := kk H locs lsA hR hL hlo
  simp only [c_one, Bool.and_eq_true, beq_iff_eq] at hc
  rw [hc.2] at k2
  exact lv_imul hF.1 hF.2.1 (j_dec hc.1) k2

theorem z_iand : j_Snd (h_i2 (fun x y => x &&& y), c_one .iand) := by
  intro f pc o ls st h hc
  show match (h_i2 (fun x y => x &&& y)) o (pc, ls, st, h) with | none => True | some (.inl s') => j_Step f pc ls st h s' | some (.inr (.inl r)) => r.2 = h ∧ st = pu r.1 [] ∧ j_RetAt f pc r.1 | some (.inr (.inr q)) => j_Cal f pc ls st h q.1 q.2.1 q.2.2
  simp only [h_i2]
  split <;> rename_i hm <;> (repeat' split at hm)
  all_goals first | trivial | (cases hm; done) | skip
  all_goals (try simp only [j_go] at hm)
  all_goals cases hm
  refine j_Stp.step ?_ rfl rfl
  intro w p l e R s m args below meth c d H locs cells slots Q lsA hF hR hL hlo kk
  have k2 := kk H locs lsA hR hL hlo
  simp only [c_one, Bool.and_eq_true, beq_iff_eq] at hc
  rw [hc.2] at k2
  exact lv_iand hF.1 hF.2.1 (j_dec hc.1) k2

theorem z_ior : j_Snd (h_i2 (fun x y => x ||| y), c_one .ior) := by
  intro f pc o ls st h hc
  show match (h_i2 (fun x y => x ||| y)) o (pc, ls, st, h) with | none => True | some (.inl s') => j_Step f pc ls st h s' | some (.inr (.inl r)) => r.2 = h ∧ st = pu r.1 [] ∧ j_RetAt f pc r.1 | some (.inr (.inr q)) => j_Cal f pc ls st h q.1 q.2.1 q.2.2
  simp only [h_i2]
  split <;> rename_i hm <;> (repeat' split at hm)
  all_goals first | trivial | (cases hm; done) | skip
  all_goals (try simp only [j_go] at hm)
  all_goals cases hm
  refine j_Stp.step ?_ rfl rfl
  intro w p l e R s m args below meth c d H locs cells slots Q lsA hF hR hL hlo kk
  have k2 := kk H locs lsA hR hL hlo
  simp only [c_one, Bool.and_eq_true, beq_iff_eq] at hc
  rw [hc.2] at k2
  exact lv_ior hF.1 hF.2.1 (j_dec hc.1) k2

theorem z_ixor : j_Snd (h_i2 (fun x y => x ^^^ y), c_one .ixor) := by
  intro f pc o ls st h hc
  show match (h_i2 (fun x y => x ^^^ y)) o (pc, ls, st, h) with | none => True | some (.inl s') => j_Step f pc ls st h s' | some (.inr (.inl r)) => r.2 = h ∧ st = pu r.1 [] ∧ j_RetAt f pc r.1 | some (.inr (.inr q)) => j_Cal f pc ls st h q.1 q.2.1 q.2.2
  simp only [h_i2]
  split <;> rename_i hm <;> (repeat' split at hm)
  all_goals first | trivial | (cases hm; done) | skip
  all_goals (try simp only [j_go] at hm)
  all_goals cases hm
  refine j_Stp.step ?_ rfl rfl
  intro w p l e R s m args below meth c d H locs cells slots Q lsA hF hR hL hlo kk
  have k2 := kk H locs lsA hR hL hlo
  simp only [c_one, Bool.and_eq_true, beq_iff_eq] at hc
  rw [hc.2] at k2
  exact lv_ixor hF.1 hF.2.1 (j_dec hc.1) k2

theorem z_ishl : j_Snd (h_i2 (fun x y => x <<< (y &&& 31)), c_one .ishl) := by
  intro f pc o ls st h hc
  show match (h_i2 (fun x y => x <<< (y &&& 31))) o (pc, ls, st, h) with | none => True | some (.inl s') => j_Step f pc ls st h s' | some (.inr (.inl r)) => r.2 = h ∧ st = pu r.1 [] ∧ j_RetAt f pc r.1 | some (.inr (.inr q)) => j_Cal f pc ls st h q.1 q.2.1 q.2.2
  simp only [h_i2]
  split <;> rename_i hm <;> (repeat' split at hm)
  all_goals first | trivial | (cases hm; done) | skip
  all_goals (try simp only [j_go] at hm)
  all_goals cases hm
  refine j_Stp.step ?_ rfl rfl
  intro w p l e R s m args below meth c d H locs cells slots Q lsA hF hR hL hlo kk
  have k2 := kk H locs lsA hR hL hlo
  simp only [c_one, Bool.and_eq_true, beq_iff_eq] at hc
  rw [hc.2] at k2
  exact lv_ishl hF.1 hF.2.1 (j_dec hc.1) k2

theorem z_ishr : j_Snd (h_i2 (fun x y => x >>> (y &&& 31)), c_one .ishr) := by
  intro f pc o ls st h hc
  show match (h_i2 (fun x y => x >>> (y &&& 31))) o (pc, ls, st, h) with | none => True | some (.inl s') => j_Step f pc ls st h s' | some (.inr (.inl r)) => r.2 = h ∧ st = pu r.1 [] ∧ j_RetAt f pc r.1 | some (.inr (.inr q)) => j_Cal f pc ls st h q.1 q.2.1 q.2.2
  simp only [h_i2]
  split <;> rename_i hm <;> (repeat' split at hm)
  all_goals first | trivial | (cases hm; done) | skip
  all_goals (try simp only [j_go] at hm)
  all_goals cases hm
  refine j_Stp.step ?_ rfl rfl
  intro w p l e R s m args below meth c d H locs cells slots Q lsA hF hR hL hlo kk
  have k2 := kk H locs lsA hR hL hlo
  simp only [c_one, Bool.and_eq_true, beq_iff_eq] at hc
  rw [hc.2] at k2
  exact lv_ishr hF.1 hF.2.1 (j_dec hc.1) k2

theorem z_iushr : j_Snd (h_i2 (fun x y => (x.toUInt32 >>> (y.toUInt32 &&& Int32.toUInt32 31)).toInt32), c_one .iushr) := by
  intro f pc o ls st h hc
  show match (h_i2 (fun x y => (x.toUInt32 >>> (y.toUInt32 &&& Int32.toUInt32 31)).toInt32)) o (pc, ls, st, h) with | none => True | some (.inl s') => j_Step f pc ls st h s' | some (.inr (.inl r)) => r.2 = h ∧ st = pu r.1 [] ∧ j_RetAt f pc r.1 | some (.inr (.inr q)) => j_Cal f pc ls st h q.1 q.2.1 q.2.2
  simp only [h_i2]
  split <;> rename_i hm <;> (repeat' split at hm)
  all_goals first | trivial | (cases hm; done) | skip
  all_goals (try simp only [j_go] at hm)
  all_goals cases hm
  refine j_Stp.step ?_ rfl rfl
  intro w p l e R s m args below meth c d H locs cells slots Q lsA hF hR hL hlo kk
  have k2 := kk H locs lsA hR hL hlo
  simp only [c_one, Bool.and_eq_true, beq_iff_eq] at hc
  rw [hc.2] at k2
  exact lv_iushr hF.1 hF.2.1 (j_dec hc.1) rfl k2

theorem z_ineg : j_Snd (h_i1 (fun x => -x), c_one .ineg) := by
  intro f pc o ls st h hc
  show match (h_i1 (fun x => -x)) o (pc, ls, st, h) with | none => True | some (.inl s') => j_Step f pc ls st h s' | some (.inr (.inl r)) => r.2 = h ∧ st = pu r.1 [] ∧ j_RetAt f pc r.1 | some (.inr (.inr q)) => j_Cal f pc ls st h q.1 q.2.1 q.2.2
  simp only [h_i1]
  split <;> rename_i hm <;> (repeat' split at hm)
  all_goals first | trivial | (cases hm; done) | skip
  all_goals (try simp only [j_go] at hm)
  all_goals cases hm
  refine j_Stp.step ?_ rfl rfl
  intro w p l e R s m args below meth c d H locs cells slots Q lsA hF hR hL hlo kk
  have k2 := kk H locs lsA hR hL hlo
  simp only [c_one, Bool.and_eq_true, beq_iff_eq] at hc
  rw [hc.2] at k2
  exact lv_ineg hF.1 hF.2.1 (j_dec hc.1) k2

theorem z_ladd : j_Snd (h_l2 (fun x y => x + y), c_one .ladd) := by
  intro f pc o ls st h hc
  show match (h_l2 (fun x y => x + y)) o (pc, ls, st, h) with | none => True | some (.inl s') => j_Step f pc ls st h s' | some (.inr (.inl r)) => r.2 = h ∧ st = pu r.1 [] ∧ j_RetAt f pc r.1 | some (.inr (.inr q)) => j_Cal f pc ls st h q.1 q.2.1 q.2.2
  simp only [h_l2]
  split <;> rename_i hm <;> (repeat' split at hm)
  all_goals first | trivial | (cases hm; done) | skip
  all_goals (try simp only [j_go] at hm)
  all_goals cases hm
  refine j_Stp.step ?_ rfl rfl
  intro w p l e R s m args below meth c d H locs cells slots Q lsA hF hR hL hlo kk
  have k2 := kk H locs lsA hR hL hlo
  simp only [c_one, Bool.and_eq_true, beq_iff_eq] at hc
  rw [hc.2] at k2
  exact lv_ladd hF.1 hF.2.1 (j_dec hc.1) k2

theorem z_lsub : j_Snd (h_l2 (fun x y => x - y), c_one .lsub) := by
  intro f pc o ls st h hc
  show match (h_l2 (fun x y => x - y)) o (pc, ls, st, h) with | none => True | some (.inl s') => j_Step f pc ls st h s' | some (.inr (.inl r)) => r.2 = h ∧ st = pu r.1 [] ∧ j_RetAt f pc r.1 | some (.inr (.inr q)) => j_Cal f pc ls st h q.1 q.2.1 q.2.2
  simp only [h_l2]
  split <;> rename_i hm <;> (repeat' split at hm)
  all_goals first | trivial | (cases hm; done) | skip
  all_goals (try simp only [j_go] at hm)
  all_goals cases hm
  refine j_Stp.step ?_ rfl rfl
  intro w p l e R s m args below meth c d H locs cells slots Q lsA hF hR hL hlo kk
  have k2 := kk H locs lsA hR hL hlo
  simp only [c_one, Bool.and_eq_true, beq_iff_eq] at hc
  rw [hc.2] at k2
  exact lv_lsub hF.1 hF.2.1 (j_dec hc.1) k2

theorem z_lmul : j_Snd (h_l2 (fun x y => x * y), c_one .lmul) := by
  intro f pc o ls st h hc
  show match (h_l2 (fun x y => x * y)) o (pc, ls, st, h) with | none => True | some (.inl s') => j_Step f pc ls st h s' | some (.inr (.inl r)) => r.2 = h ∧ st = pu r.1 [] ∧ j_RetAt f pc r.1 | some (.inr (.inr q)) => j_Cal f pc ls st h q.1 q.2.1 q.2.2
  simp only [h_l2]
  split <;> rename_i hm <;> (repeat' split at hm)
  all_goals first | trivial | (cases hm; done) | skip
  all_goals (try simp only [j_go] at hm)
  all_goals cases hm
  refine j_Stp.step ?_ rfl rfl
  intro w p l e R s m args below meth c d H locs cells slots Q lsA hF hR hL hlo kk
  have k2 := kk H locs lsA hR hL hlo
  simp only [c_one, Bool.and_eq_true, beq_iff_eq] at hc
  rw [hc.2] at k2
  exact lv_lmul hF.1 hF.2.1 (j_dec hc.1) k2

theorem z_lneg : j_Snd (h_l1 (fun x => -x), c_one .lneg) := by
  intro f pc o ls st h hc
  show match (h_l1 (fun x => -x)) o (pc, ls, st, h) with | none => True | some (.inl s') => j_Step f pc ls st h s' | some (.inr (.inl r)) => r.2 = h ∧ st = pu r.1 [] ∧ j_RetAt f pc r.1 | some (.inr (.inr q)) => j_Cal f pc ls st h q.1 q.2.1 q.2.2
  simp only [h_l1]
  split <;> rename_i hm <;> (repeat' split at hm)
  all_goals first | trivial | (cases hm; done) | skip
  all_goals (try simp only [j_go] at hm)
  all_goals cases hm
  refine j_Stp.step ?_ rfl rfl
  intro w p l e R s m args below meth c d H locs cells slots Q lsA hF hR hL hlo kk
  have k2 := kk H locs lsA hR hL hlo
  simp only [c_one, Bool.and_eq_true, beq_iff_eq] at hc
  rw [hc.2] at k2
  exact lv_lneg hF.1 hF.2.1 (j_dec hc.1) k2

theorem z_lcmp : j_Snd (h_lcmp, c_one .lcmp) := by
  intro f pc o ls st h hc
  show match (h_lcmp) o (pc, ls, st, h) with | none => True | some (.inl s') => j_Step f pc ls st h s' | some (.inr (.inl r)) => r.2 = h ∧ st = pu r.1 [] ∧ j_RetAt f pc r.1 | some (.inr (.inr q)) => j_Cal f pc ls st h q.1 q.2.1 q.2.2
  simp only [h_lcmp]
  split <;> rename_i hm <;> (repeat' split at hm)
  all_goals first | trivial | (cases hm; done) | skip
  all_goals (try simp only [j_go] at hm)
  all_goals cases hm
  refine j_Stp.step ?_ rfl rfl
  intro w p l e R s m args below meth c d H locs cells slots Q lsA hF hR hL hlo kk
  have k2 := kk H locs lsA hR hL hlo
  simp only [c_one, Bool.and_eq_true, beq_iff_eq] at hc
  rw [hc.2] at k2
  exact W.lcmp hF.1 hF.2.1 (j_dec hc.1) k2

theorem z_i2l : j_Snd (h_i2l, c_one .i2l) := by
  intro f pc o ls st h hc
  show match (h_i2l) o (pc, ls, st, h) with | none => True | some (.inl s') => j_Step f pc ls st h s' | some (.inr (.inl r)) => r.2 = h ∧ st = pu r.1 [] ∧ j_RetAt f pc r.1 | some (.inr (.inr q)) => j_Cal f pc ls st h q.1 q.2.1 q.2.2
  simp only [h_i2l]
  split <;> rename_i hm <;> (repeat' split at hm)
  all_goals first | trivial | (cases hm; done) | skip
  all_goals (try simp only [j_go] at hm)
  all_goals cases hm
  refine j_Stp.step ?_ rfl rfl
  intro w p l e R s m args below meth c d H locs cells slots Q lsA hF hR hL hlo kk
  have k2 := kk H locs lsA hR hL hlo
  simp only [c_one, Bool.and_eq_true, beq_iff_eq] at hc
  rw [hc.2] at k2
  exact lv_i2l hF.1 hF.2.1 (j_dec hc.1) rfl k2

theorem z_l2i : j_Snd (h_l2i, c_one .l2i) := by
  intro f pc o ls st h hc
  show match (h_l2i) o (pc, ls, st, h) with | none => True | some (.inl s') => j_Step f pc ls st h s' | some (.inr (.inl r)) => r.2 = h ∧ st = pu r.1 [] ∧ j_RetAt f pc r.1 | some (.inr (.inr q)) => j_Cal f pc ls st h q.1 q.2.1 q.2.2
  simp only [h_l2i]
  split <;> rename_i hm <;> (repeat' split at hm)
  all_goals first | trivial | (cases hm; done) | skip
  all_goals (try simp only [j_go] at hm)
  all_goals cases hm
  refine j_Stp.step ?_ rfl rfl
  intro w p l e R s m args below meth c d H locs cells slots Q lsA hF hR hL hlo kk
  have k2 := kk H locs lsA hR hL hlo
  simp only [c_one, Bool.and_eq_true, beq_iff_eq] at hc
  rw [hc.2] at k2
  exact lv_l2i hF.1 hF.2.1 (j_dec hc.1) rfl k2

theorem z_idiv : j_Snd (h_i2n (fun x y => x / y), c_one .idiv) := by
  intro f pc o ls st h hc
  show match (h_i2n (fun x y => x / y)) o (pc, ls, st, h) with | none => True | some (.inl s') => j_Step f pc ls st h s' | some (.inr (.inl r)) => r.2 = h ∧ st = pu r.1 [] ∧ j_RetAt f pc r.1 | some (.inr (.inr q)) => j_Cal f pc ls st h q.1 q.2.1 q.2.2
  simp only [h_i2n]
  split <;> rename_i hm <;> (repeat' split at hm)
  all_goals first | trivial | (cases hm; done) | skip
  all_goals (try simp only [j_go] at hm)
  all_goals cases hm
  rename_i hne
  refine j_Stp.step ?_ rfl rfl
  intro w p l e R s m args below meth c d H locs cells slots Q lsA hF hR hL hlo kk
  have k2 := kk H locs lsA hR hL hlo
  simp only [c_one, Bool.and_eq_true, beq_iff_eq] at hc
  rw [hc.2] at k2
  exact lv_idiv hF.1 hF.2.1 (j_dec hc.1) hne k2

theorem z_irem : j_Snd (h_i2n (fun x y => x - x / y * y), c_one .irem) := by
  intro f pc o ls st h hc
  show match (h_i2n (fun x y => x - x / y * y)) o (pc, ls, st, h) with | none => True | some (.inl s') => j_Step f pc ls st h s' | some (.inr (.inl r)) => r.2 = h ∧ st = pu r.1 [] ∧ j_RetAt f pc r.1 | some (.inr (.inr q)) => j_Cal f pc ls st h q.1 q.2.1 q.2.2
  simp only [h_i2n]
  split <;> rename_i hm <;> (repeat' split at hm)
  all_goals first | trivial | (cases hm; done) | skip
  all_goals (try simp only [j_go] at hm)
  all_goals cases hm
  rename_i hne
  refine j_Stp.step ?_ rfl rfl
  intro w p l e R s m args below meth c d H locs cells slots Q lsA hF hR hL hlo kk
  have k2 := kk H locs lsA hR hL hlo
  simp only [c_one, Bool.and_eq_true, beq_iff_eq] at hc
  rw [hc.2] at k2
  exact lv_irem hF.1 hF.2.1 (j_dec hc.1) hne k2

theorem z_ldiv : j_Snd (h_l2n (fun x y => x / y), c_one .ldiv) := by
  intro f pc o ls st h hc
  show match (h_l2n (fun x y => x / y)) o (pc, ls, st, h) with | none => True | some (.inl s') => j_Step f pc ls st h s' | some (.inr (.inl r)) => r.2 = h ∧ st = pu r.1 [] ∧ j_RetAt f pc r.1 | some (.inr (.inr q)) => j_Cal f pc ls st h q.1 q.2.1 q.2.2
  simp only [h_l2n]
  split <;> rename_i hm <;> (repeat' split at hm)
  all_goals first | trivial | (cases hm; done) | skip
  all_goals (try simp only [j_go] at hm)
  all_goals cases hm
  rename_i hne
  refine j_Stp.step ?_ rfl rfl
  intro w p l e R s m args below meth c d H locs cells slots Q lsA hF hR hL hlo kk
  have k2 := kk H locs lsA hR hL hlo
  simp only [c_one, Bool.and_eq_true, beq_iff_eq] at hc
  rw [hc.2] at k2
  exact lv_ldiv hF.1 hF.2.1 (j_dec hc.1) hne k2

theorem z_lrem : j_Snd (h_l2n (fun x y => x - x / y * y), c_one .lrem) := by
  intro f pc o ls st h hc
  show match (h_l2n (fun x y => x - x / y * y)) o (pc, ls, st, h) with | none => True | some (.inl s') => j_Step f pc ls st h s' | some (.inr (.inl r)) => r.2 = h ∧ st = pu r.1 [] ∧ j_RetAt f pc r.1 | some (.inr (.inr q)) => j_Cal f pc ls st h q.1 q.2.1 q.2.2
  simp only [h_l2n]
  split <;> rename_i hm <;> (repeat' split at hm)
  all_goals first | trivial | (cases hm; done) | skip
  all_goals (try simp only [j_go] at hm)
  all_goals cases hm
  rename_i hne
  refine j_Stp.step ?_ rfl rfl
  intro w p l e R s m args below meth c d H locs cells slots Q lsA hF hR hL hlo kk
  have k2 := kk H locs lsA hR hL hlo
  simp only [c_one, Bool.and_eq_true, beq_iff_eq] at hc
  rw [hc.2] at k2
  exact lv_lrem hF.1 hF.2.1 (j_dec hc.1) hne k2

theorem z_dup : j_Snd (h_dup, c_one .dup) := by
  intro f pc o ls st h hc
  show match (h_dup) o (pc, ls, st, h) with | none => True | some (.inl s') => j_Step f pc ls st h s' | some (.inr (.inl r)) => r.2 = h ∧ st = pu r.1 [] ∧ j_RetAt f pc r.1 | some (.inr (.inr q)) => j_Cal f pc ls st h q.1 q.2.1 q.2.2
  simp only [h_dup]
  split <;> rename_i hm <;> (repeat' split at hm)
  all_goals first | trivial | (cases hm; done) | skip
  all_goals (try simp only [j_go] at hm)
  all_goals cases hm
  all_goals
    refine j_Stp.step ?_ rfl rfl
    intro w p l e R s m args below meth c d H locs cells slots Q lsA hF hR hL hlo kk
    have k2 := kk H locs lsA hR hL hlo
    simp only [c_one, Bool.and_eq_true, beq_iff_eq] at hc
    rw [hc.2] at k2
    exact lv_dup hF.1 hF.2.1 (j_dec hc.1) rfl k2

theorem z_pop : j_Snd (h_pop, c_one .pop) := by
  intro f pc o ls st h hc
  show match (h_pop) o (pc, ls, st, h) with | none => True | some (.inl s') => j_Step f pc ls st h s' | some (.inr (.inl r)) => r.2 = h ∧ st = pu r.1 [] ∧ j_RetAt f pc r.1 | some (.inr (.inr q)) => j_Cal f pc ls st h q.1 q.2.1 q.2.2
  simp only [h_pop]
  split <;> rename_i hm <;> (repeat' split at hm)
  all_goals first | trivial | (cases hm; done) | skip
  all_goals (try simp only [j_go] at hm)
  all_goals cases hm
  all_goals
    refine j_Stp.step ?_ rfl rfl
    intro w p l e R s m args below meth c d H locs cells slots Q lsA hF hR hL hlo kk
    have k2 := kk H locs lsA hR hL hlo
    simp only [c_one, Bool.and_eq_true, beq_iff_eq] at hc
    rw [hc.2] at k2
    exact lv_pop hF.1 hF.2.1 (j_dec hc.1) rfl k2

theorem z_dup2 : j_Snd (h_dup2, c_one .dup2) := by
  intro f pc o ls st h hc
  show match (h_dup2) o (pc, ls, st, h) with | none => True | some (.inl s') => j_Step f pc ls st h s' | some (.inr (.inl r)) => r.2 = h ∧ st = pu r.1 [] ∧ j_RetAt f pc r.1 | some (.inr (.inr q)) => j_Cal f pc ls st h q.1 q.2.1 q.2.2
  simp only [h_dup2]
  split <;> rename_i hm <;> (repeat' split at hm)
  all_goals first | trivial | (cases hm; done) | skip
  all_goals (try simp only [j_go] at hm)
  all_goals cases hm
  all_goals
    refine j_Stp.step ?_ rfl rfl
    intro w p l e R s m args below meth c d H locs cells slots Q lsA hF hR hL hlo kk
    have k2 := kk H locs lsA hR hL hlo
    simp only [c_one, Bool.and_eq_true, beq_iff_eq] at hc
    rw [hc.2] at k2
    first | exact lv_dup2_11 hF.1 hF.2.1 (j_dec hc.1) rfl rfl k2 | exact lv_dup2_2 hF.1 hF.2.1 (j_dec hc.1) rfl k2

theorem z_if_eq : j_Snd (h_if (fun x => decide (x = 0)), c_jmp (.ifCond .eq)) := by
  intro f pc o ls st h hc
  show match (h_if (fun x => decide (x = 0))) o (pc, ls, st, h) with | none => True | some (.inl s') => j_Step f pc ls st h s' | some (.inr (.inl r)) => r.2 = h ∧ st = pu r.1 [] ∧ j_RetAt f pc r.1 | some (.inr (.inr q)) => j_Cal f pc ls st h q.1 q.2.1 q.2.2
  simp only [h_if]
  split <;> rename_i hm <;> (repeat' split at hm)
  all_goals first | trivial | (cases hm; done) | skip
  all_goals cases hm
  all_goals
    rename_i hcd
    refine j_Stp.step ?_ rfl rfl
    intro w p l e R s m args below meth c d H locs cells slots Q lsA hF hR hL hlo kk
    have k2 := kk H locs lsA hR hL hlo
    simp only [c_jmp, Bool.and_eq_true, beq_iff_eq, decide_eq_true_eq] at hc hcd
    refine lv_if_eq (tgt := j_x o) hF.1 hF.2.1 (j_dec hc.1.1) hc.2 (fun q => ?_) (fun q => ?_) <;> first | exact k2 | (rw [hc.1.2] at k2; exact k2) | exact absurd q hcd | exact absurd hcd q | exact absurd (by simpa using hcd) q

theorem z_icmp_eq : j_Snd (h_cmp (fun x y => decide (x = y)), c_jmp (.if_icmp .eq)) := by
  intro f pc o ls st h hc
  show match (h_cmp (fun x y => decide (x = y))) o (pc, ls, st, h) with | none => True | some (.inl s') => j_Step f pc ls st h s' | some (.inr (.inl r)) => r.2 = h ∧ st = pu r.1 [] ∧ j_RetAt f pc r.1 | some (.inr (.inr q)) => j_Cal f pc ls st h q.1 q.2.1 q.2.2
  simp only [h_cmp]
  split <;> rename_i hm <;> (repeat' split at hm)
  all_goals first | trivial | (cases hm; done) | skip
  all_goals cases hm
  all_goals
    rename_i hcd
    refine j_Stp.step ?_ rfl rfl
    intro w p l e R s m args below meth c d H locs cells slots Q lsA hF hR hL hlo kk
    have k2 := kk H locs lsA hR hL hlo
    simp only [c_jmp, Bool.and_eq_true, beq_iff_eq, decide_eq_true_eq] at hc hcd
    refine lv_icmp_eq (tgt := j_x o) hF.1 hF.2.1 (j_dec hc.1.1) hc.2 (fun q => ?_) (fun q => ?_) <;> first | exact k2 | (rw [hc.1.2] at k2; exact k2) | exact absurd q hcd | exact absurd hcd q | exact absurd (by simpa using hcd) q

theorem z_if_ne : j_Snd (h_if (fun x => decide (¬ x = 0)), c_jmp (.ifCond .ne)) := by
  intro f pc o ls st h hc
  show match (h_if (fun x => decide (¬ x = 0))) o (pc, ls, st, h) with | none => True | some (.inl s') => j_Step f pc ls st h s' | some (.inr (.inl r)) => r.2 = h ∧ st = pu r.1 [] ∧ j_RetAt f pc r.1 | some (.inr (.inr q)) => j_Cal f pc ls st h q.1 q.2.1 q.2.2
  simp only [h_if]
  split <;> rename_i hm <;> (repeat' split at hm)
  all_goals first | trivial | (cases hm; done) | skip
  all_goals cases hm
  all_goals
    rename_i hcd
    refine j_Stp.step ?_ rfl rfl
    intro w p l e R s m args below meth c d H locs cells slots Q lsA hF hR hL hlo kk
    have k2 := kk H locs lsA hR hL hlo
    simp only [c_jmp, Bool.and_eq_true, beq_iff_eq, decide_eq_true_eq] at hc hcd
    refine lv_if_ne (tgt := j_x o) hF.1 hF.2.1 (j_dec hc.1.1) hc.2 (fun q => ?_) (fun q => ?_) <;> first | exact k2 | (rw [hc.1.2] at k2; exact k2) | exact absurd q hcd | exact absurd hcd q | exact absurd (by simpa using hcd) q

theorem z_icmp_ne : j_Snd (h_cmp (fun x y => decide (¬ x = y)), c_jmp (.if_icmp .ne)) := by
  intro f pc o ls st h hc
  show match (h_cmp (fun x y => decide (¬ x = y))) o (pc, ls, st, h) with | none => True | some (.inl s') => j_Step f pc ls st h s' | some (.inr (.inl r)) => r.2 = h ∧ st = pu r.1 [] ∧ j_RetAt f pc r.1 | some (.inr (.inr q)) => j_Cal f pc ls st h q.1 q.2.1 q.2.2
  simp only [h_cmp]
  split <;> rename_i hm <;> (repeat' split at hm)
  all_goals first | trivial | (cases hm; done) | skip
  all_goals cases hm
  all_goals
    rename_i hcd
    refine j_Stp.step ?_ rfl rfl
    intro w p l e R s m args below meth c d H locs cells slots Q lsA hF hR hL hlo kk
    have k2 := kk H locs lsA hR hL hlo
    simp only [c_jmp, Bool.and_eq_true, beq_iff_eq, decide_eq_true_eq] at hc hcd
    refine lv_icmp_ne (tgt := j_x o) hF.1 hF.2.1 (j_dec hc.1.1) hc.2 (fun q => ?_) (fun q => ?_) <;> first | exact k2 | (rw [hc.1.2] at k2; exact k2) | exact absurd q hcd | exact absurd hcd q | exact absurd (by simpa using hcd) q

theorem z_if_lt : j_Snd (h_if (fun x => decide (x < 0)), c_jmp (.ifCond .lt)) := by
  intro f pc o ls st h hc
  show match (h_if (fun x => decide (x < 0))) o (pc, ls, st, h) with | none => True | some (.inl s') => j_Step f pc ls st h s' | some (.inr (.inl r)) => r.2 = h ∧ st = pu r.1 [] ∧ j_RetAt f pc r.1 | some (.inr (.inr q)) => j_Cal f pc ls st h q.1 q.2.1 q.2.2
  simp only [h_if]
  split <;> rename_i hm <;> (repeat' split at hm)
  all_goals first | trivial | (cases hm; done) | skip
  all_goals cases hm
  all_goals
    rename_i hcd
    refine j_Stp.step ?_ rfl rfl
    intro w p l e R s m args below meth c d H locs cells slots Q lsA hF hR hL hlo kk
    have k2 := kk H locs lsA hR hL hlo
    simp only [c_jmp, Bool.and_eq_true, beq_iff_eq, decide_eq_true_eq] at hc hcd
    refine lv_if_lt (tgt := j_x o) hF.1 hF.2.1 (j_dec hc.1.1) hc.2 (fun q => ?_) (fun q => ?_) <;> first | exact k2 | (rw [hc.1.2] at k2; exact k2) | exact absurd q hcd | exact absurd hcd q | exact absurd (by simpa using hcd) q

theorem z_icmp_lt : j_Snd (h_cmp (fun x y => decide (x < y)), c_jmp (.if_icmp .lt)) := by
  intro f pc o ls st h hc
  show match (h_cmp (fun x y => decide (x < y))) o (pc, ls, st, h) with | none => True | some (.inl s') => j_Step f pc ls st h s' | some (.inr (.inl r)) => r.2 = h ∧ st = pu r.1 [] ∧ j_RetAt f pc r.1 | some (.inr (.inr q)) => j_Cal f pc ls st h q.1 q.2.1 q.2.2
  simp only [h_cmp]
  split <;> rename_i hm <;> (repeat' split at hm)
  all_goals first | trivial | (cases hm; done) | skip
  all_goals cases hm
  all_goals
    rename_i hcd
    refine j_Stp.step ?_ rfl rfl
    intro w p l e R s m args below meth c d H locs cells slots Q lsA hF hR hL hlo kk
    have k2 := kk H locs lsA hR hL hlo
    simp only [c_jmp, Bool.and_eq_true, beq_iff_eq, decide_eq_true_eq] at hc hcd
    refine lv_icmp_lt (tgt := j_x o) hF.1 hF.2.1 (j_dec hc.1.1) hc.2 (fun q => ?_) (fun q => ?_) <;> first | exact k2 | (rw [hc.1.2] at k2; exact k2) | exact absurd q hcd | exact absurd hcd q | exact absurd (by simpa using hcd) q

theorem z_if_ge : j_Snd (h_if (fun x => decide (0 ≤ x)), c_jmp (.ifCond .ge)) := by
  intro f pc o ls st h hc
  show match (h_if (fun x => decide (0 ≤ x))) o (pc, ls, st, h) with | none => True | some (.inl s') => j_Step f pc ls st h s' | some (.inr (.inl r)) => r.2 = h ∧ st = pu r.1 [] ∧ j_RetAt f pc r.1 | some (.inr (.inr q)) => j_Cal f pc ls st h q.1 q.2.1 q.2.2
  simp only [h_if]
  split <;> rename_i hm <;> (repeat' split at hm)
  all_goals first | trivial | (cases hm; done) | skip
  all_goals cases hm
  all_goals
    rename_i hcd
    refine j_Stp.step ?_ rfl rfl
    intro w p l e R s m args below meth c d H locs cells slots Q lsA hF hR hL hlo kk
    have k2 := kk H locs lsA hR hL hlo
    simp only [c_jmp, Bool.and_eq_true, beq_iff_eq, decide_eq_true_eq] at hc hcd
    refine lv_if_ge (tgt := j_x o) hF.1 hF.2.1 (j_dec hc.1.1) hc.2 (fun q => ?_) (fun q => ?_) <;> first | exact k2 | (rw [hc.1.2] at k2; exact k2) | exact absurd q hcd | exact absurd hcd q | exact absurd (by simpa using hcd) q

theorem z_icmp_ge : j_Snd (h_cmp (fun x y => decide (y ≤ x)), c_jmp (.if_icmp .ge)) := by
  intro f pc o ls st h hc
  show match (h_cmp (fun x y => decide (y ≤ x))) o (pc, ls, st, h) with | none => True | some (.inl s') => j_Step f pc ls st h s' | some (.inr (.inl r)) => r.2 = h ∧ st = pu r.1 [] ∧ j_RetAt f pc r.1 | some (.inr (.inr q)) => j_Cal f pc ls st h q.1 q.2.1 q.2.2
  simp only [h_cmp]
  split <;> rename_i hm <;> (repeat' split at hm)
  all_goals first | trivial | (cases hm; done) | skip
  all_goals cases hm
  all_goals
    rename_i hcd
    refine j_Stp.step ?_ rfl rfl
    intro w p l e R s m args below meth c d H locs cells slots Q lsA hF hR hL hlo kk
    have k2 := kk H locs lsA hR hL hlo
    simp only [c_jmp, Bool.and_eq_true, beq_iff_eq, decide_eq_true_eq] at hc hcd
    refine lv_icmp_ge (tgt := j_x o) hF.1 hF.2.1 (j_dec hc.1.1) hc.2 (fun q => ?_) (fun q => ?_) <;> first | exact k2 | (rw [hc.1.2] at k2; exact k2) | exact absurd q hcd | exact absurd hcd q | exact absurd (by simpa using hcd) q

theorem z_if_gt : j_Snd (h_if (fun x => decide (0 < x)), c_jmp (.ifCond .gt)) := by
  intro f pc o ls st h hc
  show match (h_if (fun x => decide (0 < x))) o (pc, ls, st, h) with | none => True | some (.inl s') => j_Step f pc ls st h s' | some (.inr (.inl r)) => r.2 = h ∧ st = pu r.1 [] ∧ j_RetAt f pc r.1 | some (.inr (.inr q)) => j_Cal f pc ls st h q.1 q.2.1 q.2.2
  simp only [h_if]
  split <;> rename_i hm <;> (repeat' split at hm)
  all_goals first | trivial | (cases hm; done) | skip
  all_goals cases hm
  all_goals
    rename_i hcd
    refine j_Stp.step ?_ rfl rfl
    intro w p l e R s m args below meth c d H locs cells slots Q lsA hF hR hL hlo kk
    have k2 := kk H locs lsA hR hL hlo
    simp only [c_jmp, Bool.and_eq_true, beq_iff_eq, decide_eq_true_eq] at hc hcd
    refine lv_if_gt (tgt := j_x o) hF.1 hF.2.1 (j_dec hc.1.1) hc.2 (fun q => ?_) (fun q => ?_) <;> first | exact k2 | (rw [hc.1.2] at k2; exact k2) | exact absurd q hcd | exact absurd hcd q | exact absurd (by simpa using hcd) q

theorem z_icmp_gt : j_Snd (h_cmp (fun x y => decide (y < x)), c_jmp (.if_icmp .gt)) := by
  intro f pc o ls st h hc
  show match (h_cmp (fun x y => decide (y < x))) o (pc, ls, st, h) with | none => True | some (.inl s') => j_Step f pc ls st h s' | some (.inr (.inl r)) => r.2 = h ∧ st = pu r.1 [] ∧ j_RetAt f pc r.1 | some (.inr (.inr q)) => j_Cal f pc ls st h q.1 q.2.1 q.2.2
  simp only [h_cmp]
  split <;> rename_i hm <;> (repeat' split at hm)
  all_goals first | trivial | (cases hm; done) | skip
  all_goals cases hm
  all_goals
    rename_i hcd
    refine j_Stp.step ?_ rfl rfl
    intro w p l e R s m args below meth c d H locs cells slots Q lsA hF hR hL hlo kk
    have k2 := kk H locs lsA hR hL hlo
    simp only [c_jmp, Bool.and_eq_true, beq_iff_eq, decide_eq_true_eq] at hc hcd
    refine lv_icmp_gt (tgt := j_x o) hF.1 hF.2.1 (j_dec hc.1.1) hc.2 (fun q => ?_) (fun q => ?_) <;> first | exact k2 | (rw [hc.1.2] at k2; exact k2) | exact absurd q hcd | exact absurd hcd q | exact absurd (by simpa using hcd) q

theorem z_if_le : j_Snd (h_if (fun x => decide (x ≤ 0)), c_jmp (.ifCond .le)) := by
  intro f pc o ls st h hc
  show match (h_if (fun x => decide (x ≤ 0))) o (pc, ls, st, h) with | none => True | some (.inl s') => j_Step f pc ls st h s' | some (.inr (.inl r)) => r.2 = h ∧ st = pu r.1 [] ∧ j_RetAt f pc r.1 | some (.inr (.inr q)) => j_Cal f pc ls st h q.1 q.2.1 q.2.2
  simp only [h_if]
  split <;> rename_i hm <;> (repeat' split at hm)
  all_goals first | trivial | (cases hm; done) | skip
  all_goals cases hm
  all_goals
    rename_i hcd
    refine j_Stp.step ?_ rfl rfl
    intro w p l e R s m args below meth c d H locs cells slots Q lsA hF hR hL hlo kk
    have k2 := kk H locs lsA hR hL hlo
    simp only [c_jmp, Bool.and_eq_true, beq_iff_eq, decide_eq_true_eq] at hc hcd
    refine lv_if_le (tgt := j_x o) hF.1 hF.2.1 (j_dec hc.1.1) hc.2 (fun q => ?_) (fun q => ?_) <;> first | exact k2 | (rw [hc.1.2] at k2; exact k2) | exact absurd q hcd | exact absurd hcd q | exact absurd (by simpa using hcd) q

theorem z_icmp_le : j_Snd (h_cmp (fun x y => decide (x ≤ y)), c_jmp (.if_icmp .le)) := by
  intro f pc o ls st h hc
  show match (h_cmp (fun x y => decide (x ≤ y))) o (pc, ls, st, h) with | none => True | some (.inl s') => j_Step f pc ls st h s' | some (.inr (.inl r)) => r.2 = h ∧ st = pu r.1 [] ∧ j_RetAt f pc r.1 | some (.inr (.inr q)) => j_Cal f pc ls st h q.1 q.2.1 q.2.2
  simp only [h_cmp]
  split <;> rename_i hm <;> (repeat' split at hm)
  all_goals first | trivial | (cases hm; done) | skip
  all_goals cases hm
  all_goals
    rename_i hcd
    refine j_Stp.step ?_ rfl rfl
    intro w p l e R s m args below meth c d H locs cells slots Q lsA hF hR hL hlo kk
    have k2 := kk H locs lsA hR hL hlo
    simp only [c_jmp, Bool.and_eq_true, beq_iff_eq, decide_eq_true_eq] at hc hcd
    refine lv_icmp_le (tgt := j_x o) hF.1 hF.2.1 (j_dec hc.1.1) hc.2 (fun q => ?_) (fun q => ?_) <;> first | exact k2 | (rw [hc.1.2] at k2; exact k2) | exact absurd q hcd | exact absurd hcd q | exact absurd (by simpa using hcd) q

theorem z_goto : j_Snd (h_goto, c_jmp .goto) := by
  intro f pc o ls st h hc
  refine j_Stp.step ?_ rfl rfl
  intro w p l e R s m args below meth c d H locs cells slots Q lsA hF hR hL hlo kk
  have k2 := kk H locs lsA hR hL hlo
  simp only [c_jmp, Bool.and_eq_true, beq_iff_eq, decide_eq_true_eq] at hc
  exact lv_goto (tgt := j_x o) hF.1 hF.2.1 (j_dec hc.1.1) hc.2 k2
