theorem j_arr0 : Cond.arrayClass .int ∈ lw_tbl := by decide +kernel
theorem j_arr1 : Cond.arrayClass .long ∈ lw_tbl := by decide +kernel
theorem z_new : j_Snd (h_new, c_new) := by
  intro f pc o ls st h hc
  refine ⟨⟨Nat.le_succ _, Nat.le_add_right _ _⟩, ?_⟩
  intro w p l e R s m args below meth c d H locs cells slots Q lsA hF hR hL hlo hce hsl kk
  simp only [c_new, Bool.and_eq_true, beq_iff_eq] at hc
  obtain ⟨⟨h1, h2⟩, h3⟩ := hc
  split at h3
  · rename_i C T N hC
    simp only [Bool.and_eq_true, List.contains_iff_mem] at h3
    obtain ⟨⟨h3, h4⟩, h5⟩ := h3
    obtain ⟨-, ⟨ty, hty, hN, hdf⟩, -⟩ := j_cls hC
    have hce' : cells + 1 ≤ R.cells := by
      have : cells + (h.1 + 1 - h.1) ≤ R.cells := hce
      omega
    have hsl' : slots + N ≤ R.slots := by
      have : slots + (h.2.1 + j_nf (j_x o) - h.2.1) ≤ R.slots := hsl
      rw [← hN] at this
      omega
    refine W.newc (n := N) hF.1 hF.2.1 hF.2.2.2.1 (j_word hF h3 rfl) (hF.2.2.2.2.1 _ h4 rfl) (hF.2.2.2.2.1 _ h5 rfl) rfl (j_dec h1) hce' hsl' (fun cC kC g1 g2 g3 g4 => ?_)
    obtain ⟨hS, hfc, kC', hkC', hkind'⟩ := hF.2.2.2.2.2.2.1.1.1 (j_x o) _ hC
    have ec : cC = w.2.1.1 (j_x o) := Option.some.inj (g1.symm.trans hfc)
    subst ec
    have hOB := u_born (o := H.size) (H := H.push (blank (w.2.1.1 (j_x o)) kC)) ty (j_lay hF hC) (fun _ h => h) (hF.2.2.2.2.2.2.1.1.1 (j_x o) _ hC) g2 (by simp) hty
    have hat : va_at w.2.1 vwCl (H.size, cE w (oB (j_x o) (j_df (j_x o)))) (H.push (blank (w.2.1.1 (j_x o)) kC)) := by
      refine ⟨_, hC, t_OB.to hOB (fun k hk => ?_)⟩
      show defaultValue (ty k) = ((j_df (j_x o)).map (cv w)).getD k .null
      rw [hdf, List.getD_eq_getElem?_getD, List.map_map, List.getElem?_map, List.getElem?_range hk]
      show defaultValue (ty k) = cv w (defaultValue (ty k))
      cases ty k <;> rfl
    obtain ⟨hR', had⟩ := hR.new (n := j_nf (j_x o)) hat (by simp) (fun q hq => by simp [Array.getElem?_push, Nat.ne_of_lt hq])
    have k2 := kk _ locs lsA hR' hL hlo
    have e1 : h.1 + 1 - h.1 = 1 := by omega
    have e2 : h.2.1 + j_nf (j_x o) - h.2.1 = N := by rw [← hN]; omega
    have k3 : W p l e R s m args below meth c (H.push (blank (w.2.1.1 (j_x o)) kC)) locs (cells + (h.1 + 1 - h.1)) (slots + (h.2.1 + j_nf (j_x o) - h.2.1)) Q (F0 m (j_nx o) lsA (.ref (ad w h.1) :: st.map (cv w))) := k2
    rw [e1, e2, h2, had] at k3
    exact k3
  · cases h3

theorem z_nai : j_Snd (h_nai, c_na .int) := by
  intro f pc o ls st h hc
  show match (h_nai) o (pc, ls, st, h) with | none => True | some (.inl s') => j_Step f pc ls st h s' | some (.inr (.inl r)) => r.2 = h ∧ st = pu r.1 [] ∧ j_RetAt f pc r.1 | some (.inr (.inr q)) => j_Cal f pc ls st h q.1 q.2.1 q.2.2
  simp only [h_nai]
  split <;> rename_i hm <;> (repeat' split at hm)
  all_goals first | trivial | (cases hm; done) | skip
  all_goals cases hm
  rename_i n r hn
  refine ⟨⟨Nat.le_succ _, Nat.le_add_right _ _⟩, ?_⟩
  intro w p l e R s m args below meth c d H locs cells slots Q lsA hF hR hL hlo hce hsl kk
  simp only [c_na, Bool.and_eq_true, beq_iff_eq] at hc
  have hce' : cells + 1 ≤ R.cells := by
    have : cells + (h.1 + 1 - h.1) ≤ R.cells := hce
    omega
  have hsl' : slots + n.toNatClampNeg ≤ R.slots := by
    have : slots + (h.2.1 + n.toNatClampNeg - h.2.1) ≤ R.slots := hsl
    omega
  refine W.newa (atype := .int) hF.1 hF.2.1 (hF.2.2.2.2.1 _ j_arr0 rfl) rfl (j_dec hc.1) rfl (fun q => hn (Or.inl q)) (by show n.toNatClampNeg * 4 ≤ _; have := fun q => hn (Or.inr q); omega) hce' hsl' (fun cA kA comp g1 g2 g3 => ?_)
  have r1 : s.vm.findClass ("[" ++ FieldType.int.toString) = some w.2.2.1 := (hF.2.2.2.2.2.2.1.1.2 0 _ rfl).2
  have ec : cA = w.2.2.1 := Option.some.inj (g1.symm.trans r1)
  subst ec
  have hat : va_at w.2.1 vwCl (H.size, cE w (aI n.toNatClampNeg (fun _ => 0))) (H.push { cls := w.2.2.1, slots := Array.replicate n.toNatClampNeg (defaultValue .int), vm := .none }) := by
    show (H.push _)[H.size]? = some (arrV w.2.2.1 n.toNatClampNeg (fun _ => .int 0))
    rw [arrV_new]
    simp
    rfl
  obtain ⟨hR', had⟩ := hR.new (n := n.toNatClampNeg) hat (by simp) (fun q hq => by simp [Array.getElem?_push, Nat.ne_of_lt hq])
  have k2 := kk _ locs lsA hR' hL hlo
  have e1 : h.1 + 1 - h.1 = 1 := by omega
  have e2 : h.2.1 + n.toNatClampNeg - h.2.1 = n.toNatClampNeg := by omega
  have k3 : W p l e R s m args below meth c (H.push { cls := w.2.2.1, slots := Array.replicate n.toNatClampNeg (defaultValue .int), vm := .none }) locs (cells + (h.1 + 1 - h.1)) (slots + (h.2.1 + n.toNatClampNeg - h.2.1)) Q (F0 m (j_nx o) lsA (.ref (ad w h.1) :: r.map (cv w))) := k2
  rw [e1, e2, hc.2, had] at k3
  exact k3

theorem z_nal : j_Snd (h_nal, c_na .long) := by
  intro f pc o ls st h hc
  show match (h_nal) o (pc, ls, st, h) with | none => True | some (.inl s') => j_Step f pc ls st h s' | some (.inr (.inl r)) => r.2 = h ∧ st = pu r.1 [] ∧ j_RetAt f pc r.1 | some (.inr (.inr q)) => j_Cal f pc ls st h q.1 q.2.1 q.2.2
  simp only [h_nal]
  split <;> rename_i hm <;> (repeat' split at hm)
  all_goals first | trivial | (cases hm; done) | skip
  all_goals cases hm
  rename_i n r hn
  refine ⟨⟨Nat.le_succ _, Nat.le_add_right _ _⟩, ?_⟩
  intro w p l e R s m args below meth c d H locs cells slots Q lsA hF hR hL hlo hce hsl kk
  simp only [c_na, Bool.and_eq_true, beq_iff_eq] at hc
  have hce' : cells + 1 ≤ R.cells := by
    have : cells + (h.1 + 1 - h.1) ≤ R.cells := hce
    omega
  have hsl' : slots + n.toNatClampNeg ≤ R.slots := by
    have : slots + (h.2.1 + n.toNatClampNeg - h.2.1) ≤ R.slots := hsl
    omega
  refine W.newa (atype := .long) hF.1 hF.2.1 (hF.2.2.2.2.1 _ j_arr1 rfl) rfl (j_dec hc.1) rfl (fun q => hn (Or.inl q)) (by show n.toNatClampNeg * 8 ≤ _; have := fun q => hn (Or.inr q); omega) hce' hsl' (fun cA kA comp g1 g2 g3 => ?_)
  have r1 : s.vm.findClass ("[" ++ FieldType.long.toString) = some w.2.2.2.1 := (hF.2.2.2.2.2.2.1.1.2 1 _ rfl).2
  have ec : cA = w.2.2.2.1 := Option.some.inj (g1.symm.trans r1)
  subst ec
  have hat : va_at w.2.1 vwCl (H.size, cE w (aL n.toNatClampNeg (fun _ => 0))) (H.push { cls := w.2.2.2.1, slots := Array.replicate n.toNatClampNeg (defaultValue .long), vm := .none }) := by
    show (H.push _)[H.size]? = some (arrV w.2.2.2.1 n.toNatClampNeg (fun _ => .long 0))
    rw [arrV_new]
    simp
    rfl
  obtain ⟨hR', had⟩ := hR.new (n := n.toNatClampNeg) hat (by simp) (fun q hq => by simp [Array.getElem?_push, Nat.ne_of_lt hq])
  have k2 := kk _ locs lsA hR' hL hlo
  have e1 : h.1 + 1 - h.1 = 1 := by omega
  have e2 : h.2.1 + n.toNatClampNeg - h.2.1 = n.toNatClampNeg := by omega
  have k3 : W p l e R s m args below meth c (H.push { cls := w.2.2.2.1, slots := Array.replicate n.toNatClampNeg (defaultValue .long), vm := .none }) locs (cells + (h.1 + 1 - h.1)) (slots + (h.2.1 + n.toNatClampNeg - h.2.1)) Q (F0 m (j_nx o) lsA (.ref (ad w h.1) :: r.map (cv w))) := k2
  rw [e1, e2, hc.2, had] at k3
  exact k3

theorem j_vrouter (c : ClassId) (N h0 : Nat) : ∀ i : Nat, Jvm.Free.Multi.outerC c N h0 i = arrV c N (fun j => va_rf (if j < i then some (h0 + 1 + j) else none))
  | 0 => by
    show ({ cls := c, slots := Array.replicate N .null, vm := .none } : Cell) = _
    rw [arrV_new]
    refine congrArg (arrV c N) (funext fun j => ?_)
    simp [va_rf]
  | i + 1 => by
    show (Jvm.Free.Multi.outerC c N h0 i).setSlot i (.ref (h0 + 1 + i)) = _
    rw [j_vrouter c N h0 i, arrV_store]
    refine congrArg (arrV c N) (funext fun j => ?_)
    by_cases e : j = i
    · subst e
      simp [updV, va_rf]
    · by_cases h : j < i
      · simp [updV, e, h, Nat.lt_succ_of_lt h]
      · simp [updV, e, h, show ¬ j < i + 1 by omega]
theorem z_mna : j_Snd (h_mna, c_mna) := by
  intro f pc o ls st h hc
  show match (h_mna) o (pc, ls, st, h) with | none => True | some (.inl s') => j_Step f pc ls st h s' | some (.inr (.inl r)) => r.2 = h ∧ st = pu r.1 [] ∧ j_RetAt f pc r.1 | some (.inr (.inr q)) => j_Cal f pc ls st h q.1 q.2.1 q.2.2
  simp only [h_mna]
  split <;> rename_i hm <;> (repeat' split at hm)
  all_goals first | trivial | (cases hm; done) | skip
  all_goals cases hm
  rename_i k n r hn
  refine ⟨⟨Nat.le_trans (Nat.le_succ _) (Nat.le_add_right _ _), Nat.le_trans (Nat.le_add_right _ _) (Nat.le_add_right _ _)⟩, ?_⟩
  intro w p l e R s m args below meth c d H locs cells slots Q lsA hF hR hL hlo hce hsl kk
  simp only [c_mna, Bool.and_eq_true, beq_iff_eq] at hc
  obtain ⟨⟨h1, h2⟩, h3⟩ := hc
  have n1 : ¬ n < 0 := fun q => hn (Or.inl (Or.inl q))
  have n2 : ¬ 10000 < n.toNatClampNeg := fun q => hn (Or.inl (Or.inr q))
  have n3 : ¬ k < 0 := fun q => hn (Or.inr (Or.inl q))
  have n4 : ¬ 10000 < k.toNatClampNeg := fun q => hn (Or.inr (Or.inr q))
  have hce' : cells + (1 + n.toNatClampNeg) ≤ R.cells := by
    have : cells + (h.1 + 1 + n.toNatClampNeg - h.1) ≤ R.cells := hce
    omega
  have hsl' : slots + (n.toNatClampNeg + n.toNatClampNeg * k.toNatClampNeg) ≤ R.slots := by
    have : slots + (h.2.1 + n.toNatClampNeg + n.toNatClampNeg * k.toNatClampNeg - h.2.1) ≤ R.slots := hsl
    omega
  have hKC := hF.2.2.2.2.2.2.1
  intro T hT X
  obtain ⟨vm₁, cA, comp, -, fA, fC, hO, -, X', step⟩ := X.multianewarray2F (ty := .int) hF.1 hF.2.2.2.1 (j_word hF h3 rfl) (over_moved (Vm.Alike.refl _) hKC.2.1) (hF.2.2.2.2.1 _ j_arr0 rfl) (g := F0 m pc lsA (.int k :: .int n :: r.map (cv w))) rfl (by rw [hF.2.1]; exact j_dec h1) rfl n1 n3 (by omega) (by show k.toNatClampNeg * 4 ≤ _; omega) (by omega) rfl rfl hce' hsl'
  have r1 : s.vm.findClass ("[" ++ FieldType.int.toString) = some w.2.2.1 := (hKC.1.2 0 _ rfl).2
  have r2 : s.vm.findClass ("[" ++ (FieldType.array .int).toString) = some w.2.2.2.2 := (hKC.1.2 2 _ rfl).2
  have ec : comp = w.2.2.1 := Option.some.inj (fC.symm.trans r1)
  have eA : cA = w.2.2.2.2 := Option.some.inj (fA.symm.trans r2)
  subst ec
  subst eA
  generalize hFi : Jvm.Free.Multi.fill (T.setVm vm₁) w.2.2.2.2 w.2.2.1 n.toNatClampNeg k.toNatClampNeg (defaultValue .int) n.toNatClampNeg = Fi at X' step
  have hTh : (T.setVm vm₁).heap = H := hT
  obtain ⟨f1, f2, -, -⟩ := Jvm.Free.Multi.fill_facts (T.setVm vm₁) w.2.2.2.2 w.2.2.1 n.toNatClampNeg k.toNatClampNeg (defaultValue .int) n.toNatClampNeg
  rw [hFi, hTh] at f1 f2
  have hold : ∀ x : Nat, x < H.size → Fi.heap[x]? = H[x]? := fun x hx => by
    have := Jvm.Free.Multi.fill_old (T.setVm vm₁) w.2.2.2.2 w.2.2.1 n.toNatClampNeg k.toNatClampNeg (defaultValue .int) (a := x) (by rw [hTh]; exact hx) n.toNatClampNeg
    rw [hFi, hTh] at this
    exact this
  have hrow : ∀ j : Nat, j < n.toNatClampNeg → Fi.heap[H.size + 1 + j]? = some (arrV w.2.2.1 k.toNatClampNeg (fun _ => .int 0)) := fun j hj => by
    have := Jvm.Free.Multi.fill_inner (T.setVm vm₁) w.2.2.2.2 w.2.2.1 n.toNatClampNeg k.toNatClampNeg (defaultValue .int) n.toNatClampNeg j hj
    rw [hFi, hTh] at this
    rw [this]
    show some ({ cls := w.2.2.1, slots := Array.replicate k.toNatClampNeg (.int 0), vm := .none } : Cell) = _
    rw [arrV_new]
  rw [j_vrouter] at f2
  have hz := hR.2.1
  have hh1 := hR.1
  have hbb := hR.2.2.1
  have had : ad w h.1 = H.size := by unfold ad; rw [if_neg (by omega), hz]
  have hR' : j_Rel w s (hm h n.toNatClampNeg k.toNatClampNeg) Fi.heap := by
    refine ⟨by show 1 ≤ h.1 + 1 + _; omega, by show _ = w.1.2 + (h.1 + 1 + n.toNatClampNeg - 1); omega, hbb, fun x c0 hk => ?_⟩
    have hk' : (if x = h.1 then some (aR n.toNatClampNeg (fun i => if i < n.toNatClampNeg then some (h.1 + 1 + i) else none)) else if h.1 < x ∧ x < h.1 + 1 + n.toNatClampNeg then some (aI k.toNatClampNeg (fun _ => 0)) else hg h x) = some c0 := hk
    by_cases hx : x = h.1
    · rw [if_pos hx] at hk'
      cases hk'
      refine ⟨by show x < h.1 + 1 + _; omega, ?_⟩
      rw [if_neg (by omega), hx, had]
      show Fi.heap[H.size]? = some (arrV w.2.2.2.2 n.toNatClampNeg (fun j => va_rf ((if j < n.toNatClampNeg then some (h.1 + 1 + j) else none : Option Nat).map (ad w))))
      rw [f2]
      congr 2
      funext j
      by_cases hj : j < n.toNatClampNeg
      · simp only [if_pos hj, Option.map_some]
        congr 2
        unfold ad
        rw [if_neg (by omega)]
        omega
      · simp only [if_neg hj, Option.map_none]
    · rw [if_neg hx] at hk'
      by_cases hy : h.1 < x ∧ x < h.1 + 1 + n.toNatClampNeg
      · rw [if_pos hy] at hk'
        cases hk'
        refine ⟨hy.2, ?_⟩
        rw [if_neg (by omega)]
        show Fi.heap[ad w x]? = some (arrV w.2.2.1 k.toNatClampNeg (fun _ => .int 0))
        have e : ad w x = H.size + 1 + (x - h.1 - 1) := by unfold ad; rw [if_neg (by omega)]; omega
        rw [e]
        exact hrow _ (by omega)
      · rw [if_neg hy] at hk'
        obtain ⟨g1, g2⟩ := hR.2.2.2 x c0 hk'
        refine ⟨by show x < h.1 + 1 + _; omega, ?_⟩
        by_cases h0 : x = 0
        · rw [if_pos h0] at g2 ⊢
          obtain ⟨L, xs, e, scr, q1, q2⟩ := g2
          exact ⟨L, xs, e, scr, by rw [hold _ (by omega)]; exact q1, q2⟩
        · rw [if_neg h0] at g2 ⊢
          have := g2.lt
          exact g2.kept (hold _ this)
  have k2 := kk Fi.heap locs lsA hR' hL hlo
  have e1 : cells + (h.1 + 1 + n.toNatClampNeg - h.1) = cells + 1 + n.toNatClampNeg := by omega
  have e2 : slots + (h.2.1 + n.toNatClampNeg + n.toNatClampNeg * k.toNatClampNeg - h.2.1) = slots + n.toNatClampNeg + n.toNatClampNeg * k.toNatClampNeg := by omega
  have k3 : W p l e R s m args below meth c Fi.heap locs (cells + (h.1 + 1 + n.toNatClampNeg - h.1)) (slots + (h.2.1 + n.toNatClampNeg + n.toNatClampNeg * k.toNatClampNeg - h.2.1)) Q (F0 m (j_nx o) lsA (.ref (ad w h.1) :: r.map (cv w))) := k2
  rw [e1, e2, h2, had] at k3
  obtain ⟨t, a1, b1⟩ := k3 Fi rfl X'
  refine ⟨t, step t ?_, b1⟩
  have e : T.heap.size = H.size := by rw [hT]
  rw [e]
  exact a1
theorem j_Ts {w : j_W} {p : Program} {R : Room} {s : State} {m : MethodId} {args : Array Value} {meth : Method} {c : Code} {f d : Nat} (hF : j_Fr w p R s m args meth c f d) : ∀ q ∈ lw_tbl.filter goodWord, q.before args s = true := fun q hq => by
  obtain ⟨h1, h2⟩ := List.mem_filter.mp hq
  exact hF.2.2.2.2.1 q h1 (by rw [h2]; rfl)
theorem j_GI {g : Nat} (h : g < 166) : GoodIn (lw_tbl.filter goodWord) (j_ws g) := by
  intro q hq
  rcases List.mem_cons.mp hq with rfl | hq
  · exact ⟨List.mem_filter.mpr ⟨j_call_code h, rfl⟩, good_of_word rfl⟩
  · exact ⟨hq, good_of_word (List.mem_filter.mp hq).2⟩
/-- what the check of a method gives -/
theorem j_mfacts {w : j_W} {p : Program} {R : Room} {s : State} {m : MethodId} {args : Array Value} {meth : Method} {c : Code} {f d g : Nat} (hF : j_Fr w p R s m args meth c f d) (h : g < 166) :
    (Cond.initialized (j_y g).cls).before args s = true ∧ (if (j_mp g).1 = 0 then (Cond.static (j_y g)).before args s = true else (Cond.instanceMethod (j_y g)).before args s = true) ∧ ((j_mp g).1 = 1 → (Cond.selects (j_y g).cls (j_y g) (j_y g)).before args s = true) ∧ ((j_mp g).1 = 2 → (j_y g).name = "<init>") ∧ plainName (j_y g).cls = true ∧ (j_y g).cls ≠ "java/lang/invoke/MethodHandle" ∧ (j_y g).cls ≠ "java/lang/invoke/VarHandle" ∧ j_ml g ≤ 20 := by
  have hm := j_mall h
  simp only [j_mk, Bool.and_eq_true, decide_eq_true_eq] at hm
  obtain ⟨⟨⟨⟨⟨⟨⟨h1, h2⟩, h3⟩, h4⟩, h5⟩, h6⟩, h7⟩, h8⟩ := hm
  refine ⟨j_word hF h1 rfl, ?_, fun e => ?_, fun e => ?_, h5, h6, h7, h8⟩
  · split
    · rename_i e
      rw [if_pos e] at h2
      exact j_word hF h2 rfl
    · rename_i e
      rw [if_neg e] at h2
      exact j_word hF h2 rfl
  · rw [if_pos e] at h3
    exact j_word hF h3 rfl
  · rw [if_pos e] at h4
    exact of_decide_eq_true h4
theorem j_FB (w : j_W) (h : j_H) (as : List Value) : FrameBlind (j_Pc w h as) := by
  intro a U g mk hq
  exact ⟨hq.1, j_Rel.moved (u := U) (U := U.calling g mk a) (Vm.Alike.refl U.vm) hq.2.1, j_KC.same (u := U) (U := U.calling g mk a) rfl hq.2.2⟩
theorem j_PU {w : j_W} {s : State} {h : j_H} {H : Heap} (hR : j_Rel w s h H) (hK : j_KC w s) (as : List Value) : ∀ U : State, U.heap = H → s.WarmedH U.vm → j_Pc w h as (as.map (cv w)).toArray U := by
  intro U hU hW
  exact ⟨rfl, by rw [hU]; exact hR.moved hW.alike, hK.moved hW⟩
theorem j_room {w : j_W} {p : Program} {R : Room} {s : State} {m : MethodId} {args : Array Value} {meth : Method} {c : Code} {f d g mc ms : Nat} (hF : j_Fr w p R s m args meth c f (d + 1)) (h : g < 166) : (j_rm d mc ms).frames + 1 ≤ R.frames ∧ 8 + (j_ml g + 11) + (j_rm d mc ms).locals ≤ R.locals := by
  obtain ⟨-, -, -, -, -, -, -, h1, h2⟩ := hF
  have := (j_mall h)
  simp only [j_mk, Bool.and_eq_true, decide_eq_true_eq] at this
  have h8 := this.2
  refine ⟨?_, ?_⟩
  · show d + 1 + 1 ≤ _; omega
  · show 8 + (j_ml g + 11) + (64 * d + 64) ≤ _; omega
theorem j_sum (w : j_W) {r : List Value} (h : r.length ≤ 4) : ((r.map (cv w)).map fun v => v.category).sum ≤ 8 := by
  have : ∀ t : List Value, ((t.map (cv w)).map fun v => v.category).sum ≤ 2 * t.length := by
    intro t
    induction t with
    | nil => simp
    | cons x t ih =>
      have := lv_cat (cv w x)
      simp only [List.map_cons, List.sum_cons, List.length_cons]
      omega
  have := this r
  omega
theorem j_tk (w : j_W) (st : List Value) (n : Nat) : st.map (cv w) = ((st.take n).reverse.map (cv w)).reverse ++ (st.drop n).map (cv w) := by
  rw [List.map_reverse, List.reverse_reverse, ← List.map_append, List.take_append_drop]
theorem z_sta : j_Snd (h_sta, c_sta) := by
  intro f pc o ls st h hc
  show match (h_sta) o (pc, ls, st, h) with | none => True | some (.inl s') => j_Step f pc ls st h s' | some (.inr (.inl r)) => r.2 = h ∧ st = pu r.1 [] ∧ j_RetAt f pc r.1 | some (.inr (.inr q)) => j_Cal f pc ls st h q.1 q.2.1 q.2.2
  simp only [h_sta, j_call]
  split <;> rename_i hm <;> (repeat' split at hm)
  all_goals first | trivial | (cases hm; done) | skip
  all_goals cases hm
  rename_i hlen hr
  simp only [c_sta, j_ar, Bool.and_eq_true, beq_iff_eq, decide_eq_true_eq] at hc
  obtain ⟨⟨⟨⟨h1, h2⟩, h3, hg⟩, h4⟩, h5⟩ := hc
  refine ⟨hg, h2, rfl, rfl, hr.2, ?_⟩
  intro w p l e R s m args below meth c d H locs cells slots mc ms lsA Qc free hF hR hsz hce hsl hM
  obtain ⟨m1, m2, -, -, m5, m6, m7, m8⟩ := j_mfacts hF hg
  rw [if_pos h4] at m2
  have hn : ((st.take (j_yy o)).reverse.map (cv w)).length = j_yy o := by rw [List.length_map, List.length_reverse, hlen]
  have hW : 2 * (F0 m pc lsA (st.map (cv w))).monitorRoom + (((st.drop (j_yy o)).map (cv w)).map fun v => v.category).sum ≤ 8 := lv_room (m := m) (pc := pc) (ls := lsA) (rest := st.map (cv w)) (j_sum w hr.1)
  have S : CallFix p m c (j_code f) (j_ml f) s args (lw_tbl.filter goodWord) (j_y f).cls := ⟨hF.1, hF.2.1, hF.2.2.1, hF.2.2.2.1, j_Ts hF⟩
  unfold j_ln at h5
  split at h5
  · have cw := va_cnB (host := "ThinTables") (index := j_ix o) (own := (j_y f).cls) (R := R) (rm := j_rm d mc ms) (mc := mc) (ms := ms) (j_yy o) (j_Ts hF) (j_GI hg) rfl rfl rfl (va_Nw.of rfl (j_word hF h5 rfl)) m1 ⟨m6, m7, h3⟩ (j_room hF hg)
    exact va_runSN S hM ⟨cw, m2, trivial⟩ ⟨j_FB w h _, j_PU hR hF.2.2.2.2.2.2.1 _⟩ rfl hn hsz (j_tk w st _) hW (j_dec h1) ⟨hce, hsl⟩
  · have cw := callB_of (index := j_ix o) (own := (j_y f).cls) (R := R) (rm := j_rm d mc ms) (mc := mc) (ms := ms) (j_yy o) (j_Ts hF) (j_GI hg) rfl rfl rfl m1 (j_word hF h5 rfl) ⟨m6, m7, h3⟩ (j_room hF hg)
    exact va_runS S hM ⟨cw, m2⟩ ⟨j_FB w h _, j_PU hR hF.2.2.2.2.2.2.1 _⟩ rfl hn hsz (j_tk w st _) hW (j_dec h1) ⟨hce, hsl⟩

theorem z_vir : j_Snd (h_vir, c_vir) := by
  intro f pc o ls st h hc
  show match (h_vir) o (pc, ls, st, h) with | none => True | some (.inl s') => j_Step f pc ls st h s' | some (.inr (.inl r)) => r.2 = h ∧ st = pu r.1 [] ∧ j_RetAt f pc r.1 | some (.inr (.inr q)) => j_Cal f pc ls st h q.1 q.2.1 q.2.2
  simp only [h_vir, j_call]
  split <;> rename_i hm <;> (repeat' split at hm)
  all_goals first | trivial | (cases hm; done) | skip
  all_goals cases hm
  rename_i b as hst hlen _ k fs hg1 hk hr
  simp only [c_vir, j_ar, Bool.and_eq_true, beq_iff_eq, decide_eq_true_eq] at hc
  obtain ⟨⟨⟨⟨⟨h1, h2⟩, h3, hg⟩, h4⟩, h5⟩, h6⟩ := hc
  refine ⟨hg, h2, rfl, rfl, hr.2, ?_⟩
  intro w p l e R s m args below meth c d H locs cells slots mc ms lsA Qc free hF hR hsz hce hsl hM
  obtain ⟨m1, m2, m3, -, m5, m6, m7, m8⟩ := j_mfacts hF hg
  rw [if_neg (by rw [h4]; decide)] at m2
  have hn : (as.map (cv w)).length = j_yy o := by rw [List.length_map, hlen]
  have hW : 2 * (F0 m pc lsA (st.map (cv w))).monitorRoom + (((st.drop (j_yy o + 1)).map (cv w)).map fun v => v.category).sum ≤ 8 := lv_room (m := m) (pc := pc) (ls := lsA) (rest := st.map (cv w)) (j_sum w hr.1)
  have S : CallFix p m c (j_code f) (j_ml f) s args (lw_tbl.filter goodWord) (j_y f).cls := ⟨hF.1, hF.2.1, hF.2.2.1, hF.2.2.2.1, j_Ts hF⟩
  have hstk : st.map (cv w) = (as.map (cv w)).reverse ++ .ref (ad w b) :: (st.drop (j_yy o + 1)).map (cv w) := by
    rw [j_tk w st (j_yy o + 1), hst, List.map_cons, List.reverse_cons, List.append_assoc]
    rfl
  split at h6
  · rename_i C T N hC
    have hkz : (j_z o).toNat = k := by rw [← hk]; rfl
    rw [hkz] at hC
    obtain ⟨r, g0, cell, g1, g2, g3, -⟩ := hR.at (j_nz hR hg1) hg1
    have hcl := (hF.2.2.2.2.2.2.1.1.1 k _ hC).2.1
    have hrec : ∃ cellB : Cell, H[ad w b]? = some cellB ∧ cellB.vm.isStatics = false ∧ s.vm.findClass (j_y (j_x o)).cls = some cellB.cls := ⟨cell, g1, by rw [g3]; rfl, by rw [← of_decide_eq_true h6, g2]; exact hcl⟩
    have hpre : PreV s H (j_y (j_x o)).cls (ad w b) (j_Pc w h (.ref b :: as)) (as.map (cv w)) := ⟨j_FB w h _, hrec, j_PU hR hF.2.2.2.2.2.2.1 (.ref b :: as)⟩
    unfold j_ln at h5
    rw [if_neg (by decide)] at h5
    have cw := callB_of (index := j_ix o) (own := (j_y f).cls) (R := R) (rm := j_rm d mc ms) (mc := mc) (ms := ms) (j_yy o) (j_Ts hF) (j_GI hg) rfl rfl rfl m1 (j_word hF h5 rfl) ⟨m6, m7, h3⟩ (j_room hF hg)
    exact va_runV S hM ⟨cw, m2, m3 h4⟩ hpre rfl hn hsz hstk hW (j_dec h1) ⟨hce, hsl⟩
  · cases h6

theorem z_virN : j_Snd (h_vir, c_virN) := by
  intro f pc o ls st h hc
  show match (h_vir) o (pc, ls, st, h) with | none => True | some (.inl s') => j_Step f pc ls st h s' | some (.inr (.inl r)) => r.2 = h ∧ st = pu r.1 [] ∧ j_RetAt f pc r.1 | some (.inr (.inr q)) => j_Cal f pc ls st h q.1 q.2.1 q.2.2
  simp only [h_vir, j_call]
  split <;> rename_i hm <;> (repeat' split at hm)
  all_goals first | trivial | (cases hm; done) | skip
  all_goals cases hm
  rename_i b as hst hlen _ k fs hg1 hk hr
  simp only [c_virN, j_ar, Bool.and_eq_true, beq_iff_eq, decide_eq_true_eq] at hc
  obtain ⟨⟨⟨⟨⟨h1, h2⟩, h3, hg⟩, h4⟩, h5⟩, h6⟩ := hc
  refine ⟨hg, h2, rfl, rfl, hr.2, ?_⟩
  intro w p l e R s m args below meth c d H locs cells slots mc ms lsA Qc free hF hR hsz hce hsl hM
  obtain ⟨m1, m2, m3, -, m5, m6, m7, m8⟩ := j_mfacts hF hg
  rw [if_neg (by rw [h4]; decide)] at m2
  have hn : (as.map (cv w)).length = j_yy o := by rw [List.length_map, hlen]
  have hW : 2 * (F0 m pc lsA (st.map (cv w))).monitorRoom + (((st.drop (j_yy o + 1)).map (cv w)).map fun v => v.category).sum ≤ 8 := lv_room (m := m) (pc := pc) (ls := lsA) (rest := st.map (cv w)) (j_sum w hr.1)
  have S : CallFix p m c (j_code f) (j_ml f) s args (lw_tbl.filter goodWord) (j_y f).cls := ⟨hF.1, hF.2.1, hF.2.2.1, hF.2.2.2.1, j_Ts hF⟩
  have hstk : st.map (cv w) = (as.map (cv w)).reverse ++ .ref (ad w b) :: (st.drop (j_yy o + 1)).map (cv w) := by
    rw [j_tk w st (j_yy o + 1), hst, List.map_cons, List.reverse_cons, List.append_assoc]
    rfl
  split at h6
  · rename_i C T N hC
    have hkz : (j_z o).toNat = k := by rw [← hk]; rfl
    rw [hkz] at hC
    obtain ⟨r, g0, cell, g1, g2, g3, -⟩ := hR.at (j_nz hR hg1) hg1
    have hcl := (hF.2.2.2.2.2.2.1.1.1 k _ hC).2.1
    have hrec : ∃ cellB : Cell, H[ad w b]? = some cellB ∧ cellB.vm.isStatics = false ∧ s.vm.findClass (j_y (j_x o)).cls = some cellB.cls := ⟨cell, g1, by rw [g3]; rfl, by rw [← of_decide_eq_true h6, g2]; exact hcl⟩
    have hpre : PreV s H (j_y (j_x o)).cls (ad w b) (j_Pc w h (.ref b :: as)) (as.map (cv w)) := ⟨j_FB w h _, hrec, j_PU hR hF.2.2.2.2.2.2.1 (.ref b :: as)⟩
    unfold j_ln at h5
    rw [if_pos rfl] at h5
    have cw := va_cnB (host := "ThinTables") (index := j_ix o) (own := (j_y f).cls) (R := R) (rm := j_rm d mc ms) (mc := mc) (ms := ms) (j_yy o) (j_Ts hF) (j_GI hg) rfl rfl rfl (va_Nw.of rfl (j_word hF h5 rfl)) m1 ⟨m6, m7, h3⟩ (j_room hF hg)
    exact va_runVN S hM ⟨cw, m2, m3 h4⟩ hpre rfl hn hsz hstk hW (j_dec h1) ⟨hce, hsl⟩
  · cases h6

theorem z_spe : j_Snd (h_spe, c_spe) := by
  intro f pc o ls st h hc
  show match (h_spe) o (pc, ls, st, h) with | none => True | some (.inl s') => j_Step f pc ls st h s' | some (.inr (.inl r)) => r.2 = h ∧ st = pu r.1 [] ∧ j_RetAt f pc r.1 | some (.inr (.inr q)) => j_Cal f pc ls st h q.1 q.2.1 q.2.2
  simp only [h_spe, j_call]
  split <;> rename_i hm <;> (repeat' split at hm)
  all_goals first | trivial | (cases hm; done) | skip
  all_goals cases hm
  rename_i b as hst hlen hr
  simp only [c_spe, j_ar, Bool.and_eq_true, beq_iff_eq, decide_eq_true_eq] at hc
  obtain ⟨⟨⟨⟨⟨h1, h2⟩, h3, hg⟩, h4⟩, h6⟩, h5⟩ := hc
  refine ⟨hg, h2, rfl, rfl, hr.2, ?_⟩
  intro w p l e R s m args below meth c d H locs cells slots mc ms lsA Qc free hF hR hsz hce hsl hM
  obtain ⟨m1, m2, -, m4, m5, m6, m7, m8⟩ := j_mfacts hF hg
  rw [if_neg (by rw [h4]; decide)] at m2
  have hn : (as.map (cv w)).length = j_yy o := by rw [List.length_map, hlen]
  have hW : 2 * (F0 m pc lsA (st.map (cv w))).monitorRoom + (((st.drop (j_yy o + 1)).map (cv w)).map fun v => v.category).sum ≤ 8 := lv_room (m := m) (pc := pc) (ls := lsA) (rest := st.map (cv w)) (j_sum w hr.1)
  have S : CallFix p m c (j_code f) (j_ml f) s args (lw_tbl.filter goodWord) (j_y f).cls := ⟨hF.1, hF.2.1, hF.2.2.1, hF.2.2.2.1, j_Ts hF⟩
  have hstk : st.map (cv w) = (as.map (cv w)).reverse ++ .ref (ad w b) :: (st.drop (j_yy o + 1)).map (cv w) := by
    rw [j_tk w st (j_yy o + 1), hst, List.map_cons, List.reverse_cons, List.append_assoc]
    rfl
  have hpre : PreS s H (j_Pc w h (.ref b :: as)) (.ref (ad w b) :: as.map (cv w)) := ⟨j_FB w h _, j_PU hR hF.2.2.2.2.2.2.1 (.ref b :: as)⟩
  have hws : j_ws (j_x o) = Cond.code (j_y (j_x o)) (j_code (j_x o)) (j_ml (j_x o)) none :: lw_tbl.filter goodWord := by unfold j_ws; rw [h6]
  unfold j_ln at h5
  split at h5
  · have cw := va_cnB (host := "ThinTables") (index := j_ix o) (own := (j_y f).cls) (R := R) (rm := j_rm d mc ms) (mc := mc) (ms := ms) (j_yy o) (j_Ts hF) (j_GI hg) hws rfl rfl (va_Nw.of rfl (j_word hF h5 rfl)) m1 ⟨m6, m7, h3⟩ (j_room hF hg)
    exact va_runIN S hM ⟨cw, m4 h4, m2⟩ hpre rfl hn hsz hstk hW (j_dec h1) ⟨hce, hsl⟩
  · have cw := callB_of (index := j_ix o) (own := (j_y f).cls) (R := R) (rm := j_rm d mc ms) (mc := mc) (ms := ms) (j_yy o) (j_Ts hF) (j_GI hg) hws rfl rfl m1 (j_word hF h5 rfl) ⟨m6, m7, h3⟩ (j_room hF hg)
    exact va_runI S hM ⟨cw, m4 h4, m2⟩ hpre rfl hn hsz hstk hW (j_dec h1) ⟨hce, hsl⟩
theorem j_ma_max : Cond.static Lib.Math.max.name ∈ lw_tbl ∧ Cond.initialized "java/lang/Math" ∈ lw_tbl := ⟨by decide +kernel, by decide +kernel⟩
theorem j_mb_max : Cond.code Lib.Math.max.name Lib.Math.max.code 2 (some .int) ∈ lw_tbl := by decide +kernel
theorem z_max : j_Snd (h_max, c_math Lib.Math.max.name) := by
  intro f pc o ls st h hc
  show match (h_max) o (pc, ls, st, h) with | none => True | some (.inl s') => j_Step f pc ls st h s' | some (.inr (.inl r)) => r.2 = h ∧ st = pu r.1 [] ∧ j_RetAt f pc r.1 | some (.inr (.inr q)) => j_Cal f pc ls st h q.1 q.2.1 q.2.2
  simp only [h_max]
  split <;> rename_i hm <;> (repeat' split at hm)
  all_goals first | trivial | (cases hm; done) | skip
  all_goals (try simp only [j_go] at hm)
  all_goals cases hm
  all_goals
    rename_i r hr
    refine ⟨⟨Nat.le_refl _, Nat.le_refl _⟩, ?_⟩
    intro w p l e R s m args below meth c d H locs cells slots Q lsA hF hR hL hlo hce hsl kk
    have k2 := kk H locs lsA hR hL hlo
    simp only [c_math, Bool.and_eq_true, beq_iff_eq] at hc
    have h0 : cells + (h.1 - h.1) ≤ R.cells := hce
    have h1 : slots + (h.2.1 - h.2.1) ≤ R.slots := hsl
    have hfr := hF.2.2.2.2.2.2.2
    have hsum := j_sum w hr
    have e0 : cells + (h.1 - h.1) = cells := by omega
    have e1 : slots + (h.2.1 - h.2.1) = slots := by omega
    refine va_mmax hF.1 hF.2.1 (by rw [hF.2.2.1]; exact hL.1.symm) hF.2.2.2.1 (j_word hF hc.2 rfl) (hF.2.2.2.2.1 _ j_ma_max.1 rfl) (hF.2.2.2.2.1 _ j_ma_max.2 rfl) (hF.2.2.2.2.1 _ j_mb_max rfl) (by omega) (by omega) (by omega) (by omega) (j_dec hc.1.1) ?_
    have k3 : W p l e R s m args below meth c H locs (cells + (h.1 - h.1)) (slots + (h.2.1 - h.2.1)) Q (F0 m (j_nx o) lsA _) := k2
    rw [e0, e1, hc.1.2] at k3
    exact k3

theorem j_ma_min : Cond.static Lib.Math.min.name ∈ lw_tbl ∧ Cond.initialized "java/lang/Math" ∈ lw_tbl := ⟨by decide +kernel, by decide +kernel⟩
theorem j_mb_min : Cond.code Lib.Math.min.name Lib.Math.min.code 2 (some .int) ∈ lw_tbl := by decide +kernel
theorem z_min : j_Snd (h_min, c_math Lib.Math.min.name) := by
  intro f pc o ls st h hc
  show match (h_min) o (pc, ls, st, h) with | none => True | some (.inl s') => j_Step f pc ls st h s' | some (.inr (.inl r)) => r.2 = h ∧ st = pu r.1 [] ∧ j_RetAt f pc r.1 | some (.inr (.inr q)) => j_Cal f pc ls st h q.1 q.2.1 q.2.2
  simp only [h_min]
  split <;> rename_i hm <;> (repeat' split at hm)
  all_goals first | trivial | (cases hm; done) | skip
  all_goals (try simp only [j_go] at hm)
  all_goals cases hm
  all_goals
    rename_i r hr
    refine ⟨⟨Nat.le_refl _, Nat.le_refl _⟩, ?_⟩
    intro w p l e R s m args below meth c d H locs cells slots Q lsA hF hR hL hlo hce hsl kk
    have k2 := kk H locs lsA hR hL hlo
    simp only [c_math, Bool.and_eq_true, beq_iff_eq] at hc
    have h0 : cells + (h.1 - h.1) ≤ R.cells := hce
    have h1 : slots + (h.2.1 - h.2.1) ≤ R.slots := hsl
    have hfr := hF.2.2.2.2.2.2.2
    have hsum := j_sum w hr
    have e0 : cells + (h.1 - h.1) = cells := by omega
    have e1 : slots + (h.2.1 - h.2.1) = slots := by omega
    refine va_mmin hF.1 hF.2.1 (by rw [hF.2.2.1]; exact hL.1.symm) hF.2.2.2.1 (j_word hF hc.2 rfl) (hF.2.2.2.2.1 _ j_ma_min.1 rfl) (hF.2.2.2.2.1 _ j_ma_min.2 rfl) (hF.2.2.2.2.1 _ j_mb_min rfl) (by omega) (by omega) (by omega) (by omega) (j_dec hc.1.1) ?_
    have k3 : W p l e R s m args below meth c H locs (cells + (h.1 - h.1)) (slots + (h.2.1 - h.2.1)) Q (F0 m (j_nx o) lsA _) := k2
    rw [e0, e1, hc.1.2] at k3
    exact k3

theorem j_ma_maxl : Cond.static Lib.MathLoose.max_long.x ∈ lw_tbl ∧ Cond.initialized "java/lang/Math" ∈ lw_tbl := ⟨by decide +kernel, by decide +kernel⟩
theorem j_mb_maxl : Cond.code Lib.MathLoose.max_long.x Lib.MathLoose.max_long.code 4 (some .long) ∈ lw_tbl := by decide +kernel
theorem z_maxl : j_Snd (h_maxl, c_math Lib.MathLoose.max_long.x) := by
  intro f pc o ls st h hc
  show match (h_maxl) o (pc, ls, st, h) with | none => True | some (.inl s') => j_Step f pc ls st h s' | some (.inr (.inl r)) => r.2 = h ∧ st = pu r.1 [] ∧ j_RetAt f pc r.1 | some (.inr (.inr q)) => j_Cal f pc ls st h q.1 q.2.1 q.2.2
  simp only [h_maxl]
  split <;> rename_i hm <;> (repeat' split at hm)
  all_goals first | trivial | (cases hm; done) | skip
  all_goals (try simp only [j_go] at hm)
  all_goals cases hm
  all_goals
    rename_i r hr
    refine ⟨⟨Nat.le_refl _, Nat.le_refl _⟩, ?_⟩
    intro w p l e R s m args below meth c d H locs cells slots Q lsA hF hR hL hlo hce hsl kk
    have k2 := kk H locs lsA hR hL hlo
    simp only [c_math, Bool.and_eq_true, beq_iff_eq] at hc
    have h0 : cells + (h.1 - h.1) ≤ R.cells := hce
    have h1 : slots + (h.2.1 - h.2.1) ≤ R.slots := hsl
    have hfr := hF.2.2.2.2.2.2.2
    have hsum := j_sum w hr
    have e0 : cells + (h.1 - h.1) = cells := by omega
    have e1 : slots + (h.2.1 - h.2.1) = slots := by omega
    refine va_mmax_long hF.1 hF.2.1 (by rw [hF.2.2.1]; exact hL.1.symm) hF.2.2.2.1 (j_word hF hc.2 rfl) (hF.2.2.2.2.1 _ j_ma_maxl.1 rfl) (hF.2.2.2.2.1 _ j_ma_maxl.2 rfl) (hF.2.2.2.2.1 _ j_mb_maxl rfl) (by omega) (by omega) (by omega) (by omega) (j_dec hc.1.1) ?_
    have k3 : W p l e R s m args below meth c H locs (cells + (h.1 - h.1)) (slots + (h.2.1 - h.2.1)) Q (F0 m (j_nx o) lsA _) := k2
    rw [e0, e1, hc.1.2] at k3
    exact k3

theorem j_ma_absl : Cond.static Lib.MathLoose.abs_long.x ∈ lw_tbl ∧ Cond.initialized "java/lang/Math" ∈ lw_tbl := ⟨by decide +kernel, by decide +kernel⟩
theorem j_mb_absl : Cond.code Lib.MathLoose.abs_long.x Lib.MathLoose.abs_long.code 2 (some .long) ∈ lw_tbl := by decide +kernel
theorem z_absl : j_Snd (h_absl, c_math Lib.MathLoose.abs_long.x) := by
  intro f pc o ls st h hc
  show match (h_absl) o (pc, ls, st, h) with | none => True | some (.inl s') => j_Step f pc ls st h s' | some (.inr (.inl r)) => r.2 = h ∧ st = pu r.1 [] ∧ j_RetAt f pc r.1 | some (.inr (.inr q)) => j_Cal f pc ls st h q.1 q.2.1 q.2.2
  simp only [h_absl]
  split <;> rename_i hm <;> (repeat' split at hm)
  all_goals first | trivial | (cases hm; done) | skip
  all_goals (try simp only [j_go] at hm)
  all_goals cases hm
  all_goals
    rename_i r hr
    refine ⟨⟨Nat.le_refl _, Nat.le_refl _⟩, ?_⟩
    intro w p l e R s m args below meth c d H locs cells slots Q lsA hF hR hL hlo hce hsl kk
    have k2 := kk H locs lsA hR hL hlo
    simp only [c_math, Bool.and_eq_true, beq_iff_eq] at hc
    have h0 : cells + (h.1 - h.1) ≤ R.cells := hce
    have h1 : slots + (h.2.1 - h.2.1) ≤ R.slots := hsl
    have hfr := hF.2.2.2.2.2.2.2
    have hsum := j_sum w hr
    have e0 : cells + (h.1 - h.1) = cells := by omega
    have e1 : slots + (h.2.1 - h.2.1) = slots := by omega
    refine va_mabs_long hF.1 hF.2.1 (by rw [hF.2.2.1]; exact hL.1.symm) hF.2.2.2.1 (j_word hF hc.2 rfl) (hF.2.2.2.2.1 _ j_ma_absl.1 rfl) (hF.2.2.2.2.1 _ j_ma_absl.2 rfl) (hF.2.2.2.2.1 _ j_mb_absl rfl) (by omega) (by omega) (by omega) (by omega) (j_dec hc.1.1) ?_
    have k3 : W p l e R s m args below meth c H locs (cells + (h.1 - h.1)) (slots + (h.2.1 - h.2.1)) Q (F0 m (j_nx o) lsA _) := k2
    rw [e0, e1, hc.1.2] at k3
    exact k3
