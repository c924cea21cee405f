theorem j_rd {w : j_W} {s : State} {h : j_H} {H : Heap} {a n : Nat} {f : Nat → Int32} (hK : j_KC w s) (hR : j_Rel w s h H) (hc : hg h a = some (.inl (n, f))) :
    ∃ cell : Cell, H[ad w a]? = some cell ∧ s.isArrayOf cell .int ∧ cell.vm ≠ .unknown ∧ cell.slots.size = n ∧ ∀ j : Nat, j < n → cell.slots[j]? = some (.int (f j)) := by
  obtain ⟨h1, h2⟩ := hR.2.2.2 a _ hc
  by_cases ha : a = 0
  · rw [if_pos ha] at h2
    obtain ⟨L, xs, e, scr, g1, g2, g3, g4, g5⟩ := h2
    cases e
    exact ⟨scr, by rw [ha]; exact g1, g2, g3, g4, g5⟩
  · rw [if_neg ha] at h2
    have h3 : H[ad w a]? = some (arrV w.2.2.1 n (fun j => .int (f j))) := h2
    exact ⟨_, h3, (hK.1.2 0 _ rfl).1 n _, (fun q => by cases q), arrV_size _ _ _, fun j hj => arrV_read _ _ hj⟩
theorem j_nz {w : j_W} {s : State} {h : j_H} {H : Heap} {a : Nat} {c : (Nat × (Nat → Int64)) ⊕ ((Nat × (Nat → Option Nat)) ⊕ (Nat × List Value))} (hR : j_Rel w s h H) (hc : hg h a = some (.inr c)) : a ≠ 0 := by
  intro e
  have h2 := (hR.2.2.2 a _ hc).2
  rw [if_pos e] at h2
  obtain ⟨L, xs, e, -⟩ := h2
  cases e
theorem j_asg (vm : Vm) (q : ClassId) : vm.assignable q q = true := by
  show (q == q || _) = true
  simp
theorem up_V (f : Nat → Value) (k : Nat) (x : Value) : updV f k x = up f k x := rfl

theorem z_iald : j_Snd (h_iald, c_one .iaload) := by
  intro f pc o ls st h hc
  show match (h_iald) o (pc, ls, st, h) with | none => True | some (.inl s') => j_Step f pc ls st h s' | some (.inr (.inl r)) => r.2 = h ∧ st = pu r.1 [] ∧ j_RetAt f pc r.1 | some (.inr (.inr q)) => j_Cal f pc ls st h q.1 q.2.1 q.2.2
  simp only [h_iald]
  split <;> rename_i hm <;> (repeat' split at hm)
  all_goals first | trivial | (cases hm; done) | skip
  all_goals (try simp only [j_go] at hm)
  all_goals cases hm
  rename_i i a r _ n g hg1 hin
  refine j_Stp.step ?_ rfl rfl
  intro w p l e R s m args below meth c d H locs cells slots Q lsA hF hR hL hlo kk
  have k2 := kk H locs lsA hR hL hlo
  simp only [c_one, Bool.and_eq_true, beq_iff_eq] at hc
  rw [hc.2] at k2
  obtain ⟨cell, g1, g2, g3, g4, g5⟩ := j_rd hF.2.2.2.2.2.2.1 hR hg1
  have hlt : i.toNatClampNeg < n := Nat.not_le.mp fun q => hin (Or.inr q)
  exact W.iald (v := .int (g i.toNatClampNeg)) hF.1 hF.2.1 g1 g2 g3 (by rw [g4]; exact hin) (g5 _ hlt) rfl rfl (j_dec hc.1) k2

theorem z_alen : j_Snd (h_alen, c_one .arraylength) := by
  intro f pc o ls st h hc
  show match (h_alen) o (pc, ls, st, h) with | none => True | some (.inl s') => j_Step f pc ls st h s' | some (.inr (.inl r)) => r.2 = h ∧ st = pu r.1 [] ∧ j_RetAt f pc r.1 | some (.inr (.inr q)) => j_Cal f pc ls st h q.1 q.2.1 q.2.2
  simp only [h_alen]
  split <;> rename_i hm <;> (repeat' split at hm)
  all_goals first | trivial | (cases hm; done) | skip
  all_goals (try simp only [j_go] at hm)
  all_goals cases hm
  rename_i a r _ n g hg1
  refine j_Stp.step ?_ rfl rfl
  intro w p l e R s m args below meth c d H locs cells slots Q lsA hF hR hL hlo kk
  have k2 := kk H locs lsA hR hL hlo
  simp only [c_one, Bool.and_eq_true, beq_iff_eq] at hc
  rw [hc.2] at k2
  obtain ⟨cell, g1, g2, g3, g4, g5⟩ := j_rd hF.2.2.2.2.2.2.1 hR hg1
  exact W.alen hF.1 hF.2.1 g1 g2 (by rw [g4]) rfl rfl (j_dec hc.1) k2

theorem z_iast : j_Snd (h_iast, c_one .iastore) := by
  intro f pc o ls st h hc
  show match (h_iast) o (pc, ls, st, h) with | none => True | some (.inl s') => j_Step f pc ls st h s' | some (.inr (.inl r)) => r.2 = h ∧ st = pu r.1 [] ∧ j_RetAt f pc r.1 | some (.inr (.inr q)) => j_Cal f pc ls st h q.1 q.2.1 q.2.2
  simp only [h_iast]
  split <;> rename_i hm <;> (repeat' split at hm)
  all_goals first | trivial | (cases hm; done) | skip
  all_goals (try simp only [j_go] at hm)
  all_goals cases hm
  rename_i x i a r _ n g hg1 hin
  refine j_Stp.step ?_ rfl rfl
  intro w p l e R s m args below meth c d H locs cells slots Q lsA hF hR hL hlo kk
  simp only [c_one, Bool.and_eq_true, beq_iff_eq] at hc
  have ha : a ≠ 0 := fun q => hin (Or.inr q)
  have hi : ¬ (i < 0 ∨ n ≤ i.toNatClampNeg) := fun q => hin (Or.inl q)
  have h3 : H[ad w a]? = some (arrV w.2.2.1 n (fun j => .int (g j))) := hR.at ha hg1
  refine W.iast hF.1 hF.2.1 h3 ((hF.2.2.2.2.2.2.1.1.2 0 _ rfl).1 n _) (fun q => by cases q) (by rw [arrV_size]; exact hi) rfl rfl (j_dec hc.1) (fun H' e1 e2 e3 => ?_)
  have hR' : j_Rel w s (hs h a (aI n (up g i.toNatClampNeg x))) H' := by
    refine hR.set ha hg1 ?_ e2 e3
    show H'[ad w a]? = some (arrV w.2.2.1 n (fun j => .int (up g i.toNatClampNeg x j)))
    rw [e1, arrV_store]
    congr 2
    funext q
    by_cases hq : q = i.toNatClampNeg <;> simp [updV, up, hq]
  have k2 := kk H' (locs ++ [⟨ad w a, i.toNatClampNeg⟩]) lsA hR' hL (t_lc hlo (ad_pos ha))
  rw [hc.2] at k2
  exact k2

theorem z_lald : j_Snd (h_lald, c_one .laload) := by
  intro f pc o ls st h hc
  show match (h_lald) o (pc, ls, st, h) with | none => True | some (.inl s') => j_Step f pc ls st h s' | some (.inr (.inl r)) => r.2 = h ∧ st = pu r.1 [] ∧ j_RetAt f pc r.1 | some (.inr (.inr q)) => j_Cal f pc ls st h q.1 q.2.1 q.2.2
  simp only [h_lald]
  split <;> rename_i hm <;> (repeat' split at hm)
  all_goals first | trivial | (cases hm; done) | skip
  all_goals (try simp only [j_go] at hm)
  all_goals cases hm
  rename_i i a r _ n g hg1 hin
  refine j_Stp.step ?_ rfl rfl
  intro w p l e R s m args below meth c d H locs cells slots Q lsA hF hR hL hlo kk
  have k2 := kk H locs lsA hR hL hlo
  simp only [c_one, Bool.and_eq_true, beq_iff_eq] at hc
  rw [hc.2] at k2
  have ha : a ≠ 0 := j_nz hR hg1
  have hi : ¬ (i < 0 ∨ n ≤ i.toNatClampNeg) := hin
  have hlt : i.toNatClampNeg < n := Nat.not_le.mp fun q => hi (Or.inr q)
  have h3 : H[ad w a]? = some (arrV w.2.2.2.1 n (fun j => .long (g j))) := hR.at ha hg1
  exact W.lald (v := .long (g i.toNatClampNeg)) hF.1 hF.2.1 h3 ((hF.2.2.2.2.2.2.1.1.2 1 _ rfl).1 n _) (fun q => by cases q) (by rw [arrV_size]; exact hi) (arrV_read _ _ hlt) rfl rfl (j_dec hc.1) k2

theorem z_last : j_Snd (h_last, c_one .lastore) := by
  intro f pc o ls st h hc
  show match (h_last) o (pc, ls, st, h) with | none => True | some (.inl s') => j_Step f pc ls st h s' | some (.inr (.inl r)) => r.2 = h ∧ st = pu r.1 [] ∧ j_RetAt f pc r.1 | some (.inr (.inr q)) => j_Cal f pc ls st h q.1 q.2.1 q.2.2
  simp only [h_last]
  split <;> rename_i hm <;> (repeat' split at hm)
  all_goals first | trivial | (cases hm; done) | skip
  all_goals (try simp only [j_go] at hm)
  all_goals cases hm
  rename_i x i a r _ n g hg1 hin
  refine j_Stp.step ?_ rfl rfl
  intro w p l e R s m args below meth c d H locs cells slots Q lsA hF hR hL hlo kk
  simp only [c_one, Bool.and_eq_true, beq_iff_eq] at hc
  have ha : a ≠ 0 := j_nz hR hg1
  have hi : ¬ (i < 0 ∨ n ≤ i.toNatClampNeg) := hin
  have h3 : H[ad w a]? = some (arrV w.2.2.2.1 n (fun j => .long (g j))) := hR.at ha hg1
  refine W.last hF.1 hF.2.1 h3 ((hF.2.2.2.2.2.2.1.1.2 1 _ rfl).1 n _) (fun q => by cases q) (by rw [arrV_size]; exact hi) rfl rfl (j_dec hc.1) (fun H' e1 e2 e3 => ?_)
  have hR' : j_Rel w s (hs h a (aL n (up g i.toNatClampNeg x))) H' := by
    refine hR.set ha hg1 ?_ e2 e3
    show H'[ad w a]? = some (arrV w.2.2.2.1 n (fun j => .long (up g i.toNatClampNeg x j)))
    rw [e1, arrV_store]
    congr 2
    funext q
    by_cases hq : q = i.toNatClampNeg <;> simp [updV, up, hq]
  have k2 := kk H' (locs ++ [⟨ad w a, i.toNatClampNeg⟩]) lsA hR' hL (t_lc hlo (ad_pos ha))
  rw [hc.2] at k2
  exact k2

theorem z_aald : j_Snd (h_aald, c_one .aaload) := by
  intro f pc o ls st h hc
  show match (h_aald) o (pc, ls, st, h) with | none => True | some (.inl s') => j_Step f pc ls st h s' | some (.inr (.inl r)) => r.2 = h ∧ st = pu r.1 [] ∧ j_RetAt f pc r.1 | some (.inr (.inr q)) => j_Cal f pc ls st h q.1 q.2.1 q.2.2
  simp only [h_aald]
  split <;> rename_i hm <;> (repeat' split at hm)
  all_goals first | trivial | (cases hm; done) | skip
  all_goals (try simp only [j_go] at hm)
  all_goals cases hm
  rename_i i a r _ n g hg1 hin
  refine j_Stp.step ?_ rfl rfl
  intro w p l e R s m args below meth c d H locs cells slots Q lsA hF hR hL hlo kk
  have k2 := kk H locs lsA hR hL hlo
  simp only [c_one, Bool.and_eq_true, beq_iff_eq] at hc
  rw [hc.2] at k2
  have ha : a ≠ 0 := j_nz hR hg1
  have hi : ¬ (i < 0 ∨ n ≤ i.toNatClampNeg) := hin
  have hlt : i.toNatClampNeg < n := Nat.not_le.mp fun q => hi (Or.inr q)
  have h3 : H[ad w a]? = some (arrV w.2.2.2.2 n (fun j => va_rf ((g j).map (ad w)))) := hR.at ha hg1
  exact W.aald (v := cv w (rV (g i.toNatClampNeg))) (ty := .array .int) hF.1 hF.2.1 h3 ((hF.2.2.2.2.2.2.1.1.2 2 _ rfl).1 n _) rfl (fun q => by cases q) (by rw [arrV_size]; exact hi) (by rw [arrV_read _ _ hlt, cv_rV]) rfl rfl (j_dec hc.1) k2

theorem j_rows {w : j_W} {s : State} (hK : j_KC w s) : ∃ kA kI : Class, s.vm.classes[w.2.2.2.2]? = some kA ∧ kA.kind = .array w.2.2.1 (.array .int) ∧ s.vm.classes[w.2.2.1]? = some kI := by
  obtain ⟨comp, cc, k, g1, -, g2, g3, g4⟩ := arrayOverA_spec (show (Cond.arrayOver (.array .int)).holds #[] s none s [] = true from hK.2.1)
  have r1 : s.vm.findClass ("[" ++ FieldType.int.toString) = some w.2.2.1 := (hK.1.2 0 _ rfl).2
  have r2 : s.vm.findClass ("[" ++ (FieldType.array .int).toString) = some w.2.2.2.2 := (hK.1.2 2 _ rfl).2
  have e1 : comp = w.2.2.1 := Option.some.inj (g1.symm.trans r1)
  have e2 : cc = w.2.2.2.2 := Option.some.inj (g4.symm.trans r2)
  subst e1
  subst e2
  obtain ⟨-, kI, hkI, -⟩ := (hK.1.2 0 _ rfl).1 0 (fun _ => .null)
  exact ⟨k, kI, g2, g3, hkI⟩

theorem z_aast : j_Snd (h_aast, c_one .aastore) := by
  intro f pc o ls st h hc
  show match (h_aast) o (pc, ls, st, h) with | none => True | some (.inl s') => j_Step f pc ls st h s' | some (.inr (.inl r)) => r.2 = h ∧ st = pu r.1 [] ∧ j_RetAt f pc r.1 | some (.inr (.inr q)) => j_Cal f pc ls st h q.1 q.2.1 q.2.2
  simp only [h_aast]
  split <;> rename_i hm <;> (repeat' split at hm)
  all_goals first | trivial | (cases hm; done) | skip
  all_goals (try simp only [j_go] at hm)
  all_goals cases hm
  rename_i v i a r _ _ n g vv hg1 hg2 hin
  refine j_Stp.step ?_ rfl rfl
  intro w p l e R s m args below meth c d H locs cells slots Q lsA hF hR hL hlo kk
  simp only [c_one, Bool.and_eq_true, beq_iff_eq] at hc
  have hv : v ≠ 0 := fun q => hin (Or.inr q)
  have ha : a ≠ 0 := j_nz hR hg1
  have hi : ¬ (i < 0 ∨ n ≤ i.toNatClampNeg) := fun q => hin (Or.inl q)
  have hlt : i.toNatClampNeg < n := Nat.not_le.mp fun q => hi (Or.inr q)
  obtain ⟨n2, g2⟩ := vv
  have h3 : H[ad w a]? = some (arrV w.2.2.2.2 n (fun j => va_rf ((g j).map (ad w)))) := hR.at ha hg1
  have h4 : H[ad w v]? = some (arrV w.2.2.1 n2 (fun j => .int (g2 j))) := hR.at hv hg2
  obtain ⟨kA, kI, q1, q2, q3⟩ := j_rows hF.2.2.2.2.2.2.1
  refine W.aast hF.1 hF.2.1 h3 (fun q h => by cases h) (fun h => by cases h) q1 q2 rfl q3 ⟨fun q => hi (Or.inl q), by rw [arrV_size]; exact hlt⟩ h4 (fun q h => by cases h) q3 (j_asg _ _) rfl rfl (j_dec hc.1) (fun H' e1 e2 e3 => ?_)
  have hR' : j_Rel w s (hs h a (aR n (up g i.toNatClampNeg (some v)))) H' := by
    refine hR.set ha hg1 ?_ e2 e3
    show H'[ad w a]? = some (arrV w.2.2.2.2 n (fun j => va_rf ((up g i.toNatClampNeg (some v) j).map (ad w))))
    rw [e1, arrV_store]
    congr 2
    funext q
    by_cases hq : q = i.toNatClampNeg <;> simp [updV, up, hq, va_rf]
  have k2 := kk H' (locs ++ [⟨ad w a, i.toNatClampNeg⟩]) lsA hR' hL (t_lc hlo (ad_pos ha))
  rw [hc.2] at k2
  exact k2

theorem j_sok_get {pc : Nat} : ∀ (as : List Int) (bs : List Nat) (i t : Nat), j_sok pc as bs = true → bs[i]? = some t → ∃ a, as[i]? = some a ∧ (pc : Int) + a = (t : Int)
  | [], [], i, t, _, h => by simp at h
  | [], _ :: _, i, t, h, _ => by simp [j_sok] at h
  | _ :: _, [], i, t, h, _ => by simp [j_sok] at h
  | a :: as, b :: bs, 0, t, h, hb => by
    simp [j_sok] at h hb
    exact ⟨a, rfl, by rw [h.1, hb]⟩
  | a :: as, b :: bs, i + 1, t, h, hb => by
    simp only [j_sok, Bool.and_eq_true] at h
    simpa using j_sok_get as bs i t h.2 (by simpa using hb)

theorem z_sw : j_Snd (h_sw, c_sw) := by
  intro f pc o ls st h hc
  show match (h_sw) o (pc, ls, st, h) with | none => True | some (.inl s') => j_Step f pc ls st h s' | some (.inr (.inl r)) => r.2 = h ∧ st = pu r.1 [] ∧ j_RetAt f pc r.1 | some (.inr (.inr q)) => j_Cal f pc ls st h q.1 q.2.1 q.2.2
  simp only [h_sw]
  split <;> rename_i hm <;> (repeat' split at hm)
  all_goals first | trivial | (cases hm; done) | skip
  all_goals (try simp only [j_go] at hm)
  all_goals cases hm
  all_goals
    refine j_Stp.step ?_ rfl rfl
    intro w p l e R s m args below meth c d H locs cells slots Q lsA hF hR hL hlo kk
    have k2 := kk H locs lsA hR hL hlo
    simp only [c_sw, Bool.and_eq_true] at hc
    obtain ⟨hc1, hc2⟩ := hc
    split at hc1
  · rename_i hlo2 _ d lo hi offs len hd
    simp only [Bool.and_eq_true, decide_eq_true_eq] at hc1
    obtain ⟨⟨⟨⟨e1, e2⟩, e3⟩, e4⟩, e5⟩ := hc1
    exact lv_tableOut hF.1 hF.2.1 hd (by rw [e2, e3]; exact hlo2) e5 k2
  · cases hc1
  · rename_i hno _ tt ht _ d lo hi offs len hd
    simp only [Bool.and_eq_true, decide_eq_true_eq] at hc1
    obtain ⟨⟨⟨⟨e1, e2⟩, e3⟩, e4⟩, e5⟩ := hc1
    obtain ⟨a, ha, hs⟩ := j_sok_get _ _ _ _ hc2 ht
    refine lv_tableIn (off := a) hF.1 hF.2.1 hd (by rw [e2]; exact fun q => hno (Or.inl q)) (by rw [e3]; exact fun q => hno (Or.inr q)) ?_ hs k2
    rw [← e4, Array.getElem?_toList] at ha
    rw [e2]
    exact ha
  · cases hc1

theorem z_iret : j_Snd (h_iret, c_iret) := by
  intro f pc o ls st h hc
  show match (h_iret) o (pc, ls, st, h) with | none => True | some (.inl s') => j_Step f pc ls st h s' | some (.inr (.inl r)) => r.2 = h ∧ st = pu r.1 [] ∧ j_RetAt f pc r.1 | some (.inr (.inr q)) => j_Cal f pc ls st h q.1 q.2.1 q.2.2
  simp only [h_iret]
  split <;> rename_i hm <;> (repeat' split at hm)
  all_goals first | trivial | (cases hm; done) | skip
  all_goals (try simp only [j_go] at hm)
  all_goals cases hm
  rename_i v hv
  refine ⟨rfl, rfl, ?_⟩
  simp only [c_iret, Bool.and_eq_true] at hc
  refine ⟨j_dec hc.1, ?_⟩
  have h2 := hc.2
  split at h2
  · exact Or.inl (of_decide_eq_true h2)
  · rename_i hz
    exact Or.inr ⟨of_decide_eq_true h2, hv.resolve_left hz⟩

theorem z_lret : j_Snd (h_lret, c_lret) := by
  intro f pc o ls st h hc
  show match (h_lret) o (pc, ls, st, h) with | none => True | some (.inl s') => j_Step f pc ls st h s' | some (.inr (.inl r)) => r.2 = h ∧ st = pu r.1 [] ∧ j_RetAt f pc r.1 | some (.inr (.inr q)) => j_Cal f pc ls st h q.1 q.2.1 q.2.2
  simp only [h_lret]
  split <;> rename_i hm <;> (repeat' split at hm)
  all_goals first | trivial | (cases hm; done) | skip
  all_goals (try simp only [j_go] at hm)
  all_goals cases hm
  simp only [c_lret, Bool.and_eq_true] at hc
  exact ⟨rfl, rfl, of_decide_eq_true hc.2, j_dec hc.1⟩

theorem z_ret : j_Snd (h_ret, c_ret) := by
  intro f pc o ls st h hc
  show match (h_ret) o (pc, ls, st, h) with | none => True | some (.inl s') => j_Step f pc ls st h s' | some (.inr (.inl r)) => r.2 = h ∧ st = pu r.1 [] ∧ j_RetAt f pc r.1 | some (.inr (.inr q)) => j_Cal f pc ls st h q.1 q.2.1 q.2.2
  simp only [h_ret]
  split <;> rename_i hm <;> (repeat' split at hm)
  all_goals first | trivial | (cases hm; done) | skip
  all_goals (try simp only [j_go] at hm)
  all_goals cases hm
  simp only [c_ret, Bool.and_eq_true] at hc
  exact ⟨rfl, rfl, of_decide_eq_true hc.2, j_dec hc.1⟩

theorem j_obj1 : Cond.instanceMethod objectInit ∈ lw_tbl := by decide +kernel
theorem j_obj2 : Cond.code objectInit ⟨#[0xb1]⟩ 1 none ∈ lw_tbl := by decide +kernel
theorem z_obj : j_Snd (h_obj, c_obj) := by
  intro f pc o ls st h hc
  show match (h_obj) o (pc, ls, st, h) with | none => True | some (.inl s') => j_Step f pc ls st h s' | some (.inr (.inl r)) => r.2 = h ∧ st = pu r.1 [] ∧ j_RetAt f pc r.1 | some (.inr (.inr q)) => j_Cal f pc ls st h q.1 q.2.1 q.2.2
  simp only [h_obj]
  split <;> rename_i hm <;> (repeat' split at hm)
  all_goals first | trivial | (cases hm; done) | skip
  all_goals (try simp only [j_go] at hm)
  all_goals cases hm
  rename_i a r hr
  refine j_Stp.step ?_ rfl rfl
  intro w p l e R s m args below meth c d H locs cells slots Q lsA hF hR hL hlo kk
  have k2 := kk H locs lsA hR hL hlo
  simp only [c_obj, Bool.and_eq_true, beq_iff_eq] at hc
  rw [hc.1.2] at k2
  have hsum : ((r.map (cv w)).map fun v => v.category).sum ≤ 8 := by
    have : ∀ t : List Value, ((t.map (cv w)).map fun v => v.category).sum ≤ 2 * t.length := by
      intro t
      induction t with
      | nil => simp
      | cons x t ih =>
        have := lv_cat (cv w x)
        simp only [List.map_cons, List.sum_cons, List.length_cons]
        omega
    have := this r
    omega
  have hfr := hF.2.2.2.2.2.2.2
  refine W.objInit hF.1 hF.2.1 hF.2.2.2.1 (j_word hF hc.2 rfl) (hF.2.2.2.2.1 _ j_obj1 rfl) (hF.2.2.2.2.1 _ j_obj2 rfl) rfl (by rw [hF.2.2.1]; exact hL.1) rfl (j_dec hc.1.1) (by omega) (by show 2 * 0 + _ + 12 ≤ _; omega) k2

theorem j_cls {k : Nat} {C : String} {T : u_T} {N : Nat} (h : vwCl[k]? = some (C, T, N)) : (∀ q ∈ u_ws C T N, q ∈ lw_tbl) ∧ (∃ ty : Nat → FieldType, (∀ k, k < N → parseFieldDescriptor (T k).2.2.1 = some (ty k)) ∧ (N = j_nf k ∧ j_df k = (List.range N).map (fun j => defaultValue (ty j)))) ∧ (∀ a, a < N → ∀ b, b < N → a ≠ b → (T a).2.1 ≠ (T b).2.1) := by
  match k, h with
  | 0, h => cases h; exact ⟨j_u0, ⟨tyX0, tyX0_ok, rfl, rfl⟩, nmX0⟩
  | 1, h => cases h; exact ⟨j_u1, ⟨tyX1, tyX1_ok, rfl, rfl⟩, nmX1⟩
  | 2, h => cases h; exact ⟨j_u2, ⟨tyX2, tyX2_ok, rfl, rfl⟩, nmX2⟩
  | 3, h => cases h; exact ⟨j_u3, ⟨tyX3, tyX3_ok, rfl, rfl⟩, nmX3⟩
  | 4, h => cases h; exact ⟨j_u4, ⟨tyX4, tyX4_ok, rfl, rfl⟩, nmX4⟩
  | 5, h => cases h; exact ⟨j_u5, ⟨tyX5, tyX5_ok, rfl, rfl⟩, nmX5⟩
  | 6, h => cases h; exact ⟨j_u6, ⟨tyX6, tyX6_ok, rfl, rfl⟩, nmX6⟩
  | 7, h => cases h; exact ⟨j_u7, ⟨tyX7, tyX7_ok, rfl, rfl⟩, nmX7⟩
  | 8, h => cases h; exact ⟨j_u8, ⟨tyX8, tyX8_ok, rfl, rfl⟩, nmX8⟩
  | 9, h => cases h; exact ⟨j_u9, ⟨tyX9, tyX9_ok, rfl, rfl⟩, nmX9⟩
  | 10, h => cases h; exact ⟨j_u10, ⟨tyX10, tyX10_ok, rfl, rfl⟩, nmX10⟩
  | 11, h => cases h; exact ⟨j_u11, ⟨tyX11, tyX11_ok, rfl, rfl⟩, nmX11⟩
  | k + 12, h => simp [vwCl] at h
theorem j_lay {w : j_W} {p : Program} {R : Room} {s : State} {m : MethodId} {args : Array Value} {meth : Method} {c : Code} {f d k : Nat} {C : String} {T : u_T} {N : Nat} (hF : j_Fr w p R s m args meth c f d) (h : vwCl[k]? = some (C, T, N)) : ∀ q ∈ u_ws C T N, q.before args s = true := by
  intro q hq
  refine hF.2.2.2.2.1 q ((j_cls h).1 q hq) ?_
  obtain ⟨i, -, rfl⟩ := List.mem_map.mp hq
  unfold u_lay
  split <;> rfl

theorem z_get : j_Snd (h_get, c_get) := by
  intro f pc o ls st h hc
  show match (h_get) o (pc, ls, st, h) with | none => True | some (.inl s') => j_Step f pc ls st h s' | some (.inr (.inl r)) => r.2 = h ∧ st = pu r.1 [] ∧ j_RetAt f pc r.1 | some (.inr (.inr q)) => j_Cal f pc ls st h q.1 q.2.1 q.2.2
  simp only [h_get]
  split <;> rename_i hm <;> (repeat' split at hm)
  all_goals first | trivial | (cases hm; done) | skip
  all_goals (try simp only [j_go] at hm)
  all_goals cases hm
  rename_i a r _ k fs hg1 hk _ v hv
  refine j_Stp.step ?_ rfl rfl
  intro w p l e R s m args below meth c d H locs cells slots Q lsA hF hR hL hlo kk
  have k2 := kk H locs lsA hR hL hlo
  simp only [c_get, Bool.and_eq_true, beq_iff_eq] at hc
  obtain ⟨⟨h1, h2⟩, h3⟩ := hc
  rw [h2] at k2
  unfold j_fl at h3
  split at h3
  · rename_i C T N hC
    simp only [Bool.and_eq_true, decide_eq_true_eq] at h3
    obtain ⟨hN, h3⟩ := h3
    have hP := j_one (hR.at (j_nz hR hg1) hg1)
    have hv' : (fs.map (cv w))[j_yy o]? = some (cv w v) := by rw [List.getElem?_map, hv]; rfl
    rw [hk] at hP
    split at h3
    · exact va_get (D := w.2.1) (C := C) (T := T) (N := N) hF.1 hF.2.1 (j_lay hF hC) (fun _ h => h) hF.2.2.2.1 hF.2.2.2.2.2.2.1.1 hP 0 rfl hC (j_yy o) hN (j_word hF h3 rfl) (fun _ h => h) hv' (j_dec h1) k2
    · exact va_getN (D := w.2.1) (C := C) (T := T) (N := N) hF.1 hF.2.1 (j_lay hF hC) (fun _ h => h) hF.2.2.2.1 hF.2.2.2.2.2.2.1.1 hP 0 rfl hC (j_yy o) hN (j_word hF h3 rfl) (fun _ h => h) hv' (j_dec h1) k2
  · cases h3

theorem j_put {w : j_W} {p : Program} {l : Launch} {e : Env} {R : Room} {s : State} {m : MethodId} {args : Array Value} {below : List Frame} {meth : Method} {c : Code} {H : Heap} {locs : List Loc} {cells slots : Nat} {Q : State → Prop} {f d pc k q i ix : Nat} {C : String} {T : u_T} {N : Nat} {gs rest : List Value} {lsA : Array Slot} {ty : FieldType} {v : Value}
    (hF : j_Fr w p R s m args meth c f d) (hC : vwCl[k]? = some (C, T, N)) (hP : va_at w.2.1 vwCl (q, .inr (k, gs)) H) (hi : i < N) (hl : i < gs.length) (hd : parseFieldDescriptor (T i).2.2.1 = some ty) (hn : narrow ty v = v) (hfit : fits ty v = true)
    (hlk : ((Cond.fieldLink (j_y f).cls ix (T i).1 (T i).2.1 (T i).2.2.1).before args s = true ∧ ((T i).2.2.2 = false ∨ ((T i).2.2.2 = true ∧ (j_y f).name = "<init>" ∧ (T i).1 = (j_y f).cls))) ∨ ((Cond.fieldLinkNest (j_y f).cls ix (T i).1 (T i).2.1 (T i).2.2.1 "ThinTables").before args s = true ∧ (T i).2.2.2 = false))
    (hdg : decode (j_code f) pc = .ok (.putfield ix, 3))
    (kk : ∀ (H' : Heap) (sl : Nat), va_at w.2.1 vwCl (q, .inr (k, gs.set i v)) H' → H'.size = H.size → (∀ x : Nat, x ≠ q → H'[x]? = H[x]?) → W p l e R s m args below meth c H' (locs ++ [⟨q, sl⟩]) cells slots Q (F0 m (pc + 3) lsA rest)) :
    W p l e R s m args below meth c H locs cells slots Q (F0 m pc lsA (v :: .ref q :: rest)) := by
  have hts := j_lay hF hC
  have hin : ∀ x ∈ u_ws C T N, x ∈ u_ws C T N := fun _ h => h
  have hK := hF.2.2.2.2.2.2.1.1
  obtain ⟨-, ⟨ty0, hty, -⟩, hnm⟩ := j_cls hC
  have hown := hF.2.2.2.1
  have hap := va_apart (own := (j_y f).cls) hts hin ty0 hty hnm hK hC
  obtain ⟨r, h1, cell, q1, q2, q3, q4⟩ := hP
  have hr : r = (C, T, N) := Option.some.inj (h1.symm.trans hC)
  subst hr
  obtain ⟨hS, hfc, kC, hkC, hkind⟩ := hK.1 k _ hC
  obtain ⟨cf, kf, fi, fd, hif, hsl⟩ := hS i hi
  have hlay := hts _ (u_in_lay hi)
  unfold u_lay at hlay
  have hst := (u_facts hfc hkC (u_lays hts hin hi) hif).1
  have fin : ∀ (H' : Heap), H'[q]? = some (cell.setSlot fd.slot v) → va_at w.2.1 vwCl (q, .inr (k, gs.set i v)) H' := by
    intro H' e1
    rw [hsl] at e1
    exact ⟨_, hC, t_OB.to (V := updV (vp_V gs) i v) ⟨_, e1, q2, q3, t_set q4 hap hi v⟩ (fun j _ => vp_updV_set hl v j)⟩
  have hslot : fd.slot < cell.slots.size := by rw [hsl]; exact k2_hasslot (q4 i hi)
  rcases hlk with ⟨hlink, hfin | ⟨hfin, hin2, hdecl⟩⟩ | ⟨hlink, hfin⟩
  · rw [if_neg (by rw [hfin]; decide)] at hlay
    have h6 := u_store hfc hkC hkind hlay hif hd hn hfit
    exact W.putK hF.1 hF.2.1 (f := fd) ⟨hown, hlink, ⟨_, _, _, hif⟩, hst⟩ (by rw [q2]; exact h6) q1 q3 hslot rfl rfl hdg (fun H' e1 e2 e3 => kk H' _ (fin H' e1) e2 e3)
  · rw [if_pos hfin] at hlay
    have hcf : m.cls = cf := by
      obtain ⟨_, _, c', _, _, _, -, -, hf', -, -, -, hown2, -⟩ := Cond.laysFinal_spec hlay
      have e1 : c' = cf := by have := hif.symm.trans hf'; simp at this; exact this.1.symm
      rw [hdecl] at hown2
      rw [← e1]; exact Option.some.inj (hown.symm.trans hown2)
    have h6 := u_fits hfc hkC hkind (Or.inr hlay) hif hd hn hfit
    exact W.putFinK hF.1 hF.2.1 hown hlink hif hst hcf (hF.2.2.2.2.2.1 hin2) (by rw [q2]; exact h6) q1 q3 hslot rfl rfl hdg (fun H' e1 e2 e3 => kk H' _ (fin H' e1) e2 e3)
  · rw [if_neg (by rw [hfin]; decide)] at hlay
    have h6 := u_store hfc hkC hkind hlay hif hd hn hfit
    exact va_WputK hF.1 hF.2.1 hown hlink hif hst (by rw [q2]; exact h6) q1 q3 hslot rfl rfl hdg (fun H' e1 e2 e3 => kk H' _ (fin H' e1) e2 e3)

theorem z_put : j_Snd (h_put, c_put) := by
  intro f pc o ls st h hc
  show match (h_put) o (pc, ls, st, h) with | none => True | some (.inl s') => j_Step f pc ls st h s' | some (.inr (.inl r)) => r.2 = h ∧ st = pu r.1 [] ∧ j_RetAt f pc r.1 | some (.inr (.inr q)) => j_Cal f pc ls st h q.1 q.2.1 q.2.2
  simp only [h_put]
  split <;> rename_i hm <;> (repeat' split at hm)
  all_goals first | trivial | (cases hm; done) | skip
  all_goals cases hm
  rename_i v a r _ k fs hg1 hk
  refine j_Stp.step ?_ rfl rfl
  intro w p l e R s m args below meth c d H locs cells slots Q lsA hF hR hL hlo kk
  simp only [c_put, Bool.and_eq_true, beq_iff_eq] at hc
  obtain ⟨⟨h1, h2⟩, h3⟩ := hc
  obtain ⟨hk1, hk3, hk4⟩ := hk
  have hk2 : a ≠ 0 := j_nz hR hg1
  split at h3
  · rename_i C T N hC
    simp only [Bool.and_eq_true, decide_eq_true_eq] at h3
    obtain ⟨⟨⟨hN, h3⟩, h4⟩, h5⟩ := h3
    have hP : va_at w.2.1 vwCl (ad w a, .inr (j_x o, fs.map (cv w))) H := by
      have := hR.at hk2 hg1
      rw [hk1] at this
      exact this
    unfold j_pv at hk4
    have hty : ∃ ty, parseFieldDescriptor (T (j_yy o)).2.2.1 = some ty ∧ narrow ty (cv w v) = cv w v ∧ fits ty (cv w v) = true := by
      split at hk4
      · rw [if_pos (of_decide_eq_true hk4)] at h4
        exact ⟨.int, by rw [of_decide_eq_true h4]; rfl, rfl, rfl⟩
      · rw [if_neg (by have := of_decide_eq_true hk4; omega)] at h4
        split at h4
        · rename_i hp; exact ⟨_, hp, rfl, rfl⟩
        · rename_i hp; exact ⟨_, hp, rfl, rfl⟩
        · cases h4
      · cases hk4
    obtain ⟨ty, hd, hn, hfit⟩ := hty
    refine j_put (ix := j_ix o) hF hC hP hN (by rw [List.length_map]; exact hk3) hd hn hfit ?_ (j_dec h1) (fun H' sl e1 e2 e3 => ?_)
    · split at h3
      · refine Or.inl ⟨j_word hF h3 rfl, ?_⟩
        split at h5
        · rename_i hfin
          simp only [Bool.and_eq_true, decide_eq_true_eq] at h5
          exact Or.inr ⟨hfin, h5.1.2, h5.2⟩
        · rename_i hfin
          exact Or.inl (by simpa using hfin)
      · refine Or.inr ⟨j_word hF h3 rfl, ?_⟩
        rename_i hz
        split at h5
        · simp only [Bool.and_eq_true, decide_eq_true_eq] at h5
          exact absurd h5.1.1 hz
        · rename_i hfin
          simpa using hfin
    · have hR' : j_Rel w s (hs h a (oB k (fs.set (j_yy o) v))) H' := by
        refine hR.set hk2 hg1 ?_ e2 e3
        rw [hk1]
        show va_at w.2.1 vwCl (ad w a, .inr (j_x o, (fs.set (j_yy o) v).map (cv w))) H'
        rw [List.map_set]
        exact e1
      have k2 := kk H' (locs ++ [⟨ad w a, sl⟩]) lsA hR' hL (t_lc hlo (ad_pos hk2))
      rw [h2] at k2
      exact k2
  · cases h3

theorem j_cpy1 : Cond.native arraycopyName ∈ lw_tbl := by decide +kernel
theorem j_cpy2 : Cond.static arraycopyName ∈ lw_tbl := by decide +kernel
theorem j_cpy3 : Cond.initialized "java/lang/System" ∈ lw_tbl := by decide +kernel
theorem j_Wcpy {p : Program} {l : Launch} {e : Env} {R : Room} {s : State} {m : MethodId} {args : Array Value} {below : List Frame} {meth : Method} {c : Code} {H : Heap} {locs : List Loc} {cells slots : Nat} {Q : State → Prop} {cc : ByteArray} {pc : Nat} {ls : Array Slot} {rest : List Value}
    (hexec : p.tables.exec = Jvm.exec) (hb : c.code = cc) (hml : c.maxLocals = ls.size) {own : String} {index : Nat} (hown : s.vm.findClass own = some m.cls) (hlink : (Cond.methodLink own index arraycopyName).before args s = true) (hnat : (Cond.native arraycopyName).before args s = true) (hstat : (Cond.static arraycopyName).before args s = true) (hini : (Cond.initialized "java/lang/System").before args s = true)
    {ci : ClassId} (hA : ArrOfT s ci .int) {q0 q n0 n1 : Nat} {f g : Nat → Int32} (h3 : H[q0]? = some (arrV ci n0 (fun j => .int (f j)))) (h4 : H[q]? = some (arrV ci n1 (fun j => .int (g j))))
    {sp dp n : Int32} (h5 : ¬ sp < 0) (h6 : ¬ dp < 0) (h7 : ¬ n < 0) (h8 : sp.toNatClampNeg + n.toNatClampNeg ≤ n0) (h9 : dp.toNatClampNeg + n.toNatClampNeg ≤ n1) (hframes : 1 ≤ R.frames) (hlocals : (rest.map fun v => v.category).sum + (nativeFrameWords "java/lang/System" "arraycopy" 5 + 11) ≤ R.locals) (hdg : decode cc pc = .ok (.invokestatic index, 3))
    (kk : ∀ (H' : Heap) (locs' : List Loc), H'[q]? = some (arrV ci n1 (fun j => .int (va_cpy f g sp.toNatClampNeg dp.toNatClampNeg n.toNatClampNeg j))) → H'.size = H.size → (∀ x : Nat, x ≠ q → H'[x]? = H[x]?) → (∀ z ∈ locs', z ∈ locs ∨ z.base = q) → W p l e R s m args below meth c H' locs' cells slots Q (F0 m (pc + 3) ls rest)) :
    W p l e R s m args below meth c H locs cells slots Q (F0 m pc ls (.int n :: .int dp :: .ref q :: .int sp :: .ref q0 :: rest)) := by
  have nn : ∀ z : Int32, ¬ z < 0 → z.toInt = (z.toNatClampNeg : Int) := by
    intro z hz
    have hz0 : (0 : Int) ≤ z.toInt := by
      have := Int32.not_lt.mp hz
      simpa using Int32.le_iff_toInt_le.mp this
    show z.toInt = ((z.toInt.toNat : Nat) : Int)
    omega
  intro T hT X
  obtain ⟨-, k0, hk0, cm0, hkk0⟩ := hA n0 (fun j => .int (f j))
  obtain ⟨-, k1, hk1, cm1, hkk1⟩ := hA n1 (fun j => .int (g j))
  obtain ⟨vm', X', step⟩ := X.arraycopy hexec hown hlink hnat hstat hini (src := q0) (dst := q) (cs := arrV ci n0 (fun j => .int (f j))) (cd := arrV ci n1 (fun j => .int (g j))) (srcPos := sp) (destPos := dp) (n := n) (by rw [hT]; exact h3) (by rw [hT]; exact h4)
    (fun _ h => by cases h) (fun _ h => by cases h) (fun h => by cases h) (fun h => by cases h) hk0 hk1 hkk0 hkk1 (by simp [refKind]) h5 h6 h7
    (by rw [nn sp h5, nn n h7, arrV_size]; omega)
    (by rw [nn dp h6, nn n h7, arrV_size]; omega)
    (fun vm₁ _ i hi => by
      have e : (arrV ci n0 (fun j => .int (f j))).slots.getD (sp.toNatClampNeg + i) .null = .int (f (sp.toNatClampNeg + i)) := by
        rw [Array.getD_eq_getD_getElem?, arrV_read _ _ (by omega)]
        rfl
      refine ⟨?_, ?_⟩
      · rw [e]; rfl
      · rw [e]; exact trivial)
    (g := F0 m pc ls (.int n :: .int dp :: .ref q :: .int sp :: .ref q0 :: rest)) rfl (by rw [hml]) (rest := rest) rfl (by rw [hb]; exact hdg) hframes (by show 2 * 0 + _ + _ ≤ _; omega)
  have e1 : copied (arrV ci n0 (fun j => .int (f j))) (arrV ci n1 (fun j => .int (g j))) sp dp n = arrV ci n1 (fun j => .int (va_cpy f g sp.toNatClampNeg dp.toNatClampNeg n.toNatClampNeg j)) := va_copied (fun z => .int z) ci ci f g h8
  rw [e1] at X' step
  have hl : q < H.size := (Array.getElem?_eq_some_iff.mp h4).1
  generalize hcell : arrV ci n1 (fun j => Value.int (va_cpy f g sp.toNatClampNeg dp.toNatClampNeg n.toNatClampNeg j)) = cell at X' step kk
  have hheap : ((T.setVm vm').setCell q cell).heap = H.setIfInBounds q cell := by rw [← hT]; rfl
  obtain ⟨t, a1, b1⟩ := kk (H.setIfInBounds q cell) _ (by simp [hl]) (by simp) (fun x hx => by simp [Array.getElem?_setIfInBounds, Ne.symm hx]) (fun z hz => by
    rcases List.mem_append.mp hz with h | h
    · exact Or.inl h
    · obtain ⟨y, -, hy⟩ := List.mem_map.mp h
      exact Or.inr (by rw [← hy])) _ hheap X'
  exact ⟨t, step t a1, b1⟩

theorem z_cpy : j_Snd (h_cpy, c_cpy) := by
  intro f pc o ls st h hc
  show match (h_cpy) o (pc, ls, st, h) with | none => True | some (.inl s') => j_Step f pc ls st h s' | some (.inr (.inl r)) => r.2 = h ∧ st = pu r.1 [] ∧ j_RetAt f pc r.1 | some (.inr (.inr q)) => j_Cal f pc ls st h q.1 q.2.1 q.2.2
  simp only [h_cpy]
  split <;> rename_i hm <;> (repeat' split at hm)
  all_goals first | trivial | (cases hm; done) | skip
  all_goals (try simp only [j_go] at hm)
  all_goals cases hm
  rename_i n dp a sp a0 r _ _ n0 f0 n1 g0 hg1 hg2 hin
  refine j_Stp.step ?_ rfl rfl
  intro w p l e R s m args below meth c d H locs cells slots Q lsA hF hR hL hlo kk
  simp only [c_cpy, Bool.and_eq_true, beq_iff_eq] at hc
  obtain ⟨⟨h1, h2⟩, h3⟩ := hc
  obtain ⟨i1, i2, i3, i4, i5, i6, i7, i8, i9⟩ := hin
  have hfr := hF.2.2.2.2.2.2.2
  have h3' : H[ad w a0]? = some (arrV w.2.2.1 n0 (fun j => .int (f0 j))) := hR.at i3 hg1
  have h4' : H[ad w a]? = some (arrV w.2.2.1 n1 (fun j => .int (g0 j))) := hR.at i2 hg2
  have hsum : ((r.map (cv w)).map fun v => v.category).sum ≤ 8 := by
    have : ∀ t : List Value, ((t.map (cv w)).map fun v => v.category).sum ≤ 2 * t.length := by
      intro t
      induction t with
      | nil => simp
      | cons x t ih =>
        have := lv_cat (cv w x)
        simp only [List.map_cons, List.sum_cons, List.length_cons]
        omega
    have := this r
    omega
  have hnw : nativeFrameWords "java/lang/System" "arraycopy" 5 + 11 ≤ 40 := by decide +kernel
  refine j_Wcpy hF.1 hF.2.1 (by rw [hF.2.2.1]; exact hL.1.symm) hF.2.2.2.1 (j_word hF h3 rfl) (hF.2.2.2.2.1 _ j_cpy1 rfl) (hF.2.2.2.2.1 _ j_cpy2 rfl) (hF.2.2.2.2.1 _ j_cpy3 rfl) ((hF.2.2.2.2.2.2.1.1.2 0 _ rfl).1) h3' h4' i5 i6 i7 i8 i9 (by omega) (by omega) (j_dec h1) (fun H' locs' e1 e2 e3 e4 => ?_)
  have hR' : j_Rel w s (hs h a (aI n1 (va_cpy f0 g0 sp.toNatClampNeg dp.toNatClampNeg n.toNatClampNeg))) H' := hR.set i2 hg2 e1 e2 e3
  have k2 := kk H' locs' lsA hR' hL (fun q hq => by
    rcases e4 q hq with h | h
    · exact hlo q h
    · rw [h]; exact ad_pos i2)
  rw [h2] at k2
  exact k2
