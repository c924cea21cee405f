theorem j_all : ∀ q ∈ j_hs, j_Snd q := by
  unfold j_hs
  exact List.forall_mem_cons.mpr ⟨z_iload, List.forall_mem_cons.mpr ⟨z_lload, List.forall_mem_cons.mpr ⟨z_aload, List.forall_mem_cons.mpr ⟨z_istore, List.forall_mem_cons.mpr ⟨z_lstore, List.forall_mem_cons.mpr ⟨z_astore, List.forall_mem_cons.mpr ⟨z_pushi, List.forall_mem_cons.mpr ⟨z_pushl, List.forall_mem_cons.mpr ⟨z_iinc, List.forall_mem_cons.mpr ⟨z_iadd, List.forall_mem_cons.mpr ⟨z_isub, List.forall_mem_cons.mpr ⟨z_imul, List.forall_mem_cons.mpr ⟨z_iand, List.forall_mem_cons.mpr ⟨z_ior, List.forall_mem_cons.mpr ⟨z_ixor, List.forall_mem_cons.mpr ⟨z_ishl, List.forall_mem_cons.mpr ⟨z_ishr, List.forall_mem_cons.mpr ⟨z_iushr, List.forall_mem_cons.mpr ⟨z_ineg, List.forall_mem_cons.mpr ⟨z_idiv, List.forall_mem_cons.mpr ⟨z_irem, List.forall_mem_cons.mpr ⟨z_ladd, List.forall_mem_cons.mpr ⟨z_lsub, List.forall_mem_cons.mpr ⟨z_lmul, List.forall_mem_cons.mpr ⟨z_ldiv, List.forall_mem_cons.mpr ⟨z_lrem, List.forall_mem_cons.mpr ⟨z_lneg, List.forall_mem_cons.mpr ⟨z_lcmp, List.forall_mem_cons.mpr ⟨z_i2l, List.forall_mem_cons.mpr ⟨z_l2i, List.forall_mem_cons.mpr ⟨z_if_eq, List.forall_mem_cons.mpr ⟨z_if_ne, List.forall_mem_cons.mpr ⟨z_if_lt, List.forall_mem_cons.mpr ⟨z_if_ge, List.forall_mem_cons.mpr ⟨z_if_gt, List.forall_mem_cons.mpr ⟨z_if_le, List.forall_mem_cons.mpr ⟨z_icmp_eq, List.forall_mem_cons.mpr ⟨z_icmp_ne, List.forall_mem_cons.mpr ⟨z_icmp_lt, List.forall_mem_cons.mpr ⟨z_icmp_ge, List.forall_mem_cons.mpr ⟨z_icmp_gt, List.forall_mem_cons.mpr ⟨z_icmp_le, List.forall_mem_cons.mpr ⟨z_goto, List.forall_mem_cons.mpr ⟨z_sw, List.forall_mem_cons.mpr ⟨z_dup, List.forall_mem_cons.mpr ⟨z_dup2, List.forall_mem_cons.mpr ⟨z_pop, List.forall_mem_cons.mpr ⟨z_get, List.forall_mem_cons.mpr ⟨z_put, List.forall_mem_cons.mpr ⟨z_iald, List.forall_mem_cons.mpr ⟨z_iast, List.forall_mem_cons.mpr ⟨z_lald, List.forall_mem_cons.mpr ⟨z_last, List.forall_mem_cons.mpr ⟨z_aald, List.forall_mem_cons.mpr ⟨z_aast, List.forall_mem_cons.mpr ⟨z_alen, List.forall_mem_cons.mpr ⟨z_new, List.forall_mem_cons.mpr ⟨z_nai, List.forall_mem_cons.mpr ⟨z_nal, List.forall_mem_cons.mpr ⟨z_mna, List.forall_mem_cons.mpr ⟨z_obj, List.forall_mem_cons.mpr ⟨z_sta, List.forall_mem_cons.mpr ⟨z_vir, List.forall_mem_cons.mpr ⟨z_virN, List.forall_mem_cons.mpr ⟨z_spe, List.forall_mem_cons.mpr ⟨z_iret, List.forall_mem_cons.mpr ⟨z_lret, List.forall_mem_cons.mpr ⟨z_ret, List.forall_mem_cons.mpr ⟨z_cpy, List.forall_mem_cons.mpr ⟨z_max, List.forall_mem_cons.mpr ⟨z_min, List.forall_mem_cons.mpr ⟨z_maxl, List.forall_mem_cons.mpr ⟨z_absl, fun _ h => absurd h List.not_mem_nil⟩⟩⟩⟩⟩⟩⟩⟩⟩⟩⟩⟩⟩⟩⟩⟩⟩⟩⟩⟩⟩⟩⟩⟩⟩⟩⟩⟩⟩⟩⟩⟩⟩⟩⟩⟩⟩⟩⟩⟩⟩⟩⟩⟩⟩⟩⟩⟩⟩⟩⟩⟩⟩⟩⟩⟩⟩⟩⟩⟩⟩⟩⟩⟩⟩⟩⟩⟩⟩⟩⟩⟩⟩
theorem j_lk : ∀ (l : List (Nat × j_O)) (pc : Nat) (q : j_O), l.lookup pc = some q → (pc, q) ∈ l
  | [], pc, q, h => by simp at h
  | (a, b) :: t, pc, q, h => by
    rw [List.lookup_cons] at h
    by_cases e : pc == a
    · rw [e] at h
      cases h
      rw [eq_of_beq e]
      exact List.mem_cons_self
    · rw [show (pc == a) = false by simpa using e] at h
      exact List.mem_cons_of_mem _ (j_lk t pc q h)
theorem j_stp {f : Nat} (hf : f < 167) (pc : Nat) (ls : List (Option Value)) (st : List Value) (h : j_H) : match j_st f (pc, ls, st, h) with
  | none => True
  | some (.inl s') => j_Step f pc ls st h s'
  | some (.inr (.inl r)) => r.2 = h ∧ st = pu r.1 [] ∧ j_RetAt f pc r.1
  | some (.inr (.inr q)) => j_Cal f pc ls st h q.1 q.2.1 q.2.2 := by
  cases hi : j_ins f pc with
  | none =>
    have e : j_st f (pc, ls, st, h) = none := by simp only [j_st, hi]
    rw [e]
    trivial
  | some o =>
    have hck : j_ck f pc o = true := by
      have hok := j_okall hf
      unfold j_okm at hok
      unfold j_ins at hi
      cases ht : j_tab[f]? with
      | none => rw [ht] at hi; cases hi
      | some tb =>
        rw [ht] at hi
        rw [List.getD_eq_getElem?_getD, ht] at hok
        exact List.all_eq_true.mp hok (pc, o) (j_lk tb pc o hi)
    unfold j_ck at hck
    cases hq : j_hs[o.1]? with
    | none => rw [hq] at hck; cases hck
    | some q =>
      rw [hq] at hck
      have e : j_st f (pc, ls, st, h) = q.1 o (pc, ls, st, h) := by simp only [j_st, hi, hq]
      rw [e]
      exact j_all q (List.mem_of_getElem? hq) f pc o ls st h hck
def j_Qc (w : j_W) (v : Option Value) (h' : j_H) : Array Value → State → Outcome → State → Prop := fun _ _ oc t => oc = .returned (v.map (cv w)) ∧ j_Rel w t h' t.heap ∧ j_KC w t
theorem j_Len (w : j_W) (as : List Value) (n : Nat) : (lg_sl (as.map (cv w))).length = (fl as).length ∧ ∀ (i : Nat) (v : Value), (fl as ++ List.replicate n none)[i]? = some (some v) → (i, cv w v) ∈ lv_args 0 (as.map (cv w)) := by
  have key : ∀ (as : List Value) (j : Nat), (lg_sl (as.map (cv w))).length = (fl as).length ∧ ∀ (i : Nat) (v : Value), (fl as ++ List.replicate n none)[i]? = some (some v) → (j + i, cv w v) ∈ lv_args j (as.map (cv w)) := by
    intro as
    induction as with
    | nil =>
      intro j
      refine ⟨rfl, fun i v h => ?_⟩
      simp only [fl, List.nil_append, List.getElem?_replicate] at h
      split at h <;> simp at h
    | cons a t ih =>
      intro j
      by_cases hc : a.category = 2
      · have hf : fl (a :: t) = some a :: none :: fl t := by
          cases a <;> first | rfl | simp [Value.category] at hc
        have hs : lg_sl ((a :: t).map (cv w)) = [.val (cv w a), .second] ++ lg_sl (t.map (cv w)) := by
          simp [lg_sl, cv_cat, hc]
        have hl : lv_args j ((a :: t).map (cv w)) = (j, cv w a) :: lv_args (j + 2) (t.map (cv w)) := by
          simp [lv_args, cv_cat, hc]
        obtain ⟨h1, h2⟩ := ih (j + 2)
        rw [hf, hs, hl]
        refine ⟨by simp [h1], fun i v h => ?_⟩
        match i, h with
        | 0, h => simp at h; subst h; exact List.mem_cons_self
        | 1, h => simp at h
        | i + 2, h =>
          have := h2 i v (by simpa using h)
          rw [show j + (i + 2) = j + 2 + i by omega]
          exact List.mem_cons_of_mem _ this
      · have hf : fl (a :: t) = some a :: fl t := by
          cases a <;> first | rfl | simp [Value.category] at hc
        have hs : lg_sl ((a :: t).map (cv w)) = [.val (cv w a)] ++ lg_sl (t.map (cv w)) := by
          simp [lg_sl, cv_cat, hc]
        have hl : lv_args j ((a :: t).map (cv w)) = (j, cv w a) :: lv_args (j + 1) (t.map (cv w)) := by
          simp [lv_args, cv_cat, hc]
        obtain ⟨h1, h2⟩ := ih (j + 1)
        rw [hf, hs, hl]
        refine ⟨by simp [h1], fun i v h => ?_⟩
        match i, h with
        | 0, h => simp at h; subst h; exact List.mem_cons_self
        | i + 1, h =>
          have := h2 i v (by simpa using h)
          rw [show j + (i + 1) = j + 1 + i by omega]
          exact List.mem_cons_of_mem _ this
  have := key as 0
  simpa using this
/-- what a run of the picture says of the machine -/
def j_Run (d f pc : Nat) (ls : List (Option Value)) (st : List Value) (h : j_H) (r : Option Value) (h' : j_H) : Prop :=
  (h.1 ≤ h'.1 ∧ h.2.1 ≤ h'.2.1) ∧ ∀ (w : j_W) (p : Program) (l : Launch) (e : Env) (R : Room) (s : State) (m : MethodId) (args : Array Value) (below : List Frame) (meth : Method) (c : Code) (H : Heap) (locs : List Loc) (cells slots : Nat) (Q : State → Prop) (lsA : Array Slot),
    j_Fr w p R s m args meth c f d → j_Rel w s h H → j_L w ls lsA (j_ml f) → (∀ q ∈ locs, w.1.2 ≤ q.base) → cells + (h'.1 - h.1) ≤ R.cells → slots + (h'.2.1 - h.2.1) ≤ R.slots →
    (∀ (H' : Heap) (locs' : List Loc) (pc' : Nat) (lsA' : Array Slot), j_Rel w s h' H' → (∀ q ∈ locs', w.1.2 ≤ q.base) → j_RetAt f pc' r → W p l e R s m args below meth c H' locs' (cells + (h'.1 - h.1)) (slots + (h'.2.1 - h.2.1)) Q (F0 m pc' lsA' ((pu r []).map (cv w)))) →
    W p l e R s m args below meth c H locs cells slots Q (F0 m pc lsA (st.map (cv w)))
theorem j_met {d g : Nat} {as : List Value} {h h1 : j_H} {v : Option Value} (hg : g < 166) (hfit : (fl as).length ≤ j_ml g) (hrun : j_Run d g 0 (j_en g as) [] h v h1) (w : j_W) (l : Launch) :
    Met l (j_y g) (j_ws g) (j_rm d (h1.1 - h.1) (h1.2.1 - h.2.1)) (j_Pc w h as) (j_Qc w v h1) (h1.1 - h.1) (h1.2.1 - h.2.1) (fun q => w.1.2 ≤ q) := by
  have hpl : plainName (j_y g).cls = true := by
    have hm := j_mall hg
    simp only [j_mk, Bool.and_eq_true, decide_eq_true_eq] at hm
    exact hm.1.1.1.2
  refine Met.ofW (cc := j_code g) (maxL := j_ml g) (ret := j_rt g) hpl rfl ?_
  intro p e s m args below meth c s₁ B hml hP
  obtain ⟨rfl, hR, hK⟩ := hP
  have hts := atoms_spec (ws := j_ws g) B.pre
  have hF : j_Fr w p (headSpec (j_ws g) (j_rm d (h1.1 - h.1) (h1.2.1 - h.2.1))).room s m (as.map (cv w)).toArray meth c g d := by
    refine ⟨B.exec, B.bytes, hml, findClass_of_methodNamed B.named, fun q hq hok => ?_, (fun hn => by rw [(name_of_methodNamed B.named B.method).1]; exact hn), hK, Nat.le_refl _, Nat.le_refl _⟩
    by_cases hgq : goodWord q = true
    · exact hts q (List.mem_cons_of_mem _ (List.mem_filter.mpr ⟨hq, hgq⟩))
    · have hn : j_nst q = true := by
        simp only [Bool.or_eq_true] at hok
        exact hok.resolve_left hgq
      have := hK.2.2 q hq hn
      cases q with
      | fieldLinkNest a i b n d e => exact va_Nw.use rfl this
      | methodLinkNest a i x e => exact va_Nw.use rfl this
      | _ => simp [j_nst] at hn
  obtain ⟨q1, q2⟩ := j_Len w as (j_ml g - (fl as).length)
  have hl := lv_entry (as.map (cv w)) (n := j_ml g) (by rw [q1]; exact hfit)
  rw [lg_entry_eq]
  have hL : j_L w (j_en g as) ((lg_sl (as.map (cv w)) ++ List.replicate (j_ml g - (lg_sl (as.map (cv w))).length) Slot.unset).toArray) (j_ml g) := by
    refine ⟨hl.1, hl.2.1, fun i v hv => ?_⟩
    exact hl.2.2 (i, cv w v) (q2 i v hv)
  refine hrun.2 w p l e _ s m _ below meth c s.heap [] 0 0 _ _ hF hR hL (fun q hq => by cases hq) (by rw [Nat.zero_add]; exact Nat.le_refl _) (by rw [Nat.zero_add]; exact Nat.le_refl _) ?_
  intro H' locs' pc' lsA' hR' hlo' hret
  rw [Nat.zero_add, Nat.zero_add]
  have hq : ∀ t : State, t.heap = H' → s.WarmedH t.vm → j_Qc w v h1 (as.map (cv w)).toArray s (.returned (v.map (cv w))) t := fun t ht hW => ⟨rfl, by rw [ht]; exact hR'.moved hW.alike, hK.moved hW⟩
  have hlocks := B.notSynchronized
  have hr := B.returns
  unfold j_RetAt at hret
  split at hret
  · exact W.vret B.exec B.bytes (hr.trans hret.1) hq hlo' hret.2 hlocks
  · rename_i x
    rcases hret.2 with h2 | ⟨h2, h3⟩
    · exact W.iret B.exec B.bytes (hr.trans h2) hq hlo' hret.1 hlocks
    · exact W.zret B.exec B.bytes (hr.trans h2) (by rcases h3 with rfl | rfl <;> rfl) hq hlo' hret.1 hlocks
  · exact W.lret B.exec B.bytes (hr.trans hret.1) hq hlo' hret.2 hlocks
  · exact hret.elim
theorem j_sound : ∀ (k d f pc : Nat) (ls : List (Option Value)) (st : List Value) (h : j_H) (r : Option Value) (h' : j_H), f < 167 → j_ex k d f (pc, ls, st, h) = some (r, h') → j_Run d f pc ls st h r h' := by
  intro k
  induction k with
  | zero => intro d f pc ls st h r h' _ he; simp [j_ex] at he
  | succ k ih =>
    intro d f pc ls st h r h' hf he
    have hs := j_stp hf pc ls st h
    rw [j_ex] at he
    cases hst : j_st f (pc, ls, st, h) with
    | none => rw [hst] at he; cases he
    | some x =>
      rw [hst] at he hs
      match x, he, hs with
      | .inl s', he, hs =>
        obtain ⟨pc1, ls1, st1, h1⟩ := s'
        have he : j_ex k d f (pc1, ls1, st1, h1) = some (r, h') := he
        have hs : j_Step f pc ls st h (pc1, ls1, st1, h1) := hs
        obtain ⟨⟨m1, m2⟩, hgo⟩ := ih d f pc1 ls1 st1 h1 r h' hf he
        obtain ⟨⟨n1, n2⟩, hstep⟩ := hs
        have n1 : h.1 ≤ h1.1 := n1
        have n2 : h.2.1 ≤ h1.2.1 := n2
        refine ⟨⟨Nat.le_trans n1 m1, Nat.le_trans n2 m2⟩, ?_⟩
        intro w p l e R s m args below meth c H locs cells slots Q lsA hF hR hL hlo hce hsl kk
        refine hstep w p l e R s m args below meth c d H locs cells slots Q lsA hF hR hL hlo (by show cells + (h1.1 - h.1) ≤ _; omega) (by show slots + (h1.2.1 - h.2.1) ≤ _; omega) (fun H' locs' lsA' a1 a2 a3 => ?_)
        refine hgo w p l e R s m args below meth c H' locs' _ _ Q lsA' hF a1 a2 a3 (by show cells + (h1.1 - h.1) + _ ≤ _; omega) (by show slots + (h1.2.1 - h.2.1) + _ ≤ _; omega) (fun H2 locs2 pc2 lsA2 b1 b2 b3 => ?_)
        have k3 := kk H2 locs2 pc2 lsA2 b1 b2 b3
        rw [show cells + (h'.1 - h.1) = cells + (h1.1 - h.1) + (h'.1 - h1.1) by omega, show slots + (h'.2.1 - h.2.1) = slots + (h1.2.1 - h.2.1) + (h'.2.1 - h1.2.1) by omega] at k3
        exact k3
      | .inr (.inl rr), he, hs =>
        obtain ⟨r1, h1⟩ := rr
        have he : some (r1, h1) = some (r, h') := he
        cases he
        have hs : h' = h ∧ st = pu r [] ∧ j_RetAt f pc r := hs
        obtain ⟨rfl, rfl, hret⟩ := hs
        refine ⟨⟨Nat.le_refl _, Nat.le_refl _⟩, ?_⟩
        intro w p l e R s m args below meth c H locs cells slots Q lsA hF hR hL hlo hce hsl kk
        have k3 := kk H locs pc lsA hR hlo hret
        rw [Nat.sub_self, Nat.sub_self] at k3
        exact k3
      | .inr (.inr (g, as, s')), he, hs =>
        obtain ⟨pc1, ls1, st1, h0⟩ := s'
        have hs : j_Cal f pc ls st h g as (pc1, ls1, st1, h0) := hs
        obtain ⟨hg, e1, e2, e3, hfit, hcall⟩ := hs
        have e1' : pc1 = pc + 3 := e1
        have e2' : ls1 = ls := e2
        have e3' : h0 = h := e3
        clear e1 e2 e3
        subst e1'
        subst e2'
        subst e3'
        cases d with
        | zero => cases he
        | succ d =>
          cases hcx : j_ex k d g (0, j_en g as, [], h0) with
          | none =>
            have he : (match j_ex k d g (0, j_en g as, [], h0) with | none => none | some (v, h') => j_ex k (d + 1) f (pc + 3, ls1, pu v st1, h')) = some (r, h') := he
            rw [hcx] at he
            cases he
          | some vr =>
            obtain ⟨v, h1⟩ := vr
            have he : (match j_ex k d g (0, j_en g as, [], h0) with | none => none | some (v, h') => j_ex k (d + 1) f (pc + 3, ls1, pu v st1, h')) = some (r, h') := he
            rw [hcx] at he
            have he : j_ex k (d + 1) f (pc + 3, ls1, pu v st1, h1) = some (r, h') := he
            have hrun := ih d g 0 (j_en g as) [] h0 v h1 (by omega) hcx
            obtain ⟨⟨m1, m2⟩, hgo⟩ := ih (d + 1) f (pc + 3) ls1 (pu v st1) h1 r h' hf he
            have n1 := hrun.1.1
            have n2 := hrun.1.2
            refine ⟨⟨Nat.le_trans n1 m1, Nat.le_trans n2 m2⟩, ?_⟩
            intro w p l e R s m args below meth c H locs cells slots Q lsA hF hR hL hlo hce hsl kk
            have hM := j_met hg hfit hrun w l
            have run := hcall w p l e R s m args below meth c d H locs cells slots _ _ lsA _ _ hF hR hL.1 (by omega) (by omega) hM
            intro T hT X
            obtain ⟨v', st₀, t, T', L, z0, X', hL', z1, z2, ⟨hv, hR1, hK1⟩, st⟩ := run T hT X
            have hv : v' = v.map (cv w) := by injection hv
            have hal : s.vm.Alike t.vm := by rw [← z2]; exact X'.warmed.alike
            have hR2 : j_Rel w s h1 T'.heap := by rw [z1]; exact hR1.moved hal.symm
            have hw := hgo w p l e R s m args below meth c T'.heap (locs ++ L) (cells + (h1.1 - h0.1)) (slots + (h1.2.1 - h0.2.1)) Q lsA hF hR2 hL (t_lL hlo hL') (by omega) (by omega) (fun H2 locs2 pc2 lsA2 b1 b2 b3 => by
              have k3 := kk H2 locs2 pc2 lsA2 b1 b2 b3
              rw [show cells + (h'.1 - h0.1) = cells + (h1.1 - h0.1) + (h'.1 - h1.1) by omega, show slots + (h'.2.1 - h0.2.1) = slots + (h1.2.1 - h0.2.1) + (h'.2.1 - h1.2.1) by omega] at k3
              exact k3)
            obtain ⟨t2, a1, b1⟩ := hw T' rfl X'
            refine ⟨t2, st t2 ?_, b1⟩
            have es : v'.toList ++ st1.map (cv w) = (pu v st1).map (cv w) := by rw [hv]; cases v <;> rfl
            show Steps p.tables e below (T'.setTop (F0 m (pc + 3) lsA (v'.toList ++ st1.map (cv w)))) t2
            rw [es]
            exact a1
