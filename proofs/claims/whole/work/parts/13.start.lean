/-! THE CLAIM OUT OF ONE WALK OF THE LAW'S BODY. Your part is whole_start (and what it stands on); all else here is the same for every law, but numbers. -/
def R_law : String := "ThinTablesLaw"
def lw_P (b : Addr) (xs : List Int32) (args : Array Value) (s : State) : Prop := args = #[.ref b] ∧ s.IntsAt b xs ∧ xs.length ≤ 256 ∧ (Jvm.Cond.and given_1 narrow_1).before args s = true
def lw_Q (_ : Array Value) (s : State) (o : Outcome) (t : State) : Prop := o = .returned (some (.int 1)) ∧ Framed s o t [] 600000 7302250
def lw_Z (below : List Frame) (a : Array Value) (s : State) : State → Prop := fun t => ∃ o, t.status = .running ∧ Ended t below o ∧ lw_Q a s o t
/-- the law's own end, with 1 on the stack, nothing written that was there before, its room as the claim has it -/
theorem lw_ret {p : Program} {l : Launch} {e : Env} {s : State} {m : MethodId} {below : List Frame} {meth : Method} {c : Code} {b : Nat} (hx : p.tables.exec = Jvm.exec) (hb : c.code = code) (hr : meth.sig.returnType = ret) (hlocks : meth.locks = false) {pc : Nat} {H : Heap} {ls : Array Slot} (hdg : decode code pc = .ok (.ireturn, 1)) : W p l e room_1 s m #[Value.ref b] below meth c H [] 600000 7302250 (lw_Z below #[Value.ref b] s) (F0 m pc ls [.int 1]) := by
  intro T hT X
  obtain ⟨fs, hret, hrun, hended, hW, hframe⟩ := X.leave (v := some (.int 1)) (hlocks := hlocks) (fun h => by rw [hr] at h; cases h)
  have hmeth' : T.vm.method? m = some meth := X.method'
  refine ⟨T.setFrames fs, ?_, .returned (some (.int 1)), hrun, hended, rfl, ⟨_, rfl⟩, hW, hframe⟩
  jvm_step X.here [X.here.top, hx, hb, hdg, hmeth', hr, ret, narrow_b1]
  (try refine ⟨rfl, ?_⟩); (try refine ⟨rfl, ?_⟩)
  first | (intro acts; rw [hret _ acts rfl rfl rfl]) | rw [hret _ _ rfl rfl rfl]
  exact Steps.refl _
/-- what holds at the law's entry: the machine, the code, the tables' words (any of lw_tbl by 'hts w (by decide +kernel)'), the script of L ints xs at the cell b, what the Statement gives of the start (any of its parts by flat_of_before) -/
def lw_At (p : Program) (s : State) (m : MethodId) (meth : Method) (c : Code) (b L : Nat) (xs : Nat → Int32) : Prop :=
  p.tables.exec = Jvm.exec ∧ c.code = code ∧ meth.sig.returnType = ret ∧ c.maxLocals = 4 ∧ s.vm.findClass R_law = some m.cls ∧ (∀ w ∈ lw_tbl, w.before #[Value.ref b] s = true) ∧ va_X b L xs s s.heap ∧ b < s.heap.size ∧ meth.locks = false ∧ (Jvm.Cond.and given_1 narrow_1).before #[Value.ref b] s = true

theorem j_in0 : Cond.instantiable RX0 3 ∈ lw_tbl := by decide +kernel
theorem j_in1 : Cond.instantiable RX1 9 ∈ lw_tbl := by decide +kernel
theorem j_in2 : Cond.instantiable RX2 1 ∈ lw_tbl := by decide +kernel
theorem j_in3 : Cond.instantiable RX3 2 ∈ lw_tbl := by decide +kernel
theorem j_in4 : Cond.instantiable RX4 3 ∈ lw_tbl := by decide +kernel
theorem j_in5 : Cond.instantiable RX5 5 ∈ lw_tbl := by decide +kernel
theorem j_in6 : Cond.instantiable RX6 1 ∈ lw_tbl := by decide +kernel
theorem j_in7 : Cond.instantiable RX7 4 ∈ lw_tbl := by decide +kernel
theorem j_in8 : Cond.instantiable RX8 1 ∈ lw_tbl := by decide +kernel
theorem j_in9 : Cond.instantiable RX9 5 ∈ lw_tbl := by decide +kernel
theorem j_in10 : Cond.instantiable RX10 9 ∈ lw_tbl := by decide +kernel
theorem j_in11 : Cond.instantiable RX11 18 ∈ lw_tbl := by decide +kernel
theorem j_over : Cond.arrayOver (.array .int) ∈ lw_tbl := by decide +kernel
theorem j_instm {k : Nat} {C : String} {T : u_T} {N : Nat} (h : vwCl[k]? = some (C, T, N)) : Cond.instantiable C N ∈ lw_tbl := by
  match k, h with
  | 0, h => cases h; exact j_in0
  | 1, h => cases h; exact j_in1
  | 2, h => cases h; exact j_in2
  | 3, h => cases h; exact j_in3
  | 4, h => cases h; exact j_in4
  | 5, h => cases h; exact j_in5
  | 6, h => cases h; exact j_in6
  | 7, h => cases h; exact j_in7
  | 8, h => cases h; exact j_in8
  | 9, h => cases h; exact j_in9
  | 10, h => cases h; exact j_in10
  | 11, h => cases h; exact j_in11
  | k + 12, h => simp [vwCl] at h
theorem j_Kn_all {s : State} {args : Array Value} (hts : ∀ w ∈ lw_tbl, w.before args s = true) : ∀ c : Nat, ∃ x : ClassId × (Nat → Nat), ∀ q : vw_C, vwCl[c]? = some q → u_Kn s q.1 q.2.1 q.2.2 x.1 x.2 := by
  intro c
  cases hq : vwCl[c]? with
  | none => exact ⟨(0, fun _ => 0), fun q h => by cases h⟩
  | some q =>
    obtain ⟨C, T, N⟩ := q
    obtain ⟨cC, iS, h⟩ := u_known (C := C) (T := T) (N := N) (n := N) hts (j_cls hq).1 (hts _ (j_instm hq))
    exact ⟨(cC, iS), fun q h2 => by cases h2; exact h⟩
theorem j_arrOf {s : State} {args : Array Value} {t : FieldType} (h : (Cond.arrayClass t).before args s = true) : ∃ cA : ClassId, s.vm.findClass ("[" ++ t.toString) = some cA ∧ ArrOfT s cA t := by
  obtain ⟨cA, kA, comp, h1, h2, h3⟩ := Cond.arrayClass_spec (show (Cond.arrayClass t).holds args s none s [] = true from h)
  exact ⟨cA, h1, fun n z => ⟨(fun k hk => by cases hk), kA, h2, comp, h3⟩⟩
/-- the heap of the picture at the law's entry: the script alone -/
def h_0 (L : Nat) (xs : Nat → Int32) : j_H := (1, 0, fun a => if a = 0 then some (aI L xs) else none)
set_option maxHeartbeats 4000000 in
theorem whole_of {p : Program} {e : Env} {s : State} {m : MethodId} {below : List Frame} {meth : Method} {c : Code} (l : Launch) {b L : Nat} {xs : Nat → Int32} (C0 : lw_At p s m meth c b L xs)
    (hwp : WP 1000 166 0 [some (.ref 0), none, none, none] [] (h_0 L xs) (fun r h' => r = some (.int 1) ∧ h'.1 ≤ 600001 ∧ h'.2.1 ≤ 7302250)) : W p l e room_1 s m #[Value.ref b] below meth c s.heap [] 0 0 (lw_Z below #[Value.ref b] s) (entryFrame m ([Value.ref b] : List Value).toArray 4) := by
  obtain ⟨hx, hb, hr, hml, hown, hts, hX, hbl, hlocks, hgv⟩ := C0
  obtain ⟨k, r, h', he, rfl, hc1, hc2⟩ := hwp
  have hrun := j_sound k 1000 166 0 _ [] (h_0 L xs) _ h' (by decide) he
  have hKn := j_Kn_all hts
  obtain ⟨cI, fI, aI'⟩ := j_arrOf (hts _ j_arr0)
  obtain ⟨cL, fL, aL'⟩ := j_arrOf (hts _ j_arr1)
  have hov : (Cond.arrayOver (.array .int)).before #[Value.ref b] s = true := hts _ j_over
  obtain ⟨comp, cR, kR, r1, -, r2, r3, r4⟩ := arrayOverA_spec (show (Cond.arrayOver (.array .int)).holds #[Value.ref b] s none s [] = true from hov)
  let w : j_W := ((b, s.heap.size), (fun c => (Classical.choose (hKn c)).1, fun c => (Classical.choose (hKn c)).2), (cI, cL, cR))
  have hKC : j_KC w s := by
    refine ⟨⟨fun c q hq => Classical.choose_spec (hKn c) q hq, fun k q hk => ?_⟩, over_moved (Vm.Alike.refl _) hov, fun q hq hn => ?_⟩
    · have h3 : k < 3 := (List.getElem?_eq_some_iff.mp hk).1
      match k, hk with
      | 0, hk => cases hk; exact ⟨aI', fI⟩
      | 1, hk => cases hk; exact ⟨aL', fL⟩
      | 2, hk => cases hk; exact ⟨fun n z => ⟨(fun k hk => by cases hk), kR, r2, comp, r3⟩, r4⟩
      | k + 3, _ => omega
    · have := hts q hq
      cases q with
      | fieldLinkNest a i b n d e => exact va_Nw.of rfl this
      | methodLinkNest a i x e => exact va_Nw.of rfl this
      | _ => simp [j_nst] at hn
  have hF : j_Fr w p room_1 s m #[Value.ref b] meth c 166 1000 := ⟨hx, hb, hml, hown, fun q hq _ => hts q hq, (fun hn => absurd hn (by decide)), hKC, by decide, by decide⟩
  have hR : j_Rel w s (h_0 L xs) s.heap := by
    refine ⟨Nat.le_refl 1, rfl, hbl, fun a c0 ha => ?_⟩
    have ha' : (if a = 0 then some (aI L xs) else none) = some c0 := ha
    by_cases h0 : a = 0
    · rw [if_pos h0] at ha'
      cases ha'
      refine ⟨by show a < 1; omega, ?_⟩
      rw [if_pos h0]
      exact ⟨L, xs, rfl, hX⟩
    · rw [if_neg h0] at ha'
      cases ha'
  have hl := lv_entry ([.ref b]) (n := 4) (Nat.le_of_ble_eq_true rfl)
  rw [lg_entry_eq]
  have hL0 : j_L w [some (.ref 0), none, none, none] ((lg_sl ([.ref b]) ++ List.replicate (4 - (lg_sl ([.ref b])).length) Slot.unset).toArray) (j_ml 166) := by
    refine ⟨hl.1, hl.2.1, fun i v hv => ?_⟩
    match i, hv with
    | 0, hv =>
      have : some (Value.ref 0) = some v := by simpa using hv
      cases this
      exact hl.2.2 (0, .ref b) (by simp [lv_args])
    | 1, hv => simp at hv
    | 2, hv => simp at hv
    | 3, hv => simp at hv
    | i + 4, hv => simp at hv
  refine hrun.2 w p l e room_1 s m #[Value.ref b] below meth c s.heap [] 0 0 (lw_Z below #[Value.ref b] s) _ hF hR hL0 (fun q hq => by cases hq) (by show 0 + (h'.1 - 1) ≤ 600000; omega) (by show 0 + (h'.2.1 - 0) ≤ 7302250; omega) ?_
  intro H' locs' pc' lsA' hR' hlo' hret
  refine W.widen (k := 600000) (n := 7302250) (by show 0 + (h'.1 - 1) ≤ 600000; omega) (by show 0 + (h'.2.1 - 0) ≤ 7302250; omega) ?_
  refine va_forget hlo' ?_
  exact lw_ret hx hb hr hlocks hret.1
