abbrev j_T : Type := j_O → j_S → j_R
abbrev j_K : Type := Nat → Nat → j_O → Bool
def j_wd (p : Nat) (w : Cond) : Bool := decide (lw_tbl[p]? = some w)
def j_dc (f pc : Nat) (i : Instr) (n : Nat) : Bool := decide (decode (j_code f) pc = .ok (i, n))
def j_go (o : j_O) (s : j_S) (st : List Value) : j_R := some (.inl (j_nx o, s.2.1, st, s.2.2.2))
-- locals
def h_iload : j_T := fun o s => match s.2.1[j_x o]? with
  | some (some (.int v)) => j_go o s (.int v :: s.2.2.1)
  | _ => none
def c_iload : j_K := fun f pc o => (j_dc f pc (.iload (j_x o)) 2 && j_nx o == pc + 2) || (if h : j_x o < 4 then j_dc f pc (.iload_n ⟨j_x o, h⟩) 1 && j_nx o == pc + 1 else false)
def h_lload : j_T := fun o s => match s.2.1[j_x o]? with
  | some (some (.long v)) => j_go o s (.long v :: s.2.2.1)
  | _ => none
def c_lload : j_K := fun f pc o => (j_dc f pc (.lload (j_x o)) 2 && j_nx o == pc + 2) || (if h : j_x o < 4 then j_dc f pc (.lload_n ⟨j_x o, h⟩) 1 && j_nx o == pc + 1 else false)
def h_aload : j_T := fun o s => match s.2.1[j_x o]? with
  | some (some (.ref v)) => j_go o s (.ref v :: s.2.2.1)
  | _ => none
def c_aload : j_K := fun f pc o => (j_dc f pc (.aload (j_x o)) 2 && j_nx o == pc + 2) || (if h : j_x o < 4 then j_dc f pc (.aload_n ⟨j_x o, h⟩) 1 && j_nx o == pc + 1 else false)
def h_istore : j_T := fun o s => match s.2.2.1 with
  | .int v :: r => some (.inl (j_nx o, sto s.2.1 (j_x o) (.int v), r, s.2.2.2))
  | _ => none
def c_istore : j_K := fun f pc o => decide (j_x o < j_ml f) && ((j_dc f pc (.istore (j_x o)) 2 && j_nx o == pc + 2) || (if h : j_x o < 4 then j_dc f pc (.istore_n ⟨j_x o, h⟩) 1 && j_nx o == pc + 1 else false))
def h_lstore : j_T := fun o s => match s.2.2.1 with
  | .long v :: r => some (.inl (j_nx o, st2 s.2.1 (j_x o) (.long v), r, s.2.2.2))
  | _ => none
def c_lstore : j_K := fun f pc o => decide (j_x o + 1 < j_ml f) && ((j_dc f pc (.lstore (j_x o)) 2 && j_nx o == pc + 2) || (if h : j_x o < 4 then j_dc f pc (.lstore_n ⟨j_x o, h⟩) 1 && j_nx o == pc + 1 else false))
def h_astore : j_T := fun o s => match s.2.2.1 with
  | .ref v :: r => some (.inl (j_nx o, sto s.2.1 (j_x o) (.ref v), r, s.2.2.2))
  | _ => none
def c_astore : j_K := fun f pc o => decide (j_x o < j_ml f) && ((j_dc f pc (.astore (j_x o)) 2 && j_nx o == pc + 2) || (if h : j_x o < 4 then j_dc f pc (.astore_n ⟨j_x o, h⟩) 1 && j_nx o == pc + 1 else false))
def h_iinc : j_T := fun o s => match s.2.1[j_x o]? with
  | some (some (.int v)) => some (.inl (j_nx o, sto s.2.1 (j_x o) (.int (v + Int32.ofInt (j_z o))), s.2.2.1, s.2.2.2))
  | _ => none
def c_iinc : j_K := fun f pc o => decide (j_x o < j_ml f) && j_dc f pc (.iinc (j_x o) (j_z o)) 3 && j_nx o == pc + 3
-- constants
def h_pushi : j_T := fun o s => j_go o s (.int (Int32.ofInt (j_z o)) :: s.2.2.1)
def c_pushi : j_K := fun f pc o => (j_dc f pc (.iconst (j_z o)) 1 && j_nx o == pc + 1) || ((j_dc f pc (.bipush (j_z o)) 2 && j_nx o == pc + 2 && decide ((Int8.ofInt (j_z o)).toInt32 = Int32.ofInt (j_z o))) || ((j_dc f pc (.sipush (j_z o)) 3 && j_nx o == pc + 3 && decide ((Int16.ofInt (j_z o)).toInt32 = Int32.ofInt (j_z o))) || ((j_dc f pc (.ldc (j_ix o)) 2 && j_nx o == pc + 2 && j_wd (j_ps o) (.constant (j_y f).cls (j_ix o) (Int32.ofInt (j_z o)))) || (j_dc f pc (.ldc_w (j_ix o)) 3 && j_nx o == pc + 3 && j_wd (j_ps o) (.constant (j_y f).cls (j_ix o) (Int32.ofInt (j_z o)))))))
def h_pushl : j_T := fun o s => j_go o s (.long (Int64.ofInt (j_z o)) :: s.2.2.1)
def c_pushl : j_K := fun f pc o => (if h : (j_z o).toNat < 2 then j_dc f pc (.lconst ⟨(j_z o).toNat, h⟩) 1 && j_nx o == pc + 1 && decide (Int64.ofNat (j_z o).toNat = Int64.ofInt (j_z o)) else false) || (j_dc f pc (.ldc2_w (j_ix o)) 3 && j_nx o == pc + 3 && j_wd (j_ps o) (.constantLong (j_y f).cls (j_ix o) (Int64.ofInt (j_z o))))
-- arithmetic
def c_one (i : Instr) : j_K := fun f pc o => j_dc f pc i 1 && j_nx o == pc + 1
def h_i2 (g : Int32 → Int32 → Int32) : j_T := fun o s => match s.2.2.1 with
  | .int y :: .int x :: r => j_go o s (.int (g x y) :: r)
  | _ => none
def h_i2n (g : Int32 → Int32 → Int32) : j_T := fun o s => match s.2.2.1 with
  | .int y :: .int x :: r => if y = 0 then none else j_go o s (.int (g x y) :: r)
  | _ => none
def h_i1 (g : Int32 → Int32) : j_T := fun o s => match s.2.2.1 with
  | .int x :: r => j_go o s (.int (g x) :: r)
  | _ => none
def h_l2 (g : Int64 → Int64 → Int64) : j_T := fun o s => match s.2.2.1 with
  | .long y :: .long x :: r => j_go o s (.long (g x y) :: r)
  | _ => none
def h_l2n (g : Int64 → Int64 → Int64) : j_T := fun o s => match s.2.2.1 with
  | .long y :: .long x :: r => if y = 0 then none else j_go o s (.long (g x y) :: r)
  | _ => none
def h_l1 (g : Int64 → Int64) : j_T := fun o s => match s.2.2.1 with
  | .long x :: r => j_go o s (.long (g x) :: r)
  | _ => none
def h_lcmp : j_T := fun o s => match s.2.2.1 with
  | .long y :: .long x :: r => j_go o s (.int (lg_cmp x y) :: r)
  | _ => none
def h_i2l : j_T := fun o s => match s.2.2.1 with
  | .int x :: r => j_go o s (.long x.toInt64 :: r)
  | _ => none
def h_l2i : j_T := fun o s => match s.2.2.1 with
  | .long x :: r => j_go o s (.int x.toInt32 :: r)
  | _ => none
def h_dup : j_T := fun o s => match s.2.2.1 with
  | .int x :: r => j_go o s (.int x :: .int x :: r)
  | .ref x :: r => j_go o s (.ref x :: .ref x :: r)
  | _ => none
def h_dup2 : j_T := fun o s => match s.2.2.1 with
  | .int x :: .ref y :: r => j_go o s (.int x :: .ref y :: .int x :: .ref y :: r)
  | .long x :: r => j_go o s (.long x :: .long x :: r)
  | _ => none
def h_pop : j_T := fun o s => match s.2.2.1 with
  | .int _ :: r => j_go o s r
  | .ref _ :: r => j_go o s r
  | _ => none
-- jumps
def h_if (g : Int32 → Bool) : j_T := fun o s => match s.2.2.1 with
  | .int x :: r => some (.inl (if g x then j_x o else j_nx o, s.2.1, r, s.2.2.2))
  | _ => none
def h_cmp (g : Int32 → Int32 → Bool) : j_T := fun o s => match s.2.2.1 with
  | .int y :: .int x :: r => some (.inl (if g x y then j_x o else j_nx o, s.2.1, r, s.2.2.2))
  | _ => none
def c_jmp (i : Int → Instr) : j_K := fun f pc o => j_dc f pc (i (j_z o)) 3 && j_nx o == pc + 3 && decide ((pc : Int) + j_z o = (j_x o : Int))
def h_goto : j_T := fun o s => some (.inl (j_x o, s.2))
def j_swt (p : Nat) : Int × List Int × List Nat := j_sws.getD p (0, [], [])
def h_sw : j_T := fun o s => match s.2.2.1 with
  | .int v :: r => if v.toInt < j_z o ∨ (j_yy o : Int) < v.toInt then some (.inl (j_x o, s.2.1, r, s.2.2.2)) else match (j_swt (j_ps o)).2.2[(v.toInt - j_z o).toNat]? with
    | some t => some (.inl (t, s.2.1, r, s.2.2.2))
    | none => none
  | _ => none
def j_sok (pc : Nat) : List Int → List Nat → Bool
  | [], [] => true
  | a :: as, b :: bs => decide ((pc : Int) + a = (b : Int)) && j_sok pc as bs
  | _, _ => false
def c_sw : j_K := fun f pc o => (match decode (j_code f) pc with
  | .ok (.tableswitch d lo hi offs, _) => decide (d = (j_swt (j_ps o)).1) && decide (lo = j_z o) && decide (hi = (j_yy o : Int)) && decide (offs.toList = (j_swt (j_ps o)).2.1) && decide ((pc : Int) + d = (j_x o : Int))
  | _ => false) && j_sok pc (j_swt (j_ps o)).2.1 (j_swt (j_ps o)).2.2
-- fields
def h_get : j_T := fun o s => match s.2.2.1 with
  | .ref a :: r => match hg s.2.2.2 a with
    | some (.inr (.inr (.inr (k, fs)))) => if k = j_x o then match fs[j_yy o]? with
      | some v => j_go o s (v :: r)
      | none => none else none
    | _ => none
  | _ => none
def j_fl (f : Nat) (o : j_O) : Bool := match vwCl[j_x o]? with
  | some (_, T, N) => decide (j_yy o < N) && (if j_z o = 0 then j_wd (j_ps o) (.fieldLink (j_y f).cls (j_ix o) (T (j_yy o)).1 (T (j_yy o)).2.1 (T (j_yy o)).2.2.1) else j_wd (j_ps o) (.fieldLinkNest (j_y f).cls (j_ix o) (T (j_yy o)).1 (T (j_yy o)).2.1 (T (j_yy o)).2.2.1 "ThinTables"))
  | none => false
def c_get : j_K := fun f pc o => j_dc f pc (.getfield (j_ix o)) 3 && j_nx o == pc + 3 && j_fl f o
def j_pv (z : Int) (v : Value) : Bool := match v with
  | .int _ => decide (z < 4)
  | .ref _ => decide (4 ≤ z)
  | _ => false
def h_put : j_T := fun o s => match s.2.2.1 with
  | v :: .ref a :: r => match hg s.2.2.2 a with
    | some (.inr (.inr (.inr (k, fs)))) => if k = j_x o ∧ j_yy o < fs.length ∧ j_pv (j_z o) v = true then some (.inl (j_nx o, s.2.1, r, hs s.2.2.2 a (oB k (fs.set (j_yy o) v)))) else none
    | _ => none
  | _ => none
def c_put : j_K := fun f pc o => j_dc f pc (.putfield (j_ix o)) 3 && j_nx o == pc + 3 && (match vwCl[j_x o]? with
  | some (_, T, N) => decide (j_yy o < N) && (if j_z o % 2 = 0 then j_wd (j_ps o) (.fieldLink (j_y f).cls (j_ix o) (T (j_yy o)).1 (T (j_yy o)).2.1 (T (j_yy o)).2.2.1) else j_wd (j_ps o) (.fieldLinkNest (j_y f).cls (j_ix o) (T (j_yy o)).1 (T (j_yy o)).2.1 (T (j_yy o)).2.2.1 "ThinTables")) && (if j_z o < 4 then decide ((T (j_yy o)).2.2.1 = "I") else (match parseFieldDescriptor (T (j_yy o)).2.2.1 with
    | some (.object _) => true
    | some (.array _) => true
    | _ => false)) && (if (T (j_yy o)).2.2.2 then decide (j_z o % 2 = 0) && decide ((j_y f).name = "<init>") && decide ((T (j_yy o)).1 = (j_y f).cls) else true)
  | none => false)
-- arrays
def j_bd (i : Int32) (n : Nat) : Prop := i < 0 ∨ n ≤ i.toNatClampNeg
def h_iald : j_T := fun o s => match s.2.2.1 with
  | .int i :: .ref a :: r => match hg s.2.2.2 a with
    | some (.inl (n, f)) => if i < 0 ∨ n ≤ i.toNatClampNeg then none else j_go o s (.int (f i.toNatClampNeg) :: r)
    | _ => none
  | _ => none
def h_iast : j_T := fun o s => match s.2.2.1 with
  | .int x :: .int i :: .ref a :: r => match hg s.2.2.2 a with
    | some (.inl (n, f)) => if (i < 0 ∨ n ≤ i.toNatClampNeg) ∨ a = 0 then none else some (.inl (j_nx o, s.2.1, r, hs s.2.2.2 a (aI n (up f i.toNatClampNeg x))))
    | _ => none
  | _ => none
def h_lald : j_T := fun o s => match s.2.2.1 with
  | .int i :: .ref a :: r => match hg s.2.2.2 a with
    | some (.inr (.inl (n, f))) => if i < 0 ∨ n ≤ i.toNatClampNeg then none else j_go o s (.long (f i.toNatClampNeg) :: r)
    | _ => none
  | _ => none
def h_last : j_T := fun o s => match s.2.2.1 with
  | .long x :: .int i :: .ref a :: r => match hg s.2.2.2 a with
    | some (.inr (.inl (n, f))) => if i < 0 ∨ n ≤ i.toNatClampNeg then none else some (.inl (j_nx o, s.2.1, r, hs s.2.2.2 a (aL n (up f i.toNatClampNeg x))))
    | _ => none
  | _ => none
def h_aald : j_T := fun o s => match s.2.2.1 with
  | .int i :: .ref a :: r => match hg s.2.2.2 a with
    | some (.inr (.inr (.inl (n, f)))) => if i < 0 ∨ n ≤ i.toNatClampNeg then none else j_go o s (rV (f i.toNatClampNeg) :: r)
    | _ => none
  | _ => none
def h_aast : j_T := fun o s => match s.2.2.1 with
  | .ref v :: .int i :: .ref a :: r => match hg s.2.2.2 a, hg s.2.2.2 v with
    | some (.inr (.inr (.inl (n, f)))), some (.inl _) => if (i < 0 ∨ n ≤ i.toNatClampNeg) ∨ v = 0 then none else some (.inl (j_nx o, s.2.1, r, hs s.2.2.2 a (aR n (up f i.toNatClampNeg (some v)))))
    | _, _ => none
  | _ => none
def h_alen : j_T := fun o s => match s.2.2.1 with
  | .ref a :: r => match hg s.2.2.2 a with
    | some (.inl (n, _)) => j_go o s (.int (Int32.ofNat n) :: r)
    | _ => none
  | _ => none
-- making
def j_df (ci : Nat) : List Value := (([tyX0, tyX1, tyX2, tyX3, tyX4, tyX5, tyX6, tyX7, tyX8, tyX9, tyX10, tyX11] : List (Nat → FieldType))[ci]?.map (fun t => (List.range (match vwCl[ci]? with | some (_, _, N) => N | none => 0)).map (fun k => defaultValue (t k)))).getD []
def j_nf (ci : Nat) : Nat := match vwCl[ci]? with | some (_, _, N) => N | none => 0
def h_new : j_T := fun o s => some (.inl (j_nx o, s.2.1, .ref s.2.2.2.1 :: s.2.2.1, hn s.2.2.2 (j_nf (j_x o)) (oB (j_x o) (j_df (j_x o)))))
def c_new : j_K := fun f pc o => j_dc f pc (.new (j_ix o)) 3 && j_nx o == pc + 3 && (match vwCl[j_x o]? with
  | some (C, _, N) => j_wd (j_ps o) (.classLink (j_y f).cls (j_ix o) C) && lw_tbl.contains (.instantiable C N) && lw_tbl.contains (.initialized C)
  | none => false)
def h_nai : j_T := fun o s => match s.2.2.1 with
  | .int n :: r => if n < 0 ∨ 10000 < n.toNatClampNeg then none else some (.inl (j_nx o, s.2.1, .ref s.2.2.2.1 :: r, hn s.2.2.2 n.toNatClampNeg (aI n.toNatClampNeg (fun _ => 0))))
  | _ => none
def h_nal : j_T := fun o s => match s.2.2.1 with
  | .int n :: r => if n < 0 ∨ 10000 < n.toNatClampNeg then none else some (.inl (j_nx o, s.2.1, .ref s.2.2.2.1 :: r, hn s.2.2.2 n.toNatClampNeg (aL n.toNatClampNeg (fun _ => 0))))
  | _ => none
def c_na (t : ArrayType) : j_K := fun f pc o => j_dc f pc (.newarray t) 2 && j_nx o == pc + 2
def h_mna : j_T := fun o s => match s.2.2.1 with
  | .int k :: .int n :: r => if (n < 0 ∨ 10000 < n.toNatClampNeg) ∨ (k < 0 ∨ 10000 < k.toNatClampNeg) then none else some (.inl (j_nx o, s.2.1, .ref s.2.2.2.1 :: r, hm s.2.2.2 n.toNatClampNeg k.toNatClampNeg))
  | _ => none
def c_mna : j_K := fun f pc o => j_dc f pc (.multianewarray (j_ix o) 2) 4 && j_nx o == pc + 4 && j_wd (j_ps o) (.classLink (j_y f).cls (j_ix o) "[[I")
-- calls
def h_obj : j_T := fun o s => match s.2.2.1 with
  | .ref _ :: r => if r.length ≤ 4 then j_go o s r else none
  | _ => none
def c_obj : j_K := fun f pc o => j_dc f pc (.invokespecial (j_ix o)) 3 && j_nx o == pc + 3 && j_wd (j_ps o) (.methodLink (j_y f).cls (j_ix o) objectInit)
def j_call (o : j_O) (s : j_S) (as : List Value) (r : List Value) : j_R := if r.length ≤ 4 ∧ (fl as).length ≤ j_ml (j_x o) then some (.inr (.inr (j_x o, as, (j_nx o, s.2.1, r, s.2.2.2)))) else none
def h_sta : j_T := fun o s => if (s.2.2.1.take (j_yy o)).length = j_yy o then j_call o s (s.2.2.1.take (j_yy o)).reverse (s.2.2.1.drop (j_yy o)) else none
def h_vir : j_T := fun o s => match (s.2.2.1.take (j_yy o + 1)).reverse with
  | .ref b :: as => if as.length = j_yy o then match hg s.2.2.2 b with
    | some (.inr (.inr (.inr (k, _)))) => if (k : Int) = j_z o then j_call o s (.ref b :: as) (s.2.2.1.drop (j_yy o + 1)) else none
    | _ => none else none
  | _ => none
def h_spe : j_T := fun o s => match (s.2.2.1.take (j_yy o + 1)).reverse with
  | .ref b :: as => if as.length = j_yy o then j_call o s (.ref b :: as) (s.2.2.1.drop (j_yy o + 1)) else none
  | _ => none
def j_mp (f : Nat) : Nat × Nat × Nat × Nat × Nat := j_mps.getD f (9, 0, 0, 0, 0)
def j_ln (f : Nat) (o : j_O) (nest : Bool) : Bool := if nest then j_wd (j_ps o) (.methodLinkNest (j_y f).cls (j_ix o) (j_y (j_x o)) "ThinTables") else j_wd (j_ps o) (.methodLink (j_y f).cls (j_ix o) (j_y (j_x o)))
def j_ar (o : j_O) : Bool := decide ((parseMethodDescriptor (j_y (j_x o)).desc).map (fun d => d.parameters.length) = some (j_yy o)) && decide (j_x o < 166)
def c_sta : j_K := fun f pc o => j_dc f pc (.invokestatic (j_ix o)) 3 && j_nx o == pc + 3 && j_ar o && (j_mp (j_x o)).1 == 0 && j_ln f o (decide (j_z o = 1))
def c_vir : j_K := fun f pc o => j_dc f pc (.invokevirtual (j_ix o)) 3 && j_nx o == pc + 3 && j_ar o && (j_mp (j_x o)).1 == 1 && j_ln f o false && (match vwCl[(j_z o).toNat]? with | some (C, _, _) => decide (C = (j_y (j_x o)).cls) | none => false)
def c_virN : j_K := fun f pc o => j_dc f pc (.invokevirtual (j_ix o)) 3 && j_nx o == pc + 3 && j_ar o && (j_mp (j_x o)).1 == 1 && j_ln f o true && (match vwCl[(j_z o).toNat]? with | some (C, _, _) => decide (C = (j_y (j_x o)).cls) | none => false)
def c_spe : j_K := fun f pc o => j_dc f pc (.invokespecial (j_ix o)) 3 && j_nx o == pc + 3 && j_ar o && (j_mp (j_x o)).1 == 2 && decide (j_rt (j_x o) = none) && j_ln f o (decide (j_z o = 1))
-- ends
def h_iret : j_T := fun o s => match s.2.2.1 with
  | [.int v] => if j_z o = 0 ∨ v = 0 ∨ v = 1 then some (.inr (.inl (some (.int v), s.2.2.2))) else none
  | _ => none
def c_iret : j_K := fun f pc o => j_dc f pc .ireturn 1 && (if j_z o = 0 then decide (j_rt f = some .int) else decide (j_rt f = some .boolean))
def h_lret : j_T := fun _ s => match s.2.2.1 with
  | [.long v] => some (.inr (.inl (some (.long v), s.2.2.2)))
  | _ => none
def c_lret : j_K := fun f pc _ => j_dc f pc .lreturn 1 && decide (j_rt f = some .long)
def h_ret : j_T := fun _ s => match s.2.2.1 with
  | [] => some (.inr (.inl (none, s.2.2.2)))
  | _ => none
def c_ret : j_K := fun f pc _ => j_dc f pc .return_ 1 && decide (j_rt f = none)
-- System.arraycopy of ints
def h_cpy : j_T := fun o s => match s.2.2.1 with
  | .int n :: .int dp :: .ref a :: .int sp :: .ref a0 :: r => match hg s.2.2.2 a0, hg s.2.2.2 a with
    | some (.inl (n0, f)), some (.inl (n1, g)) => if r.length ≤ 4 ∧ a ≠ 0 ∧ a0 ≠ 0 ∧ a ≠ a0 ∧ ¬ sp < 0 ∧ ¬ dp < 0 ∧ ¬ n < 0 ∧ sp.toNatClampNeg + n.toNatClampNeg ≤ n0 ∧ dp.toNatClampNeg + n.toNatClampNeg ≤ n1 then some (.inl (j_nx o, s.2.1, r, hs s.2.2.2 a (aI n1 (va_cpy f g sp.toNatClampNeg dp.toNatClampNeg n.toNatClampNeg)))) else none
    | _, _ => none
  | _ => none
def c_cpy : j_K := fun f pc o => j_dc f pc (.invokestatic (j_ix o)) 3 && j_nx o == pc + 3 && j_wd (j_ps o) (.methodLink (j_y f).cls (j_ix o) arraycopyName)
-- Math
def mxI (x y : Int32) : Int32 := if x < y then y else x
def mnI (x y : Int32) : Int32 := if y < x then y else x
def mxL (x y : Int64) : Int64 := if y < x then x else y
def abL (x : Int64) : Int64 := if 0 < x then x else -x
def h_max : j_T := fun o s => match s.2.2.1 with
  | .int y :: .int x :: r => if r.length ≤ 4 then j_go o s (.int (mxI x y) :: r) else none
  | _ => none
def h_min : j_T := fun o s => match s.2.2.1 with
  | .int y :: .int x :: r => if r.length ≤ 4 then j_go o s (.int (mnI x y) :: r) else none
  | _ => none
def h_maxl : j_T := fun o s => match s.2.2.1 with
  | .long y :: .long x :: r => if r.length ≤ 4 then j_go o s (.long (mxL x y) :: r) else none
  | _ => none
def h_absl : j_T := fun o s => match s.2.2.1 with
  | .long x :: r => if r.length ≤ 4 then j_go o s (.long (abL x) :: r) else none
  | _ => none
def c_math (y : MethodName) : j_K := fun f pc o => j_dc f pc (.invokestatic (j_ix o)) 3 && j_nx o == pc + 3 && j_wd (j_ps o) (.methodLink (j_y f).cls (j_ix o) y)
def j_hs : List (j_T × j_K) := [(h_iload, c_iload), (h_lload, c_lload), (h_aload, c_aload), (h_istore, c_istore), (h_lstore, c_lstore), (h_astore, c_astore), (h_pushi, c_pushi), (h_pushl, c_pushl), (h_iinc, c_iinc),
  (h_i2 (fun x y => x + y), c_one .iadd), (h_i2 (fun x y => x - y), c_one .isub), (h_i2 (fun x y => x * y), c_one .imul), (h_i2 (fun x y => x &&& y), c_one .iand), (h_i2 (fun x y => x ||| y), c_one .ior), (h_i2 (fun x y => x ^^^ y), c_one .ixor), (h_i2 (fun x y => x <<< (y &&& 31)), c_one .ishl), (h_i2 (fun x y => x >>> (y &&& 31)), c_one .ishr), (h_i2 (fun x y => (x.toUInt32 >>> (y.toUInt32 &&& Int32.toUInt32 31)).toInt32), c_one .iushr), (h_i1 (fun x => -x), c_one .ineg),
  (h_i2n (fun x y => x / y), c_one .idiv), (h_i2n (fun x y => x - x / y * y), c_one .irem),
  (h_l2 (fun x y => x + y), c_one .ladd), (h_l2 (fun x y => x - y), c_one .lsub), (h_l2 (fun x y => x * y), c_one .lmul), (h_l2n (fun x y => x / y), c_one .ldiv), (h_l2n (fun x y => x - x / y * y), c_one .lrem), (h_l1 (fun x => -x), c_one .lneg), (h_lcmp, c_one .lcmp), (h_i2l, c_one .i2l), (h_l2i, c_one .l2i),
  (h_if (fun x => decide (x = 0)), c_jmp (.ifCond .eq)), (h_if (fun x => decide (¬ x = 0)), c_jmp (.ifCond .ne)), (h_if (fun x => decide (x < 0)), c_jmp (.ifCond .lt)), (h_if (fun x => decide (0 ≤ x)), c_jmp (.ifCond .ge)), (h_if (fun x => decide (0 < x)), c_jmp (.ifCond .gt)), (h_if (fun x => decide (x ≤ 0)), c_jmp (.ifCond .le)),
  (h_cmp (fun x y => decide (x = y)), c_jmp (.if_icmp .eq)), (h_cmp (fun x y => decide (¬ x = y)), c_jmp (.if_icmp .ne)), (h_cmp (fun x y => decide (x < y)), c_jmp (.if_icmp .lt)), (h_cmp (fun x y => decide (y ≤ x)), c_jmp (.if_icmp .ge)), (h_cmp (fun x y => decide (y < x)), c_jmp (.if_icmp .gt)), (h_cmp (fun x y => decide (x ≤ y)), c_jmp (.if_icmp .le)),
  (h_goto, c_jmp .goto), (h_sw, c_sw), (h_dup, c_one .dup), (h_dup2, c_one .dup2), (h_pop, c_one .pop), (h_get, c_get), (h_put, c_put),
  (h_iald, c_one .iaload), (h_iast, c_one .iastore), (h_lald, c_one .laload), (h_last, c_one .lastore), (h_aald, c_one .aaload), (h_aast, c_one .aastore), (h_alen, c_one .arraylength),
  (h_new, c_new), (h_nai, c_na .int), (h_nal, c_na .long), (h_mna, c_mna), (h_obj, c_obj), (h_sta, c_sta), (h_vir, c_vir), (h_vir, c_virN), (h_spe, c_spe), (h_iret, c_iret), (h_lret, c_lret), (h_ret, c_ret), (h_cpy, c_cpy), (h_max, c_math Lib.Math.max.name), (h_min, c_math Lib.Math.min.name), (h_maxl, c_math Lib.MathLoose.max_long.x), (h_absl, c_math Lib.MathLoose.abs_long.x)]
def j_st (f : Nat) (s : j_S) : j_R := match j_ins f s.1 with
  | none => none
  | some o => match j_hs[o.1]? with
    | none => none
    | some q => q.1 o s
def j_ck (f pc : Nat) (o : j_O) : Bool := match j_hs[o.1]? with
  | none => false
  | some q => q.2 f pc o
def j_en (f : Nat) (as : List Value) : List (Option Value) := fl as ++ List.replicate (j_ml f - (fl as).length) none
def j_ex : Nat → Nat → Nat → j_S → Option (Option Value × j_H)
  | 0, _, _, _ => none
  | k + 1, d, f, s => match j_st f s with
    | none => none
    | some (.inl s') => j_ex k d f s'
    | some (.inr (.inl r)) => some r
    | some (.inr (.inr (g, as, s'))) => match d with
      | 0 => none
      | d' + 1 => match j_ex k d' g (0, j_en g as, [], s'.2.2.2) with
        | none => none
        | some (v, h') => j_ex k (d' + 1) f (s'.1, s'.2.1, pu v s'.2.2.1, h')
/-- the run from here ends, with Q of its answer and heap -/
def WP (d f pc : Nat) (ls : List (Option Value)) (st : List Value) (h : j_H) (Q : Option Value → j_H → Prop) : Prop := ∃ k r h', j_ex k d f (pc, ls, st, h) = some (r, h') ∧ Q r h'
