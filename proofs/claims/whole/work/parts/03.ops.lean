/-! The pure picture of the machine: cells, heaps, operations, an executor. A reference in it is a number of the picture; 'ad' gives its address. -/
/-- a cell: ints, longs, references, or an object (number of its class in vwCl, its fields) -/
abbrev j_C : Type := (Nat × (Nat → Int32)) ⊕ ((Nat × (Nat → Int64)) ⊕ ((Nat × (Nat → Option Nat)) ⊕ (Nat × List Value)))
def aI (n : Nat) (f : Nat → Int32) : j_C := .inl (n, f)
def aL (n : Nat) (f : Nat → Int64) : j_C := .inr (.inl (n, f))
def aR (n : Nat) (f : Nat → Option Nat) : j_C := .inr (.inr (.inl (n, f)))
def oB (k : Nat) (fs : List Value) : j_C := .inr (.inr (.inr (k, fs)))
/-- a heap: how many cells, how many slots were made, the cells -/
abbrev j_H : Type := Nat × Nat × (Nat → Option j_C)
def hg (h : j_H) (a : Nat) : Option j_C := h.2.2 a
def hs (h : j_H) (a : Nat) (c : j_C) : j_H := (h.1, h.2.1, fun b => if b = a then some c else h.2.2 b)
def hn (h : j_H) (n : Nat) (c : j_C) : j_H := (h.1 + 1, h.2.1 + n, fun b => if b = h.1 then some c else h.2.2 b)
def hm (h : j_H) (n k : Nat) : j_H := (h.1 + 1 + n, h.2.1 + n + n * k, fun b => if b = h.1 then some (aR n (fun i => if i < n then some (h.1 + 1 + i) else none)) else if h.1 < b ∧ b < h.1 + 1 + n then some (aI k (fun _ => 0)) else h.2.2 b)
def up {α : Type} (f : Nat → α) (k : Nat) (v : α) : Nat → α := fun j => if j = k then v else f j
theorem hg_hs (h : j_H) (a b : Nat) (c : j_C) : hg (hs h a c) b = if b = a then some c else hg h b := rfl
theorem hg_same (h : j_H) (a : Nat) (c : j_C) : hg (hs h a c) a = some c := if_pos rfl
theorem hg_ne {h : j_H} {a b : Nat} {c : j_C} (e : b ≠ a) : hg (hs h a c) b = hg h b := if_neg e
theorem up_same {α : Type} (f : Nat → α) (k : Nat) (v : α) : up f k v k = v := if_pos rfl
theorem up_ne {α : Type} {f : Nat → α} {k j : Nat} {v : α} (e : j ≠ k) : up f k v j = f j := if_neg e
/-- an operation: kind, the place behind it, x, y, z; then the pool's entry and the word's place for the check -/
abbrev j_O : Type := Nat × Nat × Nat × Nat × Int × Nat × Nat
abbrev j_nx (o : j_O) : Nat := o.2.1
abbrev j_x (o : j_O) : Nat := o.2.2.1
abbrev j_yy (o : j_O) : Nat := o.2.2.2.1
abbrev j_z (o : j_O) : Int := o.2.2.2.2.1
abbrev j_ix (o : j_O) : Nat := o.2.2.2.2.2.1
abbrev j_ps (o : j_O) : Nat := o.2.2.2.2.2.2
/-- a state: place, locals, stack, heap -/
abbrev j_S : Type := Nat × List (Option Value) × List Value × j_H
/-- what a step gives: a state, an end, or a call (method, arguments, the state behind it but for the answer) -/
abbrev j_R : Type := Option (j_S ⊕ ((Option Value × j_H) ⊕ (Nat × List Value × j_S)))
def cl (a : Option Value) : Option Value := match a with
  | some (.long _) => none
  | some (.double _) => none
  | a => a
def sto : List (Option Value) → Nat → Value → List (Option Value)
  | [], _, _ => []
  | _ :: t, 0, v => some v :: t
  | [_], _ + 1, _ => []
  | a :: _ :: t, 1, v => cl a :: some v :: t
  | a :: b :: t, i + 2, v => a :: sto (b :: t) (i + 1) v
def st2 : List (Option Value) → Nat → Value → List (Option Value)
  | [], _, _ => []
  | [_], _, _ => []
  | _ :: _ :: t, 0, v => some v :: none :: t
  | [_, _], _ + 1, _ => []
  | a :: _ :: _ :: t, 1, v => cl a :: some v :: none :: t
  | a :: b :: c :: t, i + 2, v => a :: st2 (b :: c :: t) (i + 1) v
def pu (v : Option Value) (st : List Value) : List Value := match v with
  | some x => x :: st
  | none => st
def fl : List Value → List (Option Value)
  | [] => []
  | .long x :: t => some (.long x) :: none :: fl t
  | .double x :: t => some (.double x) :: none :: fl t
  | v :: t => some v :: fl t
def rV (r : Option Nat) : Value := match r with
  | some a => .ref a
  | none => .null
