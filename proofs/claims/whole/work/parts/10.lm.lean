/-! THE LIGHT MACHINE: memory and single steps -/
/-- memory: kinds (class or array kind, length), ints, longs, references, how many cells, how many slots -/
abbrev Lm : Type := (Nat → Nat × Nat) × (Nat → Nat → Int32) × (Nat → Nat → Int64) × (Nat → Nat → Option Nat) × Nat × Nat
abbrev lmK (t : Lm) : Nat → Nat × Nat := t.1
abbrev lmI (t : Lm) : Nat → Nat → Int32 := t.2.1
abbrev lmL (t : Lm) : Nat → Nat → Int64 := t.2.2.1
abbrev lmR (t : Lm) : Nat → Nat → Option Nat := t.2.2.2.1
abbrev lmN (t : Lm) : Nat := t.2.2.2.2.1
abbrev lmS (t : Lm) : Nat := t.2.2.2.2.2
/-- the first number of a cell that was there before (strings, static rows, the script) -/
def lmB : Nat := 1000000000
def lmCells : Nat := 601024
def lmSlots : Nat := 7293034
def up2 {α : Type} (f : Nat → Nat → α) (a k : Nat) (v : α) : Nat → Nat → α := fun i j => if i = a ∧ j = k then v else f i j
def up1 {α : Type} (f : Nat → α) (a : Nat) (v : α) : Nat → α := fun i => if i = a then v else f i
/-- a whole row -/
def upr {α : Type} (f : Nat → Nat → α) (a : Nat) (g : Nat → α) : Nat → Nat → α := fun i => if i = a then g else f i
def lDead : Value := .retAddr 0
def lRef (r : Option Nat) : Value := match r with
  | none => .null
  | some a => .ref a
def isL (v : Value) : Bool := match v with
  | .long _ => true
  | .double _ => true
  | _ => false
def isA (v : Value) : Bool := match v with
  | .null => true
  | .ref _ => true
  | _ => false
def isI (v : Value) : Bool := match v with
  | .int _ => true
  | _ => false
/-- a long just ahead of a place that is written is no more -/
def oL (o : Option Value) : Bool := match o with
  | some v => isL v
  | none => false
def lClr (ls : List Value) (k : Nat) : List Value := match k with
  | 0 => ls
  | j + 1 => bif oL ls[j]? then ls.set j lDead else ls
def lSet (ls : List Value) (k : Nat) (v : Value) : List Value := (lClr ls k).set k v
def lSet2 (ls : List Value) (k : Nat) (v : Value) : List Value := ((lClr ls k).set k v).set (k + 1) lDead
/-- a method's frame, as far as it is fixed: its class's number, is it a constructor, the type that it returns, handlers (from, to, target, class), links, code -/
abbrev Lf : Type := Nat × Bool × Option FieldType × List (Nat × Nat × Nat × Nat) × (Nat → Option Lk) × Lc
/-- what a step does: goes on; calls; returns; throws -/
abbrev Lx : Type := (Nat × List Value × List Value × Lm) ⊕ (Nat × List Value × Nat × List Value) ⊕ (Option Value) ⊕ Nat
abbrev xGo (pc : Nat) (ls st : List Value) (t : Lm) : Option Lx := some (.inl (pc, ls, st, t))
def s_cst (j k : Nat) (z : Int) : Option Value := match j with
  | 0 => some (.int (Int32.ofInt z))
  | 1 => some (.int (Int8.ofInt z).toInt32)
  | 2 => some (.int (Int16.ofInt z).toInt32)
  | 3 => some (.long (Int64.ofNat k))
  | 4 => some .null
  | _ => none
/-- loads: 0 int, 1 long, 2 reference -/
def s_fit (j : Nat) (v : Value) : Bool := match j with
  | 0 => isI v
  | 1 => (match v with
    | .long _ => true
    | _ => false)
  | 2 => isA v
  | _ => false
def s_load (j k : Nat) (ls : List Value) : Option Value := match ls[k]? with
  | some v => bif s_fit j v then some v else none
  | none => none
def s_store (j k : Nat) (ls : List Value) (v : Value) : Option (List Value) :=
  bif s_fit j v then (match j with
    | 1 => bif Nat.blt (k + 1) ls.length then some (lSet2 ls k v) else none
    | _ => bif Nat.blt k ls.length then some (lSet ls k v) else none) else none
def s_ibin (j : Nat) (x y : Int32) : Option Int32 := match j with
  | 0 => some (x + y)
  | 1 => some (x - y)
  | 2 => some (x * y)
  | 3 => if y = 0 then none else some (x / y)
  | 4 => if y = 0 then none else some (x - x / y * y)
  | 5 => some (x <<< (y &&& 31))
  | 6 => some (x >>> (y &&& 31))
  | 7 => some ((x.toUInt32 >>> (y.toUInt32 &&& Int32.toUInt32 31)).toInt32)
  | 8 => some (x &&& y)
  | 9 => some (x ||| y)
  | 10 => some (x ^^^ y)
  | _ => none
def s_lbin (j : Nat) (x y : Int64) : Option Value := match j with
  | 0 => some (.long (x + y))
  | 1 => some (.long (x - y))
  | 2 => some (.long (x * y))
  | 3 => if y = 0 then none else some (.long (x / y))
  | 4 => if y = 0 then none else some (.long (x - x / y * y))
  | 5 => some (.int (lg_cmp x y))
  | _ => none
def s_un (j : Nat) (v : Value) : Option Value := match j, v with
  | 0, .int x => some (.int (-x))
  | 1, .int x => some (.long x.toInt64)
  | 2, .long x => some (.int x.toInt32)
  | 3, .int x => some (.int x.toInt8.toInt32)
  | 4, .int x => some (.int (x.toUInt32 % 65536).toInt32)
  | _, _ => none
def s_stk (j : Nat) (st : List Value) : Option (List Value) := match j, st with
  | 0, a :: r => bif isL a then none else some (a :: a :: r)
  | 1, a :: r => bif isL a then none else some r
  | 2, a :: b :: r => bif isL a || isL b then none else some (a :: b :: a :: b :: r)
  | _, _ => none
/-- eq ne lt ge gt le -/
def s_cmp (j : Nat) (x y : Int32) : Bool := match j with
  | 0 => decide (x = y)
  | 1 => decide (¬ x = y)
  | 2 => decide (x < y)
  | 3 => decide (y ≤ x)
  | 4 => decide (y < x)
  | _ => decide (x ≤ y)
def lIn (j : Int32) (n : Nat) : Bool := decide (¬ j < 0) && decide (j.toNatClampNeg < n)
/-- array kinds: 50 int, 51 long, 52 byte, 53 boolean, 54 State, 55 int[] -/
def s_aload (j : Nat) (t : Lm) (a : Nat) (i : Int32) : Option Value :=
  bif lIn i (lmK t a).2 then (match j, (lmK t a).1 with
    | 0, 50 => some (.int (lmI t a i.toNatClampNeg))
    | 1, 51 => some (.long (lmL t a i.toNatClampNeg))
    | 2, 54 => some (lRef (lmR t a i.toNatClampNeg))
    | 2, 55 => some (lRef (lmR t a i.toNatClampNeg))
    | 3, 52 => some (.int (lmI t a i.toNatClampNeg))
    | 3, 53 => some (.int (lmI t a i.toNatClampNeg))
    | _, _ => none) else none
def lmSetI (t : Lm) (a k : Nat) (x : Int32) : Lm := (lmK t, up2 (lmI t) a k x, lmL t, lmR t, lmN t, lmS t)
def lmSetL (t : Lm) (a k : Nat) (x : Int64) : Lm := (lmK t, lmI t, up2 (lmL t) a k x, lmR t, lmN t, lmS t)
def lmSetR (t : Lm) (a k : Nat) (x : Option Nat) : Lm := (lmK t, lmI t, lmL t, up2 (lmR t) a k x, lmN t, lmS t)
def s_astore (j : Nat) (t : Lm) (a : Nat) (i : Int32) (v : Value) : Option Lm :=
  bif lIn i (lmK t a).2 && Nat.blt a (lmN t) then (match j, (lmK t a).1, v with
    | 0, 50, .int x => some (lmSetI t a i.toNatClampNeg x)
    | 1, 51, .long x => some (lmSetL t a i.toNatClampNeg x)
    | 2, 54, .ref b => bif Nat.beq (lmK t b).1 2 && Nat.blt b (lmN t) then some (lmSetR t a i.toNatClampNeg (some b)) else none
    | 3, 52, .int x => some (lmSetI t a i.toNatClampNeg x.toInt8.toInt32)
    | 3, 53, .int x => if x = 0 ∨ x = 1 then some (lmSetI t a i.toNatClampNeg x) else none
    | _, _, _ => none) else none
/-- links: (0, class, field) an int field, (1, ..) a boolean one, (2, ..) a reference; final ones 10 more; (30, n, _) an int, (31, n, _) a long, (32, k, _) a text; (40, k, _) a static row, (41, n, _) a static int; (50, M, _) a method; (51, _, _) Object's constructor; (52, class, _) an exception's; (53, _, _) arraycopy; (54, _, _) clone of an int row; (55, _, _) String.checkIndex; (60, class, slots) a class to be made; (61, _, _), (62, _, _) arrays of State, of int[]; (63, _, _) int[] to cast to -/
def s_getf (q : Lk) (t : Lm) (a : Nat) : Option Value :=
  bif Nat.beq (lmK t a).1 q.2.1 then (match q.1 with
    | 0 => some (.int (lmI t a q.2.2))
    | 1 => some (.int (lmI t a q.2.2))
    | 2 => some (lRef (lmR t a q.2.2))
    | 10 => some (.int (lmI t a q.2.2))
    | 12 => some (lRef (lmR t a q.2.2))
    | _ => none) else none
def lOpt (v : Value) : Option Nat := match v with
  | .ref a => some a
  | _ => none
def s_putf (own : Nat) (ini : Bool) (q : Lk) (t : Lm) (a : Nat) (v : Value) : Option Lm :=
  bif Nat.beq (lmK t a).1 q.2.1 && Nat.blt a (lmN t) then (match q.1, v with
    | 0, .int x => some (lmSetI t a q.2.2 x)
    | 1, .int x => if x = 0 ∨ x = 1 then some (lmSetI t a q.2.2 x) else none
    | 2, .ref b => some (lmSetR t a q.2.2 (some b))
    | 2, .null => some (lmSetR t a q.2.2 none)
    | 10, .int x => bif ini && Nat.beq own q.2.1 then some (lmSetI t a q.2.2 x) else none
    | 12, .ref b => bif ini && Nat.beq own q.2.1 then some (lmSetR t a q.2.2 (some b)) else none
    | _, _ => none) else none
def s_const (q : Lk) : Option Value := match q.1 with
  | 30 => some (.int (Int32.ofNat q.2.1))
  | 31 => some (.long (Int64.ofNat q.2.1))
  | 32 => some (.ref (lmB + q.2.1))
  | 40 => some (.ref (lmB + q.2.1))
  | 41 => some (.int (Int32.ofNat q.2.1))
  | _ => none
/-- a new cell of a kind, its places zero -/
def lmNew (t : Lm) (kind len slots : Nat) : Lm := (up1 (lmK t) (lmN t) (kind, len), upr (lmI t) (lmN t) (fun _ => 0), upr (lmL t) (lmN t) (fun _ => 0), upr (lmR t) (lmN t) (fun _ => none), lmN t + 1, lmS t + slots)
def lmNew2 (t : Lm) (n k : Nat) : Lm := (fun i => if i = lmN t then (55, n) else if lmN t < i ∧ i ≤ lmN t + n then (50, k) else lmK t i,
  fun i => if lmN t ≤ i ∧ i ≤ lmN t + n then fun _ => 0 else lmI t i, fun i => if lmN t ≤ i ∧ i ≤ lmN t + n then fun _ => 0 else lmL t i,
  fun i => if i = lmN t then fun j => if j < n then some (lmN t + 1 + j) else none else if lmN t < i ∧ i ≤ lmN t + n then fun _ => none else lmR t i, lmN t + 1 + n, lmS t + (n + n * k))
def s_newa (k : Nat) : Option Nat := match k with
  | 4 => some 53
  | 8 => some 52
  | 10 => some 50
  | 11 => some 51
  | _ => none
def lmFits (t : Lm) (c s : Nat) : Bool := Nat.ble (lmN t + c) lmCells && Nat.ble (lmS t + s) lmSlots
/-- System.arraycopy between two int rows that are no statics' -/
def s_copy (t : Lm) (a : Nat) (i : Int32) (b : Nat) (j n : Int32) : Option Lm :=
  bif Nat.beq (lmK t a).1 50 && Nat.beq (lmK t b).1 50 && Nat.blt a (lmN t) && Nat.blt b (lmN t) && !(Nat.beq a b) && decide (¬ i < 0) && decide (¬ j < 0) && decide (¬ n < 0) && Nat.ble (i.toNatClampNeg + n.toNatClampNeg) (lmK t a).2 && Nat.ble (j.toNatClampNeg + n.toNatClampNeg) (lmK t b).2
  then some (lmK t, upr (lmI t) b (va_cpy (lmI t a) (lmI t b) i.toNatClampNeg j.toNatClampNeg n.toNatClampNeg), lmL t, lmR t, lmN t, lmS t) else none
/-- a copy of an int row -/
def s_clone (t : Lm) (a : Nat) : Lm := (up1 (lmK t) (lmN t) (lmK t a), upr (lmI t) (lmN t) (lmI t a), upr (lmL t) (lmN t) (fun _ => 0), upr (lmR t) (lmN t) (fun _ => none), lmN t + 1, lmS t + (lmK t a).2)
