/-! THE LIGHT MACHINE's step, frame and calls -/
def s_sw (x : Int32) (lo : Int) (d : Nat) (ts : List Nat) : Nat := if x.toInt < lo then d else ts.getD (x.toInt - lo).toNat d
/-- arguments off the stack: n of them -/
def s_args (n : Nat) (st : List Value) : Option (List Value × List Value) := bif Nat.ble n st.length && Nat.ble (st.length - n) 12 then some ((st.take n).reverse, st.drop n) else none
def s_recv (t : Lm) (ci : Nat) (as : List Value) : Bool := match as with
  | .ref a :: _ => Nat.beq (lmK t a).1 ci
  | _ => false
/-- calls: 0 virtual, 1 special, 2 static; a method's link: (50, method, 10000 * kind + 100 * arguments + class of the receiver) -/
def s_call (j : Nat) (q : Lk) (pc : Nat) (ls st : List Value) (t : Lm) : Option Lx := match q.1 with
  | 50 => (s_args (q.2.2 / 100 % 100) st).bind fun p => bif Nat.beq j (q.2.2 / 10000) && (Nat.beq j 2 || s_recv t (q.2.2 % 100) p.1) then some (.inr (.inl (q.2.1, p.1, pc + 3, p.2))) else none
  | 51 => (match st with
    | .ref _ :: r => bif Nat.beq j 1 && Nat.ble r.length 12 then xGo (pc + 3) ls r t else none
    | _ => none)
  | 52 => (match st with
    | .ref m :: .ref a :: r => bif Nat.beq j 1 && Nat.ble r.length 12 && Nat.beq (lmK t a).1 q.2.1 && Nat.beq (lmK t a).2 0 && Nat.blt a (lmN t) && Nat.ble lmB m then xGo (pc + 3) ls r (up1 (lmK t) a (q.2.1, 1), lmI t, lmL t, lmR t, lmN t, lmS t) else none
    | _ => none)
  | 53 => (match st with
    | .int n :: .int i2 :: .ref b :: .int i :: .ref a :: r => bif Nat.beq j 2 && Nat.ble r.length 12 then (s_copy t a i b i2 n).bind fun t' => xGo (pc + 3) ls r t' else none
    | _ => none)
  | 54 => (match st with
    | .ref a :: r => bif Nat.beq j 0 && Nat.ble r.length 12 && Nat.beq (lmK t a).1 50 && Nat.blt a (lmN t) && lmFits t 1 (lmK t a).2 then xGo (pc + 3) ls (.ref (lmN t) :: r) (s_clone t a) else none
    | _ => none)
  | 56 => (match st with
    | .int y :: .int x :: r => bif Nat.beq j 2 && Nat.ble r.length 12 then xGo (pc + 3) ls (.int (if x < y then y else x) :: r) t else none
    | _ => none)
  | 57 => (match st with
    | .int y :: .int x :: r => bif Nat.beq j 2 && Nat.ble r.length 12 then xGo (pc + 3) ls (.int (if y < x then y else x) :: r) t else none
    | _ => none)
  | 58 => (match st with
    | .long y :: .long x :: r => bif Nat.beq j 2 && Nat.ble r.length 12 then xGo (pc + 3) ls (.long (if y < x then x else y) :: r) t else none
    | _ => none)
  | 55 => (match st with
    | .int n :: .int i :: r => bif Nat.beq j 2 && Nat.ble r.length 12 && decide (¬ i < 0) && decide (i < n) then xGo (pc + 3) ls r t else none
    | _ => none)
  | _ => none
/-- which pool entries an instruction takes: ldc, ldc_w, ldc2_w, getstatic -/
def s_zt (z : Int) (n : Nat) : Bool := match z with
  | 0 => Nat.beq n 30 || Nat.beq n 32
  | 1 => Nat.beq n 30 || Nat.beq n 32
  | 2 => Nat.beq n 31
  | 3 => Nat.beq n 40 || Nat.beq n 41
  | _ => false
def s_ret (rt : Option FieldType) (j : Nat) (st : List Value) : Option Lx := match j, rt, st with
  | 0, some ty, [.int v] => if narrow ty (.int v) = .int v then some (.inr (.inr (.inl (some (.int v))))) else none
  | 1, some .long, [.long v] => some (.inr (.inr (.inl (some (.long v)))))
  | 2, some (.array _), [.ref a] => some (.inr (.inr (.inl (some (.ref a)))))
  | 3, none, [] => some (.inr (.inr (.inl none)))
  | _, _, _ => none
def s_do (F : Lf) (q : Li) (len pc : Nat) (ls st : List Value) (t : Lm) : Option Lx := match q.1 with
  | 0 => (s_cst q.2.1 q.2.2.1 q.2.2.2.1).bind fun v => xGo (pc + len) ls (v :: st) t
  | 1 => (s_load q.2.1 q.2.2.1 ls).bind fun v => xGo (pc + len) ls (v :: st) t
  | 2 => (match st with
    | v :: r => (s_store q.2.1 q.2.2.1 ls v).bind fun ls' => xGo (pc + len) ls' r t
    | _ => none)
  | 3 => (match ls[q.2.2.1]? with
    | some (.int x) => xGo (pc + len) (lSet ls q.2.2.1 (.int (x + Int32.ofInt q.2.2.2.1))) st t
    | _ => none)
  | 4 => (match st with
    | .int y :: .int x :: r => (s_ibin q.2.1 x y).bind fun v => xGo (pc + len) ls (.int v :: r) t
    | _ => none)
  | 5 => (match st with
    | .long y :: .long x :: r => (s_lbin q.2.1 x y).bind fun v => xGo (pc + len) ls (v :: r) t
    | _ => none)
  | 6 => (match st with
    | v :: r => (s_un q.2.1 v).bind fun v => xGo (pc + len) ls (v :: r) t
    | _ => none)
  | 7 => (s_stk q.2.1 st).bind fun st => xGo (pc + len) ls st t
  | 8 => (match st with
    | .int x :: r => xGo (bif s_cmp q.2.1 x 0 then q.2.2.1 else pc + len) ls r t
    | _ => none)
  | 9 => (match st with
    | .int y :: .int x :: r => xGo (bif s_cmp q.2.1 x y then q.2.2.1 else pc + len) ls r t
    | _ => none)
  | 10 => xGo q.2.2.1 ls st t
  | 11 => (match q.2.1, st with
    | 0, .null :: r => xGo q.2.2.1 ls r t
    | 0, .ref _ :: r => xGo (pc + len) ls r t
    | 1, .null :: r => xGo (pc + len) ls r t
    | 1, .ref _ :: r => xGo q.2.2.1 ls r t
    | _, _ => none)
  | 12 => (match st with
    | .int x :: r => xGo (s_sw x q.2.2.2.1 q.2.2.1 q.2.2.2.2) ls r t
    | _ => none)
  | 13 => (F.2.2.2.2.1 q.2.2.1).bind fun k => bif s_zt q.2.2.2.1 k.1 then (s_const k).bind fun v => xGo (pc + len) ls (v :: st) t else none
  | 14 => (match st with
    | .ref a :: r => (F.2.2.2.2.1 q.2.2.1).bind fun k => (s_getf k t a).bind fun v => xGo (pc + len) ls (v :: r) t
    | _ => none)
  | 15 => (match st with
    | v :: .ref a :: r => (F.2.2.2.2.1 q.2.2.1).bind fun k => (s_putf F.1 F.2.1 k t a v).bind fun t' => xGo (pc + len) ls r t'
    | _ => none)
  | 16 => (match st with
    | .int i :: .ref a :: r => (s_aload q.2.1 t a i).bind fun v => xGo (pc + len) ls (v :: r) t
    | _ => none)
  | 17 => (match st with
    | v :: .int i :: .ref a :: r => (s_astore q.2.1 t a i v).bind fun t' => xGo (pc + len) ls r t'
    | _ => none)
  | 18 => (match st with
    | .ref a :: r => bif Nat.ble 50 (lmK t a).1 && Nat.blt (lmK t a).1 56 then xGo (pc + len) ls (.int (Int32.ofNat (lmK t a).2) :: r) t else none
    | _ => none)
  | 19 => (match st with
    | .int n :: r => bif decide (¬ n < 0) && Nat.ble n.toNatClampNeg 65536 && lmFits t 1 n.toNatClampNeg then (s_newa q.2.2.1).bind fun k => xGo (pc + len) ls (.ref (lmN t) :: r) (lmNew t k n.toNatClampNeg n.toNatClampNeg) else none
    | _ => none)
  | 20 => (F.2.2.2.2.1 q.2.2.1).bind fun k => bif Nat.beq k.1 60 && lmFits t 1 k.2.2 then xGo (pc + len) ls (.ref (lmN t) :: st) (lmNew t k.2.1 0 k.2.2) else none
  | 21 => (match st with
    | .int n :: r => (F.2.2.2.2.1 q.2.2.1).bind fun k => bif Nat.beq k.1 60 && Nat.beq k.2.1 2 && decide (¬ n < 0) && Nat.ble n.toNatClampNeg 65536 && lmFits t 1 n.toNatClampNeg then xGo (pc + len) ls (.ref (lmN t) :: r) (lmNew t 54 n.toNatClampNeg n.toNatClampNeg) else none
    | _ => none)
  | 22 => (match st with
    | .int k :: .int n :: r => (F.2.2.2.2.1 q.2.2.1).bind fun z => bif Nat.beq z.1 62 && decide (¬ n < 0) && decide (¬ k < 0) && Nat.ble n.toNatClampNeg 65536 && Nat.ble k.toNatClampNeg 65536 && lmFits t (1 + n.toNatClampNeg) (n.toNatClampNeg + n.toNatClampNeg * k.toNatClampNeg) then xGo (pc + len) ls (.ref (lmN t) :: r) (lmNew2 t n.toNatClampNeg k.toNatClampNeg) else none
    | _ => none)
  | 23 => (F.2.2.2.2.1 q.2.2.1).bind fun k => s_call q.2.1 k pc ls st t
  | 24 => s_ret F.2.2.1 q.2.1 st
  | 26 => (match st with
    | .ref a :: r => (F.2.2.2.2.1 q.2.2.1).bind fun k => bif Nat.beq k.1 63 && Nat.beq (lmK t a).1 50 && Nat.blt a (lmN t) then xGo (pc + len) ls st t else none
    | _ => none)
  | 25 => (match st with
    | .ref a :: _ => bif Nat.blt a (lmN t) && Nat.ble 14 (lmK t a).1 && Nat.blt (lmK t a).1 19 then some (.inr (.inr (.inr a))) else none
    | _ => none)
  | _ => none
def s_step (F : Lf) (pc : Nat) (ls st : List Value) (t : Lm) : Option Lx := match lc_at pc F.2.2.2.2.2 with
  | none => none
  | some (q, len) => s_do F q len pc ls st t
/-- what a method ends with: a value or nothing, or an exception's cell -/
abbrev Lo : Type := (Option Value) ⊕ Nat
/-- the handler for an exception of a class at a pc -/
def s_find (pc ci : Nat) : List (Nat × Nat × Nat × Nat) → Option Nat
  | [] => none
  | h :: r => bif Nat.ble h.1 pc && Nat.blt pc h.2.1 && Nat.beq h.2.2.2 ci then some h.2.2.1 else s_find pc ci r
abbrev Lcall : Type := Nat → List Value → Lm → Option (Lo × Lm)
/-- a frame: it runs by fuel; calls are answered by C -/
def s_run (C : Lcall) (F : Lf) : Nat → Nat → List Value → List Value → Lm → Option (Lo × Lm)
  | 0, _, _, _, _ => none
  | n + 1, pc, ls, st, t => match s_step F pc ls st t with
    | none => none
    | some (.inl (pc', ls', st', t')) => s_run C F n pc' ls' st' t'
    | some (.inr (.inl (M, as, pc', r))) => (match C M as t with
      | none => none
      | some (.inl none, t') => s_run C F n pc' ls r t'
      | some (.inl (some v), t') => s_run C F n pc' ls (v :: r) t'
      | some (.inr a, t') => (match s_find pc (lmK t' a).1 F.2.2.2.1 with
        | some h => s_run C F n h ls [.ref a] t'
        | none => some (.inr a, t')))
    | some (.inr (.inr (.inl v))) => some (.inl v, t)
    | some (.inr (.inr (.inr a))) => (match s_find pc (lmK t a).1 F.2.2.2.1 with
      | some h => s_run C F n h ls [.ref a] t
      | none => some (.inr a, t))
/-- the locals of a method that begins -/
def s_locs : List Value → List Value
  | [] => []
  | v :: r => bif isL v then v :: lDead :: s_locs r else v :: s_locs r
def s_enter (n : Nat) (as : List Value) : Option (List Value) := bif Nat.ble (s_locs as).length n then some (s_locs as ++ List.replicate (n - (s_locs as).length) lDead) else none
/-- the methods: locals, frame -/
def s_callB (T : Nat → Option (Nat × Lf)) (N : Nat) : Nat → Lcall
  | 0, _, _, _ => none
  | d + 1, M, as, t => match T M with
    | none => none
    | some (n, F) => (match s_enter n as with
      | none => none
      | some ls => s_run (s_callB T N d) F N 0 ls [] t)
/-! more fuel, deeper calls: the same end -/
def cLe (C C' : Lcall) : Prop := ∀ M as t r, C M as t = some r → C' M as t = some r
theorem s_run_mono {C C' : Lcall} (h : cLe C C') {F : Lf} : ∀ {n n' : Nat}, n ≤ n' → ∀ {pc : Nat} {ls st : List Value} {t : Lm} {r : Lo × Lm}, s_run C F n pc ls st t = some r → s_run C' F n' pc ls st t = some r
  | 0, _, _, _, _, _, _, _, e => by cases e
  | n + 1, 0, hn, _, _, _, _, _, _ => absurd hn (by omega)
  | n + 1, n' + 1, hn, pc, ls, st, t, r, e => by
    have ih := fun {pc ls st t r} => s_run_mono h (F := F) (n := n) (n' := n') (by omega) (pc := pc) (ls := ls) (st := st) (t := t) (r := r)
    rw [s_run] at e ⊢
    cases hs : s_step F pc ls st t with
    | none => rw [hs] at e; cases e
    | some x =>
      rw [hs] at e
      match x, e with
      | .inl (pc', ls', st', t'), e => exact ih e
      | .inr (.inl (M, as, pc', q)), e =>
        dsimp only at e ⊢
        cases hc : C M as t with
        | none => rw [hc] at e; cases e
        | some y =>
          rw [hc] at e
          rw [h _ _ _ _ hc]
          match y, e with
          | (.inl none, t'), e => exact ih e
          | (.inl (some v), t'), e => exact ih e
          | (.inr a, t'), e =>
            dsimp only at e ⊢
            cases hf : s_find pc (lmK t' a).1 F.2.2.2.1 with
            | none => rw [hf] at e; exact e
            | some k => rw [hf] at e; exact ih e
      | .inr (.inr (.inl v)), e => exact e
      | .inr (.inr (.inr a)), e =>
        dsimp only at e ⊢
        cases hf : s_find pc (lmK t a).1 F.2.2.2.1 with
        | none => rw [hf] at e; exact e
        | some k => rw [hf] at e; exact ih e
theorem s_callB_mono {T : Nat → Option (Nat × Lf)} {N N' : Nat} (hN : N ≤ N') : ∀ {d d' : Nat}, d ≤ d' → cLe (s_callB T N d) (s_callB T N' d')
  | 0, _, _ => fun _ _ _ _ e => by cases e
  | d + 1, 0, h => absurd h (by omega)
  | d + 1, d' + 1, h => fun M as t r e => by
    have ih := s_callB_mono (T := T) hN (d := d) (d' := d') (by omega)
    rw [s_callB] at e ⊢
    cases hT : T M with
    | none => rw [hT] at e; cases e
    | some x =>
      obtain ⟨n, F⟩ := x
      rw [hT] at e
      dsimp only at e ⊢
      cases hl : s_enter n as with
      | none => rw [hl] at e; cases e
      | some ls =>
        rw [hl] at e
        exact s_run_mono ih hN e
def mF (r : Mr) : Lf := (r.1.2.2.1, r.1.2.2.2.2, r.2.2.2.1, r.2.2.2.2.1, lk r.1.2.2.1, r.2.2.2.2.2.2.2.1)
def mTab (M : Nat) : Option (Nat × Lf) := (mRow M).map fun r => (r.2.2.1, mF r)
